/-! RobotCellModel.thrown()I -/
def fX12_thrown (S : MS) : Option (Int32 × MS) :=
  some (gI S 0, S)
theorem oX12_thrown : ok_v yX12_thrown cX12_thrown 1 (some .int) 0 := ⟨kw_1163, kw_1161, kw_1162, kw_73, by decide +kernel⟩
set_option maxRecDepth 100000 in
theorem tX12_thrown_0 {p : Program} {l : Launch} {e : Env} {s : State} {m : MethodId} {args : Array Value} {below : List Frame} {meth : Method} {c : Code} {g : MG} (C : CC p s m args meth c yX12_thrown cX12_thrown 1 (some .int)) (K : mK g s) (G : mSep g)  (S : MS) {w : Int32 × MS} (hv : fX12_thrown S = some w) : MJ p l e s m args below meth c 1 0 g (some (.int w.1)) w.2 0 [(0, .ref (mo g))] [] S := by
  unfold fX12_thrown at hv
  refine jr_aload_n C dX12_thrown_0 rfl 0 rfl ?_
  refine jm_getI C K 0 (by decide) rfl kw_1435 rfl dX12_thrown_1 ?_
  exact jm_iret C K dX12_thrown_4 (Option.some.inj hv)
theorem pX12_thrown (l : Launch) {g : MG} (G : mSep g) (S : MS)  {w : Int32} {S' : MS} (hw : fX12_thrown S = some (w, S')) : mC l yX12_thrown cX12_thrown 1 (some .int) 0 g [.ref (mo g)] S (some (.int w)) S' := mC_of (by decide +kernel) (Nat.le_of_ble_eq_true rfl) rfl (fun C K => tX12_thrown_0 C K G S hw)
/-! RobotCellModel.multiplies(JJ)V -/
def fX12_multiplies_87 (S : MS) : Option (MS) :=
  some S
def fX12_multiplies_77 (S : MS) (v15 : Int64) : Option (MS) :=
  fX12_multiplies_87 (pJ S 2 (v15 &&& 18014398509481983))
def fX12_multiplies_56 (S : MS) (v5 : Int64) (v9 : Int64) (v13 : Int64) (v15 : Int64) : Option (MS) :=
  fX12_multiplies_77 (pJ S 1 (((v5 * v9) + (v13 >>> ((27 : Int32).toInt64 &&& 63))) + (v15 >>> ((54 : Int32).toInt64 &&& 63)))) v15
def fX12_multiplies_39 (S : MS) (v5 : Int64) (v7 : Int64) (v9 : Int64) (v11 : Int64) (v13 : Int64) : Option (MS) :=
  fX12_multiplies_56 S v5 v9 v13 ((v7 * v11) + ((v13 &&& 134217727) <<< ((27 : Int32).toInt64 &&& 63)))
def fX12_multiplies_26 (S : MS) (v5 : Int64) (v7 : Int64) (v9 : Int64) (v11 : Int64) : Option (MS) :=
  fX12_multiplies_39 S v5 v7 v9 v11 ((v5 * v11) + (v7 * v9))
def fX12_multiplies_19 (S : MS) (v3 : Int64) (v5 : Int64) (v7 : Int64) (v9 : Int64) : Option (MS) :=
  fX12_multiplies_26 S v5 v7 v9 (v3 &&& 134217727)
def fX12_multiplies_13 (S : MS) (v3 : Int64) (v5 : Int64) (v7 : Int64) : Option (MS) :=
  fX12_multiplies_19 S v3 v5 v7 (v3 >>> ((27 : Int32).toInt64 &&& 63))
def fX12_multiplies_6 (S : MS) (v1 : Int64) (v3 : Int64) (v5 : Int64) : Option (MS) :=
  fX12_multiplies_13 S v3 v5 (v1 &&& 134217727)
def fX12_multiplies (S : MS) (v1 : Int64) (v3 : Int64) : Option (MS) :=
  fX12_multiplies_6 S v1 v3 (v1 >>> ((27 : Int32).toInt64 &&& 63))
theorem oX12_multiplies : ok_v yX12_multiplies cX12_multiplies 17 none 2 := ⟨kw_1269, kw_1268, kw_51, kw_73, by decide +kernel⟩
set_option maxRecDepth 100000 in
theorem tX12_multiplies_87 {p : Program} {l : Launch} {e : Env} {s : State} {m : MethodId} {args : Array Value} {below : List Frame} {meth : Method} {c : Code} {g : MG} (C : CC p s m args meth c yX12_multiplies cX12_multiplies 17 none) (K : mK g s) (G : mSep g)  (S : MS) {w : MS} (hv : fX12_multiplies_87 S = some w) : MJ p l e s m args below meth c 17 0 g none w 87 [] [] S := by
  unfold fX12_multiplies_87 at hv
  exact jm_vret C K dX12_multiplies_87 (Option.some.inj hv)
set_option maxRecDepth 100000 in
theorem tX12_multiplies_77 {p : Program} {l : Launch} {e : Env} {s : State} {m : MethodId} {args : Array Value} {below : List Frame} {meth : Method} {c : Code} {g : MG} (C : CC p s m args meth c yX12_multiplies cX12_multiplies 17 none) (K : mK g s) (G : mSep g)  (S : MS) (v15 : Int64) {w : MS} (hv : fX12_multiplies_77 S v15 = some w) : MJ p l e s m args below meth c 17 0 g none w 77 [(0, .ref (mo g)), (15, .long v15)] [] S := by
  unfold fX12_multiplies_77 at hv
  refine jr_aload_n C dX12_multiplies_77 rfl 0 rfl ?_
  refine jr_lload C dX12_multiplies_78 1 rfl ?_
  refine jr_ldc2 C kw_1271 dX12_multiplies_80 ?_
  refine jr_land C dX12_multiplies_83 ?_
  refine jm_putJ C K G 2 (by decide) rfl kw_1437 rfl rfl (by decide +kernel) dX12_multiplies_84 ?_
  exact jr_sub [] rfl (tX12_multiplies_87 C K G  (pJ S 2 (v15 &&& 18014398509481983)) hv)
set_option maxRecDepth 100000 in
theorem tX12_multiplies_56 {p : Program} {l : Launch} {e : Env} {s : State} {m : MethodId} {args : Array Value} {below : List Frame} {meth : Method} {c : Code} {g : MG} (C : CC p s m args meth c yX12_multiplies cX12_multiplies 17 none) (K : mK g s) (G : mSep g)  (S : MS) (v5 : Int64) (v9 : Int64) (v13 : Int64) (v15 : Int64) {w : MS} (hv : fX12_multiplies_56 S v5 v9 v13 v15 = some w) : MJ p l e s m args below meth c 17 0 g none w 56 [(0, .ref (mo g)), (5, .long v5), (9, .long v9), (13, .long v13), (15, .long v15)] [] S := by
  unfold fX12_multiplies_56 at hv
  refine jr_aload_n C dX12_multiplies_56 rfl 0 rfl ?_
  refine jr_lload C dX12_multiplies_57 1 rfl ?_
  refine jr_lload C dX12_multiplies_59 2 rfl ?_
  refine jr_lmul C dX12_multiplies_61 ?_
  refine jr_lload C dX12_multiplies_62 3 rfl ?_
  refine jr_bipush (v := 27) C dX12_multiplies_64 (by decide) ?_
  refine jr_lshr C dX12_multiplies_66 ?_
  refine jr_ladd C dX12_multiplies_67 ?_
  refine jr_lload C dX12_multiplies_68 4 rfl ?_
  refine jr_bipush (v := 54) C dX12_multiplies_70 (by decide) ?_
  refine jr_lshr C dX12_multiplies_72 ?_
  refine jr_ladd C dX12_multiplies_73 ?_
  refine jm_putJ C K G 1 (by decide) rfl kw_1436 rfl rfl (by decide +kernel) dX12_multiplies_74 ?_
  exact jr_sub [0, 4] rfl (tX12_multiplies_77 C K G  (pJ S 1 (((v5 * v9) + (v13 >>> ((27 : Int32).toInt64 &&& 63))) + (v15 >>> ((54 : Int32).toInt64 &&& 63)))) v15 hv)
set_option maxRecDepth 100000 in
theorem tX12_multiplies_39 {p : Program} {l : Launch} {e : Env} {s : State} {m : MethodId} {args : Array Value} {below : List Frame} {meth : Method} {c : Code} {g : MG} (C : CC p s m args meth c yX12_multiplies cX12_multiplies 17 none) (K : mK g s) (G : mSep g)  (S : MS) (v5 : Int64) (v7 : Int64) (v9 : Int64) (v11 : Int64) (v13 : Int64) {w : MS} (hv : fX12_multiplies_39 S v5 v7 v9 v11 v13 = some w) : MJ p l e s m args below meth c 17 0 g none w 39 [(0, .ref (mo g)), (5, .long v5), (7, .long v7), (9, .long v9), (11, .long v11), (13, .long v13)] [] S := by
  unfold fX12_multiplies_39 at hv
  refine jr_lload C dX12_multiplies_39 2 rfl ?_
  refine jr_lload C dX12_multiplies_41 4 rfl ?_
  refine jr_lmul C dX12_multiplies_43 ?_
  refine jr_lload C dX12_multiplies_44 5 rfl ?_
  refine jr_ldc2 C kw_1270 dX12_multiplies_46 ?_
  refine jr_land C dX12_multiplies_49 ?_
  refine jr_bipush (v := 27) C dX12_multiplies_50 (by decide) ?_
  refine jr_lshl C dX12_multiplies_52 ?_
  refine jr_ladd C dX12_multiplies_53 ?_
  refine jr_lstore (lv' := [(15, .long ((v7 * v11) + ((v13 &&& 134217727) <<< ((27 : Int32).toInt64 &&& 63)))), (0, .ref (mo g)), (5, .long v5), (7, .long v7), (9, .long v9), (11, .long v11), (13, .long v13)]) C dX12_multiplies_54 (by decide) rfl ?_
  exact jr_sub [1, 2, 4, 6, 0] rfl (tX12_multiplies_56 C K G  S v5 v9 v13 ((v7 * v11) + ((v13 &&& 134217727) <<< ((27 : Int32).toInt64 &&& 63))) hv)
set_option maxRecDepth 100000 in
theorem tX12_multiplies_26 {p : Program} {l : Launch} {e : Env} {s : State} {m : MethodId} {args : Array Value} {below : List Frame} {meth : Method} {c : Code} {g : MG} (C : CC p s m args meth c yX12_multiplies cX12_multiplies 17 none) (K : mK g s) (G : mSep g)  (S : MS) (v5 : Int64) (v7 : Int64) (v9 : Int64) (v11 : Int64) {w : MS} (hv : fX12_multiplies_26 S v5 v7 v9 v11 = some w) : MJ p l e s m args below meth c 17 0 g none w 26 [(0, .ref (mo g)), (5, .long v5), (7, .long v7), (9, .long v9), (11, .long v11)] [] S := by
  unfold fX12_multiplies_26 at hv
  refine jr_lload C dX12_multiplies_26 1 rfl ?_
  refine jr_lload C dX12_multiplies_28 4 rfl ?_
  refine jr_lmul C dX12_multiplies_30 ?_
  refine jr_lload C dX12_multiplies_31 2 rfl ?_
  refine jr_lload C dX12_multiplies_33 3 rfl ?_
  refine jr_lmul C dX12_multiplies_35 ?_
  refine jr_ladd C dX12_multiplies_36 ?_
  refine jr_lstore (lv' := [(13, .long ((v5 * v11) + (v7 * v9))), (0, .ref (mo g)), (5, .long v5), (7, .long v7), (9, .long v9), (11, .long v11)]) C dX12_multiplies_37 (by decide) rfl ?_
  exact jr_sub [1, 2, 3, 4, 5, 0] rfl (tX12_multiplies_39 C K G  S v5 v7 v9 v11 ((v5 * v11) + (v7 * v9)) hv)
set_option maxRecDepth 100000 in
theorem tX12_multiplies_19 {p : Program} {l : Launch} {e : Env} {s : State} {m : MethodId} {args : Array Value} {below : List Frame} {meth : Method} {c : Code} {g : MG} (C : CC p s m args meth c yX12_multiplies cX12_multiplies 17 none) (K : mK g s) (G : mSep g)  (S : MS) (v3 : Int64) (v5 : Int64) (v7 : Int64) (v9 : Int64) {w : MS} (hv : fX12_multiplies_19 S v3 v5 v7 v9 = some w) : MJ p l e s m args below meth c 17 0 g none w 19 [(0, .ref (mo g)), (3, .long v3), (5, .long v5), (7, .long v7), (9, .long v9)] [] S := by
  unfold fX12_multiplies_19 at hv
  refine jr_lload_n C dX12_multiplies_19 rfl 1 rfl ?_
  refine jr_ldc2 C kw_1270 dX12_multiplies_20 ?_
  refine jr_land C dX12_multiplies_23 ?_
  refine jr_lstore (lv' := [(11, .long (v3 &&& 134217727)), (0, .ref (mo g)), (3, .long v3), (5, .long v5), (7, .long v7), (9, .long v9)]) C dX12_multiplies_24 (by decide) rfl ?_
  exact jr_sub [1, 3, 4, 5, 0] rfl (tX12_multiplies_26 C K G  S v5 v7 v9 (v3 &&& 134217727) hv)
set_option maxRecDepth 100000 in
theorem tX12_multiplies_13 {p : Program} {l : Launch} {e : Env} {s : State} {m : MethodId} {args : Array Value} {below : List Frame} {meth : Method} {c : Code} {g : MG} (C : CC p s m args meth c yX12_multiplies cX12_multiplies 17 none) (K : mK g s) (G : mSep g)  (S : MS) (v3 : Int64) (v5 : Int64) (v7 : Int64) {w : MS} (hv : fX12_multiplies_13 S v3 v5 v7 = some w) : MJ p l e s m args below meth c 17 0 g none w 13 [(0, .ref (mo g)), (3, .long v3), (5, .long v5), (7, .long v7)] [] S := by
  unfold fX12_multiplies_13 at hv
  refine jr_lload_n C dX12_multiplies_13 rfl 1 rfl ?_
  refine jr_bipush (v := 27) C dX12_multiplies_14 (by decide) ?_
  refine jr_lshr C dX12_multiplies_16 ?_
  refine jr_lstore (lv' := [(9, .long (v3 >>> ((27 : Int32).toInt64 &&& 63))), (0, .ref (mo g)), (3, .long v3), (5, .long v5), (7, .long v7)]) C dX12_multiplies_17 (by decide) rfl ?_
  exact jr_sub [1, 2, 3, 4, 0] rfl (tX12_multiplies_19 C K G  S v3 v5 v7 (v3 >>> ((27 : Int32).toInt64 &&& 63)) hv)
set_option maxRecDepth 100000 in
theorem tX12_multiplies_6 {p : Program} {l : Launch} {e : Env} {s : State} {m : MethodId} {args : Array Value} {below : List Frame} {meth : Method} {c : Code} {g : MG} (C : CC p s m args meth c yX12_multiplies cX12_multiplies 17 none) (K : mK g s) (G : mSep g)  (S : MS) (v1 : Int64) (v3 : Int64) (v5 : Int64) {w : MS} (hv : fX12_multiplies_6 S v1 v3 v5 = some w) : MJ p l e s m args below meth c 17 0 g none w 6 [(0, .ref (mo g)), (1, .long v1), (3, .long v3), (5, .long v5)] [] S := by
  unfold fX12_multiplies_6 at hv
  refine jr_lload_n C dX12_multiplies_6 rfl 1 rfl ?_
  refine jr_ldc2 C kw_1270 dX12_multiplies_7 ?_
  refine jr_land C dX12_multiplies_10 ?_
  refine jr_lstore (lv' := [(7, .long (v1 &&& 134217727)), (0, .ref (mo g)), (1, .long v1), (3, .long v3), (5, .long v5)]) C dX12_multiplies_11 (by decide) rfl ?_
  exact jr_sub [1, 3, 4, 0] rfl (tX12_multiplies_13 C K G  S v3 v5 (v1 &&& 134217727) hv)
set_option maxRecDepth 100000 in
theorem tX12_multiplies_0 {p : Program} {l : Launch} {e : Env} {s : State} {m : MethodId} {args : Array Value} {below : List Frame} {meth : Method} {c : Code} {g : MG} (C : CC p s m args meth c yX12_multiplies cX12_multiplies 17 none) (K : mK g s) (G : mSep g)  (S : MS) (v1 : Int64) (v3 : Int64) {w : MS} (hv : fX12_multiplies S v1 v3 = some w) : MJ p l e s m args below meth c 17 0 g none w 0 [(0, .ref (mo g)), (1, .long v1), (3, .long v3)] [] S := by
  unfold fX12_multiplies at hv
  refine jr_lload_n C dX12_multiplies_0 rfl 1 rfl ?_
  refine jr_bipush (v := 27) C dX12_multiplies_1 (by decide) ?_
  refine jr_lshr C dX12_multiplies_3 ?_
  refine jr_lstore (lv' := [(5, .long (v1 >>> ((27 : Int32).toInt64 &&& 63))), (0, .ref (mo g)), (1, .long v1), (3, .long v3)]) C dX12_multiplies_4 (by decide) rfl ?_
  exact jr_sub [1, 2, 3, 0] rfl (tX12_multiplies_6 C K G  S v1 v3 (v1 >>> ((27 : Int32).toInt64 &&& 63)) hv)
theorem pX12_multiplies (l : Launch) {g : MG} (G : mSep g) (S : MS) (v1 : Int64) (v3 : Int64) {S' : MS} (hw : fX12_multiplies S v1 v3 = some S') : mC l yX12_multiplies cX12_multiplies 17 none 0 g [.ref (mo g), .long v1, .long v3] S none S' := mC_of (by decide +kernel) (Nat.le_of_ble_eq_true rfl) rfl (fun C K => tX12_multiplies_0 C K G S v1 v3 hw)
/-! RobotCellModel.product(JJ)J -/
def fX12_product_74 (S : MS) : Option (Int64 × MS) :=
  some (9221120237041090560, S)
def fX12_product_92 (S : MS) (v5 : Int32) : Option (Int64 × MS) :=
  if v5 = 0 then some (9218868437227405312, S) else some ((-4503599627370496), S)
def fX12_product_121 (S : MS) (v5 : Int32) : Option (Int64 × MS) :=
  if v5 = 0 then some (0, S) else some ((-9223372036854775808), S)
def fX12_product_233 (S : MS) (t0 : Int32) (t1 : Int64) (t2 : Int32) (t3 : Int32) : Option (Int64 × MS) :=
  Option.bind (fX12_made t0 t1 t2 t3) (fun c233 => some (c233, S))
def fX12_product_185 (S : MS) (v5 : Int32) (v6 : Int64) (v8 : Int64) (v10 : Int32) : Option (Int64 × MS) :=
  Option.bind (fX12_multiplies S v6 v8) (fun c190 => if ((gJ c190 2) &&& 17592186044415) = 0 then fX12_product_233 c190 v5 (((gJ c190 1) <<< ((10 : Int32).toInt64 &&& 63)) + ((gJ c190 2) >>> ((44 : Int32).toInt64 &&& 63))) (v10 + 44) 0 else fX12_product_233 c190 v5 (((gJ c190 1) <<< ((10 : Int32).toInt64 &&& 63)) + ((gJ c190 2) >>> ((44 : Int32).toInt64 &&& 63))) (v10 + 44) 1)
def fX12_product_78 (S : MS) (v1 : Int64) (v3 : Int64) (v5 : Int32) : Option (Int64 × MS) :=
  if (fX12_isInfinite v1) = 0 then (if (fX12_isInfinite v3) = 0 then (if (fX12_isZero v1) = 0 then (if (fX12_isZero v3) = 0 then (Option.bind (fX12_full (fX12_digits v1)) (fun c138 => Option.bind (fX12_full (fX12_digits v3)) (fun c147 => Option.bind (fX12_bitsOf (fX12_digits v1)) (fun c162 => Option.bind (fX12_bitsOf (fX12_digits v3)) (fun c178 => fX12_product_185 S v5 c138 c147 ((((fX12_unit v1) - (53 - c162)) + (fX12_unit v3)) - (53 - c178))))))) else fX12_product_121 S v5) else fX12_product_121 S v5) else fX12_product_92 S v5) else fX12_product_92 S v5
def fX12_product_60 (S : MS) (v1 : Int64) (v3 : Int64) (v5 : Int32) : Option (Int64 × MS) :=
  if (fX12_isZero v1) = 0 then fX12_product_78 S v1 v3 v5 else (if (fX12_isInfinite v3) = 0 then fX12_product_78 S v1 v3 v5 else fX12_product_74 S)
def fX12_product_30 (S : MS) (v1 : Int64) (v3 : Int64) (t0 : Int32) : Option (Int64 × MS) :=
  if (fX12_isLost v1) = 0 then (if (fX12_isLost v3) = 0 then (if (fX12_isInfinite v1) = 0 then fX12_product_60 S v1 v3 t0 else (if (fX12_isZero v3) = 0 then fX12_product_60 S v1 v3 t0 else fX12_product_74 S)) else fX12_product_74 S) else fX12_product_74 S
def fX12_product_22 (S : MS) (v1 : Int64) (v3 : Int64) (t0 : Int32) (t1 : Int32) : Option (Int64 × MS) :=
  if t0 = t1 then fX12_product_30 S v1 v3 0 else fX12_product_30 S v1 v3 1
def fX12_product_11 (S : MS) (v1 : Int64) (v3 : Int64) (t0 : Int32) : Option (Int64 × MS) :=
  if 0 ≤ v3 then fX12_product_22 S v1 v3 t0 0 else fX12_product_22 S v1 v3 t0 1
def fX12_product (S : MS) (v1 : Int64) (v3 : Int64) : Option (Int64 × MS) :=
  if 0 ≤ v1 then fX12_product_11 S v1 v3 0 else fX12_product_11 S v1 v3 1
theorem oX12_product : ok_v yX12_product cX12_product 11 (some .long) 2 := ⟨kw_1265, kw_1264, kw_50, kw_73, by decide +kernel⟩
set_option maxRecDepth 100000 in
theorem tX12_product_74 {p : Program} {l : Launch} {e : Env} {s : State} {m : MethodId} {args : Array Value} {below : List Frame} {meth : Method} {c : Code} {g : MG} (C : CC p s m args meth c yX12_product cX12_product 11 (some .long)) (K : mK g s) (G : mSep g)  (S : MS) {w : Int64 × MS} (hv : fX12_product_74 S = some w) : MJ p l e s m args below meth c 11 3 g (some (.long w.1)) w.2 74 [] [] S := by
  unfold fX12_product_74 at hv
  refine jr_ldc2 C kw_1208 dX12_product_74 ?_
  exact jm_lret C K dX12_product_77 (Option.some.inj hv)
set_option maxRecDepth 100000 in
theorem tX12_product_92 {p : Program} {l : Launch} {e : Env} {s : State} {m : MethodId} {args : Array Value} {below : List Frame} {meth : Method} {c : Code} {g : MG} (C : CC p s m args meth c yX12_product cX12_product 11 (some .long)) (K : mK g s) (G : mSep g)  (S : MS) (v5 : Int32) {w : Int64 × MS} (hv : fX12_product_92 S v5 = some w) : MJ p l e s m args below meth c 11 3 g (some (.long w.1)) w.2 92 [(5, .int v5)] [] S := by
  unfold fX12_product_92 at hv
  refine jr_iload C dX12_product_92 0 rfl ?_
  refine jr_if_eq (tgt := 103) C dX12_product_94 rfl (fun q94 => ?_) (fun q94 => ?_)
  · have hv := (if_pos q94).symm.trans hv
    refine jr_ldc2 C kw_1207 dX12_product_103 ?_
    exact jm_lret C K dX12_product_106 (Option.some.inj hv)
  · have hv := (if_neg q94).symm.trans hv
    refine jr_ldc2 C kw_1238 dX12_product_97 ?_
    refine jr_goto (tgt := 106) C dX12_product_100 rfl ?_
    exact jm_lret C K dX12_product_106 (Option.some.inj hv)
set_option maxRecDepth 100000 in
theorem tX12_product_121 {p : Program} {l : Launch} {e : Env} {s : State} {m : MethodId} {args : Array Value} {below : List Frame} {meth : Method} {c : Code} {g : MG} (C : CC p s m args meth c yX12_product cX12_product 11 (some .long)) (K : mK g s) (G : mSep g)  (S : MS) (v5 : Int32) {w : Int64 × MS} (hv : fX12_product_121 S v5 = some w) : MJ p l e s m args below meth c 11 3 g (some (.long w.1)) w.2 121 [(5, .int v5)] [] S := by
  unfold fX12_product_121 at hv
  refine jr_iload C dX12_product_121 0 rfl ?_
  refine jr_if_eq (tgt := 132) C dX12_product_123 rfl (fun q123 => ?_) (fun q123 => ?_)
  · have hv := (if_pos q123).symm.trans hv
    refine jr_lconst (v := 0) C dX12_product_132 (by decide) ?_
    exact jm_lret C K dX12_product_133 (Option.some.inj hv)
  · have hv := (if_neg q123).symm.trans hv
    refine jr_ldc2 C kw_1224 dX12_product_126 ?_
    refine jr_goto (tgt := 133) C dX12_product_129 rfl ?_
    exact jm_lret C K dX12_product_133 (Option.some.inj hv)
set_option maxRecDepth 100000 in
theorem tX12_product_233 {p : Program} {l : Launch} {e : Env} {s : State} {m : MethodId} {args : Array Value} {below : List Frame} {meth : Method} {c : Code} {g : MG} (C : CC p s m args meth c yX12_product cX12_product 11 (some .long)) (K : mK g s) (G : mSep g)  (S : MS) (t0 : Int32) (t1 : Int64) (t2 : Int32) (t3 : Int32) {w : Int64 × MS} (hv : fX12_product_233 S t0 t1 t2 t3 = some w) : MJ p l e s m args below meth c 11 3 g (some (.long w.1)) w.2 233 [] [.int t3, .int t2, .long t1, .int t0] S := by
  unfold fX12_product_233 at hv
  obtain ⟨c233, hc233, hv⟩ := Option.bind_eq_some_iff.mp hv
  refine jr_pcall (rest := []) C (pX12_made l t0 t1 t2 t3 hc233) oX12_made kw_1250 rfl ⟨Nat.le_of_ble_eq_true rfl, Nat.le_of_ble_eq_true rfl⟩ rfl (Nat.le_of_ble_eq_true rfl) ⟨Nat.zero_le _, Nat.zero_le _⟩ dX12_product_233 ?_
  exact jm_lret C K dX12_product_236 (Option.some.inj hv)
set_option maxRecDepth 100000 in
theorem tX12_product_185 {p : Program} {l : Launch} {e : Env} {s : State} {m : MethodId} {args : Array Value} {below : List Frame} {meth : Method} {c : Code} {g : MG} (C : CC p s m args meth c yX12_product cX12_product 11 (some .long)) (K : mK g s) (G : mSep g)  (S : MS) (v5 : Int32) (v6 : Int64) (v8 : Int64) (v10 : Int32) {w : Int64 × MS} (hv : fX12_product_185 S v5 v6 v8 v10 = some w) : MJ p l e s m args below meth c 11 3 g (some (.long w.1)) w.2 185 [(0, .ref (mo g)), (5, .int v5), (6, .long v6), (8, .long v8), (10, .int v10)] [] S := by
  unfold fX12_product_185 at hv
  refine jr_aload_n C dX12_product_185 rfl 0 rfl ?_
  refine jr_lload C dX12_product_186 2 rfl ?_
  refine jr_lload C dX12_product_188 3 rfl ?_
  obtain ⟨c190, hc190, hv⟩ := Option.bind_eq_some_iff.mp hv
  refine jm_call (rest := []) C K G (pX12_multiplies l G S v6 v8 hc190) oX12_multiplies rfl kw_1266 rfl ⟨Nat.le_of_ble_eq_true rfl, Nat.le_of_ble_eq_true rfl⟩ rfl (Nat.le_of_ble_eq_true rfl) ⟨Nat.zero_le _, Nat.zero_le _⟩ dX12_product_190 ?_
  refine jr_iload C dX12_product_193 1 rfl ?_
  refine jr_aload_n C dX12_product_195 rfl 0 rfl ?_
  refine jm_getJ C K 1 (by decide) rfl kw_1436 rfl dX12_product_196 ?_
  refine jr_bipush (v := 10) C dX12_product_199 (by decide) ?_
  refine jr_lshl C dX12_product_201 ?_
  refine jr_aload_n C dX12_product_202 rfl 0 rfl ?_
  refine jm_getJ C K 2 (by decide) rfl kw_1437 rfl dX12_product_203 ?_
  refine jr_bipush (v := 44) C dX12_product_206 (by decide) ?_
  refine jr_lshr C dX12_product_208 ?_
  refine jr_ladd C dX12_product_209 ?_
  refine jr_iload C dX12_product_210 4 rfl ?_
  refine jr_bipush (v := 44) C dX12_product_212 (by decide) ?_
  refine jr_iadd C dX12_product_214 ?_
  refine jr_aload_n C dX12_product_215 rfl 0 rfl ?_
  refine jm_getJ C K 2 (by decide) rfl kw_1437 rfl dX12_product_216 ?_
  refine jr_ldc2 C kw_1272 dX12_product_219 ?_
  refine jr_land C dX12_product_222 ?_
  refine jr_lconst (v := 0) C dX12_product_223 (by decide) ?_
  refine jr_lcmp_eq (tgt := 232) C dX12_product_224 dX12_product_225 rfl (fun q224 => ?_) (fun q224 => ?_)
  · have hv := (if_pos q224).symm.trans hv
    refine jr_iconst (v := 0) C dX12_product_232 (by decide) ?_
    exact jr_sub [] rfl (tX12_product_233 C K G  c190 v5 (((gJ c190 1) <<< ((10 : Int32).toInt64 &&& 63)) + ((gJ c190 2) >>> ((44 : Int32).toInt64 &&& 63))) (v10 + 44) 0 hv)
  · have hv := (if_neg q224).symm.trans hv
    refine jr_iconst (v := 1) C dX12_product_228 (by decide) ?_
    refine jr_goto (tgt := 233) C dX12_product_229 rfl ?_
    exact jr_sub [] rfl (tX12_product_233 C K G  c190 v5 (((gJ c190 1) <<< ((10 : Int32).toInt64 &&& 63)) + ((gJ c190 2) >>> ((44 : Int32).toInt64 &&& 63))) (v10 + 44) 1 hv)
set_option maxRecDepth 100000 in
theorem tX12_product_78 {p : Program} {l : Launch} {e : Env} {s : State} {m : MethodId} {args : Array Value} {below : List Frame} {meth : Method} {c : Code} {g : MG} (C : CC p s m args meth c yX12_product cX12_product 11 (some .long)) (K : mK g s) (G : mSep g)  (S : MS) (v1 : Int64) (v3 : Int64) (v5 : Int32) {w : Int64 × MS} (hv : fX12_product_78 S v1 v3 v5 = some w) : MJ p l e s m args below meth c 11 3 g (some (.long w.1)) w.2 78 [(0, .ref (mo g)), (1, .long v1), (3, .long v3), (5, .int v5)] [] S := by
  unfold fX12_product_78 at hv
  refine jr_lload_n C dX12_product_78 rfl 1 rfl ?_
  refine jr_pcall (rest := []) C (pX12_isInfinite l v1) oX12_isInfinite kw_1232 rfl ⟨Nat.le_of_ble_eq_true rfl, Nat.le_of_ble_eq_true rfl⟩ rfl (Nat.le_of_ble_eq_true rfl) ⟨Nat.zero_le _, Nat.zero_le _⟩ dX12_product_79 ?_
  refine jr_if_ne (tgt := 92) C dX12_product_82 rfl (fun q82 => ?_) (fun q82 => ?_)
  · have hv := (if_neg q82).symm.trans hv
    exact jr_sub [3] rfl (tX12_product_92 C K G  S v5 hv)
  · have hv := (if_pos q82).symm.trans hv
    refine jr_lload_n C dX12_product_85 rfl 2 rfl ?_
    refine jr_pcall (rest := []) C (pX12_isInfinite l v3) oX12_isInfinite kw_1232 rfl ⟨Nat.le_of_ble_eq_true rfl, Nat.le_of_ble_eq_true rfl⟩ rfl (Nat.le_of_ble_eq_true rfl) ⟨Nat.zero_le _, Nat.zero_le _⟩ dX12_product_86 ?_
    refine jr_if_eq (tgt := 107) C dX12_product_89 rfl (fun q89 => ?_) (fun q89 => ?_)
    · have hv := (if_pos q89).symm.trans hv
      refine jr_lload_n C dX12_product_107 rfl 1 rfl ?_
      refine jr_pcall (rest := []) C (pX12_isZero l v1) oX12_isZero kw_1235 rfl ⟨Nat.le_of_ble_eq_true rfl, Nat.le_of_ble_eq_true rfl⟩ rfl (Nat.le_of_ble_eq_true rfl) ⟨Nat.zero_le _, Nat.zero_le _⟩ dX12_product_108 ?_
      refine jr_if_ne (tgt := 121) C dX12_product_111 rfl (fun q111 => ?_) (fun q111 => ?_)
      · have hv := (if_neg q111).symm.trans hv
        exact jr_sub [3] rfl (tX12_product_121 C K G  S v5 hv)
      · have hv := (if_pos q111).symm.trans hv
        refine jr_lload_n C dX12_product_114 rfl 2 rfl ?_
        refine jr_pcall (rest := []) C (pX12_isZero l v3) oX12_isZero kw_1235 rfl ⟨Nat.le_of_ble_eq_true rfl, Nat.le_of_ble_eq_true rfl⟩ rfl (Nat.le_of_ble_eq_true rfl) ⟨Nat.zero_le _, Nat.zero_le _⟩ dX12_product_115 ?_
        refine jr_if_eq (tgt := 134) C dX12_product_118 rfl (fun q118 => ?_) (fun q118 => ?_)
        · have hv := (if_pos q118).symm.trans hv
          refine jr_lload_n C dX12_product_134 rfl 1 rfl ?_
          refine jr_pcall (rest := []) C (pX12_digits l v1) oX12_digits kw_1239 rfl ⟨Nat.le_of_ble_eq_true rfl, Nat.le_of_ble_eq_true rfl⟩ rfl (Nat.le_of_ble_eq_true rfl) ⟨Nat.zero_le _, Nat.zero_le _⟩ dX12_product_135 ?_
          obtain ⟨c138, hc138, hv⟩ := Option.bind_eq_some_iff.mp hv
          refine jr_pcall (rest := []) C (pX12_full l (fX12_digits v1) hc138) oX12_full kw_1243 rfl ⟨Nat.le_of_ble_eq_true rfl, Nat.le_of_ble_eq_true rfl⟩ rfl (Nat.le_of_ble_eq_true rfl) ⟨Nat.zero_le _, Nat.zero_le _⟩ dX12_product_138 ?_
          refine jr_lstore (lv' := [(6, .long c138), (0, .ref (mo g)), (1, .long v1), (3, .long v3), (5, .int v5)]) C dX12_product_141 (by decide) rfl ?_
          refine jr_lload_n C dX12_product_143 rfl 3 rfl ?_
          refine jr_pcall (rest := []) C (pX12_digits l v3) oX12_digits kw_1239 rfl ⟨Nat.le_of_ble_eq_true rfl, Nat.le_of_ble_eq_true rfl⟩ rfl (Nat.le_of_ble_eq_true rfl) ⟨Nat.zero_le _, Nat.zero_le _⟩ dX12_product_144 ?_
          obtain ⟨c147, hc147, hv⟩ := Option.bind_eq_some_iff.mp hv
          refine jr_pcall (rest := []) C (pX12_full l (fX12_digits v3) hc147) oX12_full kw_1243 rfl ⟨Nat.le_of_ble_eq_true rfl, Nat.le_of_ble_eq_true rfl⟩ rfl (Nat.le_of_ble_eq_true rfl) ⟨Nat.zero_le _, Nat.zero_le _⟩ dX12_product_147 ?_
          refine jr_lstore (lv' := [(8, .long c147), (6, .long c138), (0, .ref (mo g)), (1, .long v1), (3, .long v3), (5, .int v5)]) C dX12_product_150 (by decide) rfl ?_
          refine jr_lload_n C dX12_product_152 rfl 3 rfl ?_
          refine jr_pcall (rest := []) C (pX12_unit l v1) oX12_unit kw_1246 rfl ⟨Nat.le_of_ble_eq_true rfl, Nat.le_of_ble_eq_true rfl⟩ rfl (Nat.le_of_ble_eq_true rfl) ⟨Nat.zero_le _, Nat.zero_le _⟩ dX12_product_153 ?_
          refine jr_bipush (v := 53) C dX12_product_156 (by decide) ?_
          refine jr_lload_n C dX12_product_158 rfl 3 rfl ?_
          refine jr_pcall (rest := [.int 53, .int (fX12_unit v1)]) C (pX12_digits l v1) oX12_digits kw_1239 rfl ⟨Nat.le_of_ble_eq_true rfl, Nat.le_of_ble_eq_true rfl⟩ rfl (Nat.le_of_ble_eq_true rfl) ⟨Nat.zero_le _, Nat.zero_le _⟩ dX12_product_159 ?_
          obtain ⟨c162, hc162, hv⟩ := Option.bind_eq_some_iff.mp hv
          refine jr_pcall (rest := [.int 53, .int (fX12_unit v1)]) C (pX12_bitsOf l (fX12_digits v1) hc162) oX12_bitsOf kw_1225 rfl ⟨Nat.le_of_ble_eq_true rfl, Nat.le_of_ble_eq_true rfl⟩ rfl (Nat.le_of_ble_eq_true rfl) ⟨Nat.zero_le _, Nat.zero_le _⟩ dX12_product_162 ?_
          refine jr_isub C dX12_product_165 ?_
          refine jr_isub C dX12_product_166 ?_
          refine jr_lload_n C dX12_product_167 rfl 4 rfl ?_
          refine jr_pcall (rest := [.int ((fX12_unit v1) - (53 - c162))]) C (pX12_unit l v3) oX12_unit kw_1246 rfl ⟨Nat.le_of_ble_eq_true rfl, Nat.le_of_ble_eq_true rfl⟩ rfl (Nat.le_of_ble_eq_true rfl) ⟨Nat.zero_le _, Nat.zero_le _⟩ dX12_product_168 ?_
          refine jr_iadd C dX12_product_171 ?_
          refine jr_bipush (v := 53) C dX12_product_172 (by decide) ?_
          refine jr_lload_n C dX12_product_174 rfl 4 rfl ?_
          refine jr_pcall (rest := [.int 53, .int (((fX12_unit v1) - (53 - c162)) + (fX12_unit v3))]) C (pX12_digits l v3) oX12_digits kw_1239 rfl ⟨Nat.le_of_ble_eq_true rfl, Nat.le_of_ble_eq_true rfl⟩ rfl (Nat.le_of_ble_eq_true rfl) ⟨Nat.zero_le _, Nat.zero_le _⟩ dX12_product_175 ?_
          obtain ⟨c178, hc178, hv⟩ := Option.bind_eq_some_iff.mp hv
          refine jr_pcall (rest := [.int 53, .int (((fX12_unit v1) - (53 - c162)) + (fX12_unit v3))]) C (pX12_bitsOf l (fX12_digits v3) hc178) oX12_bitsOf kw_1225 rfl ⟨Nat.le_of_ble_eq_true rfl, Nat.le_of_ble_eq_true rfl⟩ rfl (Nat.le_of_ble_eq_true rfl) ⟨Nat.zero_le _, Nat.zero_le _⟩ dX12_product_178 ?_
          refine jr_isub C dX12_product_181 ?_
          refine jr_isub C dX12_product_182 ?_
          refine jr_istore (lv' := [(10, .int ((((fX12_unit v1) - (53 - c162)) + (fX12_unit v3)) - (53 - c178))), (8, .long c147), (6, .long c138), (0, .ref (mo g)), (1, .long v1), (3, .long v3), (5, .int v5)]) C dX12_product_183 (by decide) rfl ?_
          exact jr_sub [3, 6, 2, 1, 0] rfl (tX12_product_185 C K G  S v5 c138 c147 ((((fX12_unit v1) - (53 - c162)) + (fX12_unit v3)) - (53 - c178)) hv)
        · have hv := (if_neg q118).symm.trans hv
          exact jr_sub [3] rfl (tX12_product_121 C K G  S v5 hv)
    · have hv := (if_neg q89).symm.trans hv
      exact jr_sub [3] rfl (tX12_product_92 C K G  S v5 hv)
set_option maxRecDepth 100000 in
theorem tX12_product_60 {p : Program} {l : Launch} {e : Env} {s : State} {m : MethodId} {args : Array Value} {below : List Frame} {meth : Method} {c : Code} {g : MG} (C : CC p s m args meth c yX12_product cX12_product 11 (some .long)) (K : mK g s) (G : mSep g)  (S : MS) (v1 : Int64) (v3 : Int64) (v5 : Int32) {w : Int64 × MS} (hv : fX12_product_60 S v1 v3 v5 = some w) : MJ p l e s m args below meth c 11 3 g (some (.long w.1)) w.2 60 [(0, .ref (mo g)), (1, .long v1), (3, .long v3), (5, .int v5)] [] S := by
  unfold fX12_product_60 at hv
  refine jr_lload_n C dX12_product_60 rfl 1 rfl ?_
  refine jr_pcall (rest := []) C (pX12_isZero l v1) oX12_isZero kw_1235 rfl ⟨Nat.le_of_ble_eq_true rfl, Nat.le_of_ble_eq_true rfl⟩ rfl (Nat.le_of_ble_eq_true rfl) ⟨Nat.zero_le _, Nat.zero_le _⟩ dX12_product_61 ?_
  refine jr_if_eq (tgt := 78) C dX12_product_64 rfl (fun q64 => ?_) (fun q64 => ?_)
  · have hv := (if_pos q64).symm.trans hv
    exact tX12_product_78 C K G  S v1 v3 v5 hv
  · have hv := (if_neg q64).symm.trans hv
    refine jr_lload_n C dX12_product_67 rfl 2 rfl ?_
    refine jr_pcall (rest := []) C (pX12_isInfinite l v3) oX12_isInfinite kw_1232 rfl ⟨Nat.le_of_ble_eq_true rfl, Nat.le_of_ble_eq_true rfl⟩ rfl (Nat.le_of_ble_eq_true rfl) ⟨Nat.zero_le _, Nat.zero_le _⟩ dX12_product_68 ?_
    refine jr_if_eq (tgt := 78) C dX12_product_71 rfl (fun q71 => ?_) (fun q71 => ?_)
    · have hv := (if_pos q71).symm.trans hv
      exact tX12_product_78 C K G  S v1 v3 v5 hv
    · have hv := (if_neg q71).symm.trans hv
      exact jr_sub [] rfl (tX12_product_74 C K G  S hv)
set_option maxRecDepth 100000 in
theorem tX12_product_30 {p : Program} {l : Launch} {e : Env} {s : State} {m : MethodId} {args : Array Value} {below : List Frame} {meth : Method} {c : Code} {g : MG} (C : CC p s m args meth c yX12_product cX12_product 11 (some .long)) (K : mK g s) (G : mSep g)  (S : MS) (v1 : Int64) (v3 : Int64) (t0 : Int32) {w : Int64 × MS} (hv : fX12_product_30 S v1 v3 t0 = some w) : MJ p l e s m args below meth c 11 3 g (some (.long w.1)) w.2 30 [(0, .ref (mo g)), (1, .long v1), (3, .long v3)] [.int t0] S := by
  unfold fX12_product_30 at hv
  refine jr_istore (lv' := [(5, .int t0), (0, .ref (mo g)), (1, .long v1), (3, .long v3)]) C dX12_product_30 (by decide) rfl ?_
  refine jr_lload_n C dX12_product_32 rfl 2 rfl ?_
  refine jr_pcall (rest := []) C (pX12_isLost l v1) oX12_isLost kw_1203 rfl ⟨Nat.le_of_ble_eq_true rfl, Nat.le_of_ble_eq_true rfl⟩ rfl (Nat.le_of_ble_eq_true rfl) ⟨Nat.zero_le _, Nat.zero_le _⟩ dX12_product_33 ?_
  refine jr_if_ne (tgt := 74) C dX12_product_36 rfl (fun q36 => ?_) (fun q36 => ?_)
  · have hv := (if_neg q36).symm.trans hv
    exact jr_sub [] rfl (tX12_product_74 C K G  S hv)
  · have hv := (if_pos q36).symm.trans hv
    refine jr_lload_n C dX12_product_39 rfl 3 rfl ?_
    refine jr_pcall (rest := []) C (pX12_isLost l v3) oX12_isLost kw_1203 rfl ⟨Nat.le_of_ble_eq_true rfl, Nat.le_of_ble_eq_true rfl⟩ rfl (Nat.le_of_ble_eq_true rfl) ⟨Nat.zero_le _, Nat.zero_le _⟩ dX12_product_40 ?_
    refine jr_if_ne (tgt := 74) C dX12_product_43 rfl (fun q43 => ?_) (fun q43 => ?_)
    · have hv := (if_neg q43).symm.trans hv
      exact jr_sub [] rfl (tX12_product_74 C K G  S hv)
    · have hv := (if_pos q43).symm.trans hv
      refine jr_lload_n C dX12_product_46 rfl 2 rfl ?_
      refine jr_pcall (rest := []) C (pX12_isInfinite l v1) oX12_isInfinite kw_1232 rfl ⟨Nat.le_of_ble_eq_true rfl, Nat.le_of_ble_eq_true rfl⟩ rfl (Nat.le_of_ble_eq_true rfl) ⟨Nat.zero_le _, Nat.zero_le _⟩ dX12_product_47 ?_
      refine jr_if_eq (tgt := 60) C dX12_product_50 rfl (fun q50 => ?_) (fun q50 => ?_)
      · have hv := (if_pos q50).symm.trans hv
        exact jr_sub [1, 2, 3, 0] rfl (tX12_product_60 C K G  S v1 v3 t0 hv)
      · have hv := (if_neg q50).symm.trans hv
        refine jr_lload_n C dX12_product_53 rfl 3 rfl ?_
        refine jr_pcall (rest := []) C (pX12_isZero l v3) oX12_isZero kw_1235 rfl ⟨Nat.le_of_ble_eq_true rfl, Nat.le_of_ble_eq_true rfl⟩ rfl (Nat.le_of_ble_eq_true rfl) ⟨Nat.zero_le _, Nat.zero_le _⟩ dX12_product_54 ?_
        refine jr_if_ne (tgt := 74) C dX12_product_57 rfl (fun q57 => ?_) (fun q57 => ?_)
        · have hv := (if_neg q57).symm.trans hv
          exact jr_sub [] rfl (tX12_product_74 C K G  S hv)
        · have hv := (if_pos q57).symm.trans hv
          exact jr_sub [1, 2, 3, 0] rfl (tX12_product_60 C K G  S v1 v3 t0 hv)
set_option maxRecDepth 100000 in
theorem tX12_product_22 {p : Program} {l : Launch} {e : Env} {s : State} {m : MethodId} {args : Array Value} {below : List Frame} {meth : Method} {c : Code} {g : MG} (C : CC p s m args meth c yX12_product cX12_product 11 (some .long)) (K : mK g s) (G : mSep g)  (S : MS) (v1 : Int64) (v3 : Int64) (t0 : Int32) (t1 : Int32) {w : Int64 × MS} (hv : fX12_product_22 S v1 v3 t0 t1 = some w) : MJ p l e s m args below meth c 11 3 g (some (.long w.1)) w.2 22 [(0, .ref (mo g)), (1, .long v1), (3, .long v3)] [.int t1, .int t0] S := by
  unfold fX12_product_22 at hv
  refine jr_icmp_eq (tgt := 29) C dX12_product_22 rfl (fun q22 => ?_) (fun q22 => ?_)
  · have hv := (if_pos q22).symm.trans hv
    refine jr_iconst (v := 0) C dX12_product_29 (by decide) ?_
    exact tX12_product_30 C K G  S v1 v3 0 hv
  · have hv := (if_neg q22).symm.trans hv
    refine jr_iconst (v := 1) C dX12_product_25 (by decide) ?_
    refine jr_goto (tgt := 30) C dX12_product_26 rfl ?_
    exact tX12_product_30 C K G  S v1 v3 1 hv
set_option maxRecDepth 100000 in
theorem tX12_product_11 {p : Program} {l : Launch} {e : Env} {s : State} {m : MethodId} {args : Array Value} {below : List Frame} {meth : Method} {c : Code} {g : MG} (C : CC p s m args meth c yX12_product cX12_product 11 (some .long)) (K : mK g s) (G : mSep g)  (S : MS) (v1 : Int64) (v3 : Int64) (t0 : Int32) {w : Int64 × MS} (hv : fX12_product_11 S v1 v3 t0 = some w) : MJ p l e s m args below meth c 11 3 g (some (.long w.1)) w.2 11 [(0, .ref (mo g)), (1, .long v1), (3, .long v3)] [.int t0] S := by
  unfold fX12_product_11 at hv
  refine jr_lload_n C dX12_product_11 rfl 2 rfl ?_
  refine jr_lconst (v := 0) C dX12_product_12 (by decide) ?_
  refine jr_lcmp_ge (tgt := 21) C dX12_product_13 dX12_product_14 rfl (fun q13 => ?_) (fun q13 => ?_)
  · have hv := (if_pos q13).symm.trans hv
    refine jr_iconst (v := 0) C dX12_product_21 (by decide) ?_
    exact tX12_product_22 C K G  S v1 v3 t0 0 hv
  · have hv := (if_neg q13).symm.trans hv
    refine jr_iconst (v := 1) C dX12_product_17 (by decide) ?_
    refine jr_goto (tgt := 22) C dX12_product_18 rfl ?_
    exact tX12_product_22 C K G  S v1 v3 t0 1 hv
set_option maxRecDepth 100000 in
theorem tX12_product_0 {p : Program} {l : Launch} {e : Env} {s : State} {m : MethodId} {args : Array Value} {below : List Frame} {meth : Method} {c : Code} {g : MG} (C : CC p s m args meth c yX12_product cX12_product 11 (some .long)) (K : mK g s) (G : mSep g)  (S : MS) (v1 : Int64) (v3 : Int64) {w : Int64 × MS} (hv : fX12_product S v1 v3 = some w) : MJ p l e s m args below meth c 11 3 g (some (.long w.1)) w.2 0 [(0, .ref (mo g)), (1, .long v1), (3, .long v3)] [] S := by
  unfold fX12_product at hv
  refine jr_lload_n C dX12_product_0 rfl 1 rfl ?_
  refine jr_lconst (v := 0) C dX12_product_1 (by decide) ?_
  refine jr_lcmp_ge (tgt := 10) C dX12_product_2 dX12_product_3 rfl (fun q2 => ?_) (fun q2 => ?_)
  · have hv := (if_pos q2).symm.trans hv
    refine jr_iconst (v := 0) C dX12_product_10 (by decide) ?_
    exact tX12_product_11 C K G  S v1 v3 0 hv
  · have hv := (if_neg q2).symm.trans hv
    refine jr_iconst (v := 1) C dX12_product_6 (by decide) ?_
    refine jr_goto (tgt := 11) C dX12_product_7 rfl ?_
    exact tX12_product_11 C K G  S v1 v3 1 hv
theorem pX12_product (l : Launch) {g : MG} (G : mSep g) (S : MS) (v1 : Int64) (v3 : Int64) {w : Int64} {S' : MS} (hw : fX12_product S v1 v3 = some (w, S')) : mC l yX12_product cX12_product 11 (some .long) 3 g [.ref (mo g), .long v1, .long v3] S (some (.long w)) S' := mC_of (by decide +kernel) (Nat.le_of_ble_eq_true rfl) rfl (fun C K => tX12_product_0 C K G S v1 v3 hw)
/-! RobotCellModel.paired(IJJJJ)J -/
def fX12_paired_154 (S : MS) (t0 : Int64) (t1 : Int64) : Option (Int64 × MS) :=
  some (t0 ||| t1, S)
def fX12_paired_214 (S : MS) (t0 : Int64) (t1 : Int32) : Option (Int64 × MS) :=
  Option.bind (fX12_scaled t0 t1) (fun c214 => some (c214, S))
def fX12_paired_20 (S : MS) (v1 : Int32) (v2 : Int64) (v4 : Int64) (v6 : Int64) (v8 : Int64) (t0 : Int32) : Option (Int64 × MS) :=
  if v1 = 0 then (if t0 = 0 then (if (fX12_total v2 v4) < 0 then some (v4, S) else some (v2, S)) else some (9221120237041090560, S)) else if v1 = 1 then (if t0 = 0 then (if 0 < (fX12_total v2 v4) then some (v4, S) else some (v2, S)) else some (9221120237041090560, S)) else if v1 = 2 then (if (fX12_isLost v2) = 0 then (if (fX12_isLost v4) = 0 then fX12_paired_154 S (v2 &&& 9223372036854775807) (v4 &&& (-9223372036854775808)) else fX12_paired_154 S (v2 &&& 9223372036854775807) 0) else some (9221120237041090560, S)) else if v1 = 3 then (Option.bind (fX12_product S v2 v4) (fun c160 => Option.bind (fX12_sum c160.1 v6) (fun c165 => some (c165, c160.2)))) else if v1 = 4 then (Option.bind (fX12_number ((fX12_total v2 v4).toInt64)) (fun c176 => some (c176, S))) else if v1 = 5 then (if (-3000) ≤ v8 then (if v8 ≤ 3000 then fX12_paired_214 S v2 v8.toInt32 else fX12_paired_214 S v2 3000) else fX12_paired_214 S v2 (-3000)) else if v1 = 6 then (if t0 = 0 then (Option.bind (fX12_sum v2 v4) (fun c243 => Option.bind (fX12_product S c243 4602678819172646912) (fun c249 => some (c249.1, c249.2)))) else (if (fX12_isLost v2) = 0 then some (v2, S) else some (v4, S))) else some (v2, S)
def fX12_paired_15 (S : MS) (v1 : Int32) (v2 : Int64) (v4 : Int64) (v6 : Int64) (v8 : Int64) : Option (Int64 × MS) :=
  fX12_paired_20 S v1 v2 v4 v6 v8 1
def fX12_paired (S : MS) (v1 : Int32) (v2 : Int64) (v4 : Int64) (v6 : Int64) (v8 : Int64) : Option (Int64 × MS) :=
  if (fX12_isLost v2) = 0 then (if (fX12_isLost v4) = 0 then fX12_paired_20 S v1 v2 v4 v6 v8 0 else fX12_paired_15 S v1 v2 v4 v6 v8) else fX12_paired_15 S v1 v2 v4 v6 v8
theorem oX12_paired : ok_v yX12_paired cX12_paired 11 (some .long) 5 := ⟨kw_1299, kw_1298, kw_52, kw_73, by decide +kernel⟩
set_option maxRecDepth 100000 in
theorem tX12_paired_154 {p : Program} {l : Launch} {e : Env} {s : State} {m : MethodId} {args : Array Value} {below : List Frame} {meth : Method} {c : Code} {g : MG} (C : CC p s m args meth c yX12_paired cX12_paired 11 (some .long)) (K : mK g s) (G : mSep g)  (S : MS) (t0 : Int64) (t1 : Int64) {w : Int64 × MS} (hv : fX12_paired_154 S t0 t1 = some w) : MJ p l e s m args below meth c 11 4 g (some (.long w.1)) w.2 154 [] [.long t1, .long t0] S := by
  unfold fX12_paired_154 at hv
  refine jr_lor C dX12_paired_154 ?_
  exact jm_lret C K dX12_paired_155 (Option.some.inj hv)
set_option maxRecDepth 100000 in
theorem tX12_paired_214 {p : Program} {l : Launch} {e : Env} {s : State} {m : MethodId} {args : Array Value} {below : List Frame} {meth : Method} {c : Code} {g : MG} (C : CC p s m args meth c yX12_paired cX12_paired 11 (some .long)) (K : mK g s) (G : mSep g)  (S : MS) (t0 : Int64) (t1 : Int32) {w : Int64 × MS} (hv : fX12_paired_214 S t0 t1 = some w) : MJ p l e s m args below meth c 11 4 g (some (.long w.1)) w.2 214 [] [.int t1, .long t0] S := by
  unfold fX12_paired_214 at hv
  obtain ⟨c214, hc214, hv⟩ := Option.bind_eq_some_iff.mp hv
  refine jr_pcall (rest := []) C (pX12_scaled l t0 t1 hc214) oX12_scaled kw_1305 rfl ⟨Nat.le_of_ble_eq_true rfl, Nat.le_of_ble_eq_true rfl⟩ rfl (Nat.le_of_ble_eq_true rfl) ⟨Nat.zero_le _, Nat.zero_le _⟩ dX12_paired_214 ?_
  exact jm_lret C K dX12_paired_217 (Option.some.inj hv)
set_option maxRecDepth 100000 in
theorem tX12_paired_20 {p : Program} {l : Launch} {e : Env} {s : State} {m : MethodId} {args : Array Value} {below : List Frame} {meth : Method} {c : Code} {g : MG} (C : CC p s m args meth c yX12_paired cX12_paired 11 (some .long)) (K : mK g s) (G : mSep g)  (S : MS) (v1 : Int32) (v2 : Int64) (v4 : Int64) (v6 : Int64) (v8 : Int64) (t0 : Int32) {w : Int64 × MS} (hv : fX12_paired_20 S v1 v2 v4 v6 v8 t0 = some w) : MJ p l e s m args below meth c 11 4 g (some (.long w.1)) w.2 20 [(0, .ref (mo g)), (1, .int v1), (2, .long v2), (4, .long v4), (6, .long v6), (8, .long v8)] [.int t0] S := by
  unfold fX12_paired_20 at hv
  refine jr_istore (lv' := [(10, .int t0), (0, .ref (mo g)), (1, .int v1), (2, .long v2), (4, .long v4), (6, .long v6), (8, .long v8)]) C dX12_paired_20 (by decide) rfl ?_
  refine jr_iload_n C dX12_paired_22 rfl 2 rfl ?_
  by_cases q23_0 : v1 = 0
  · have hv := (if_pos q23_0).symm.trans hv
    refine jr_tableIn (off := 41) (tgt := 64) C dX12_paired_23 (by rw [q23_0]; decide) (by rw [q23_0]; decide) (by rw [q23_0]; rfl) rfl ?_
    refine jr_iload C dX12_paired_64 0 rfl ?_
    refine jr_if_eq (tgt := 75) C dX12_paired_66 rfl (fun q66 => ?_) (fun q66 => ?_)
    · have hv := (if_pos q66).symm.trans hv
      refine jr_lload_n C dX12_paired_75 rfl 3 rfl ?_
      refine jr_lload C dX12_paired_76 4 rfl ?_
      refine jr_pcall (rest := []) C (pX12_total l v2 v4) oX12_total kw_1300 rfl ⟨Nat.le_of_ble_eq_true rfl, Nat.le_of_ble_eq_true rfl⟩ rfl (Nat.le_of_ble_eq_true rfl) ⟨Nat.zero_le _, Nat.zero_le _⟩ dX12_paired_78 ?_
      refine jr_if_lt (tgt := 88) C dX12_paired_81 rfl (fun q81 => ?_) (fun q81 => ?_)
      · have hv := (if_pos q81).symm.trans hv
        refine jr_lload C dX12_paired_88 4 rfl ?_
        exact jm_lret C K dX12_paired_90 (Option.some.inj hv)
      · have hv := (if_neg q81).symm.trans hv
        refine jr_lload_n C dX12_paired_84 rfl 3 rfl ?_
        refine jr_goto (tgt := 90) C dX12_paired_85 rfl ?_
        exact jm_lret C K dX12_paired_90 (Option.some.inj hv)
    · have hv := (if_neg q66).symm.trans hv
      refine jr_ldc2 C kw_1208 dX12_paired_69 ?_
      refine jr_goto (tgt := 90) C dX12_paired_72 rfl ?_
      exact jm_lret C K dX12_paired_90 (Option.some.inj hv)
  have hv := (if_neg q23_0).symm.trans hv
  by_cases q23_1 : v1 = 1
  · have hv := (if_pos q23_1).symm.trans hv
    refine jr_tableIn (off := 68) (tgt := 91) C dX12_paired_23 (by rw [q23_1]; decide) (by rw [q23_1]; decide) (by rw [q23_1]; rfl) rfl ?_
    refine jr_iload C dX12_paired_91 0 rfl ?_
    refine jr_if_eq (tgt := 102) C dX12_paired_93 rfl (fun q93 => ?_) (fun q93 => ?_)
    · have hv := (if_pos q93).symm.trans hv
      refine jr_lload_n C dX12_paired_102 rfl 3 rfl ?_
      refine jr_lload C dX12_paired_103 4 rfl ?_
      refine jr_pcall (rest := []) C (pX12_total l v2 v4) oX12_total kw_1300 rfl ⟨Nat.le_of_ble_eq_true rfl, Nat.le_of_ble_eq_true rfl⟩ rfl (Nat.le_of_ble_eq_true rfl) ⟨Nat.zero_le _, Nat.zero_le _⟩ dX12_paired_105 ?_
      refine jr_if_gt (tgt := 115) C dX12_paired_108 rfl (fun q108 => ?_) (fun q108 => ?_)
      · have hv := (if_pos q108).symm.trans hv
        refine jr_lload C dX12_paired_115 4 rfl ?_
        exact jm_lret C K dX12_paired_117 (Option.some.inj hv)
      · have hv := (if_neg q108).symm.trans hv
        refine jr_lload_n C dX12_paired_111 rfl 3 rfl ?_
        refine jr_goto (tgt := 117) C dX12_paired_112 rfl ?_
        exact jm_lret C K dX12_paired_117 (Option.some.inj hv)
    · have hv := (if_neg q93).symm.trans hv
      refine jr_ldc2 C kw_1208 dX12_paired_96 ?_
      refine jr_goto (tgt := 117) C dX12_paired_99 rfl ?_
      exact jm_lret C K dX12_paired_117 (Option.some.inj hv)
  have hv := (if_neg q23_1).symm.trans hv
  by_cases q23_2 : v1 = 2
  · have hv := (if_pos q23_2).symm.trans hv
    refine jr_tableIn (off := 95) (tgt := 118) C dX12_paired_23 (by rw [q23_2]; decide) (by rw [q23_2]; decide) (by rw [q23_2]; rfl) rfl ?_
    refine jr_lload_n C dX12_paired_118 rfl 3 rfl ?_
    refine jr_pcall (rest := []) C (pX12_isLost l v2) oX12_isLost kw_1203 rfl ⟨Nat.le_of_ble_eq_true rfl, Nat.le_of_ble_eq_true rfl⟩ rfl (Nat.le_of_ble_eq_true rfl) ⟨Nat.zero_le _, Nat.zero_le _⟩ dX12_paired_119 ?_
    refine jr_if_eq (tgt := 131) C dX12_paired_122 rfl (fun q122 => ?_) (fun q122 => ?_)
    · have hv := (if_pos q122).symm.trans hv
      refine jr_lload_n C dX12_paired_131 rfl 3 rfl ?_
      refine jr_ldc2 C kw_1206 dX12_paired_132 ?_
      refine jr_land C dX12_paired_135 ?_
      refine jr_lload C dX12_paired_136 4 rfl ?_
      refine jr_pcall (rest := [.long (v2 &&& 9223372036854775807)]) C (pX12_isLost l v4) oX12_isLost kw_1203 rfl ⟨Nat.le_of_ble_eq_true rfl, Nat.le_of_ble_eq_true rfl⟩ rfl (Nat.le_of_ble_eq_true rfl) ⟨Nat.zero_le _, Nat.zero_le _⟩ dX12_paired_138 ?_
      refine jr_if_eq (tgt := 148) C dX12_paired_141 rfl (fun q141 => ?_) (fun q141 => ?_)
      · have hv := (if_pos q141).symm.trans hv
        refine jr_lload C dX12_paired_148 4 rfl ?_
        refine jr_ldc2 C kw_1224 dX12_paired_150 ?_
        refine jr_land C dX12_paired_153 ?_
        exact jr_sub [] rfl (tX12_paired_154 C K G  S (v2 &&& 9223372036854775807) (v4 &&& (-9223372036854775808)) hv)
      · have hv := (if_neg q141).symm.trans hv
        refine jr_lconst (v := 0) C dX12_paired_144 (by decide) ?_
        refine jr_goto (tgt := 154) C dX12_paired_145 rfl ?_
        exact jr_sub [] rfl (tX12_paired_154 C K G  S (v2 &&& 9223372036854775807) 0 hv)
    · have hv := (if_neg q122).symm.trans hv
      refine jr_ldc2 C kw_1208 dX12_paired_125 ?_
      refine jr_goto (tgt := 155) C dX12_paired_128 rfl ?_
      exact jm_lret C K dX12_paired_155 (Option.some.inj hv)
  have hv := (if_neg q23_2).symm.trans hv
  by_cases q23_3 : v1 = 3
  · have hv := (if_pos q23_3).symm.trans hv
    refine jr_tableIn (off := 133) (tgt := 156) C dX12_paired_23 (by rw [q23_3]; decide) (by rw [q23_3]; decide) (by rw [q23_3]; rfl) rfl ?_
    refine jr_aload_n C dX12_paired_156 rfl 1 rfl ?_
    refine jr_lload_n C dX12_paired_157 rfl 3 rfl ?_
    refine jr_lload C dX12_paired_158 4 rfl ?_
    obtain ⟨c160, hc160, hv⟩ := Option.bind_eq_some_iff.mp hv
    refine jm_call (rest := []) C K G (pX12_product l G S v2 v4 hc160) oX12_product rfl kw_1262 rfl ⟨Nat.le_of_ble_eq_true rfl, Nat.le_of_ble_eq_true rfl⟩ rfl (Nat.le_of_ble_eq_true rfl) ⟨Nat.zero_le _, Nat.zero_le _⟩ dX12_paired_160 ?_
    refine jr_lload C dX12_paired_163 5 rfl ?_
    obtain ⟨c165, hc165, hv⟩ := Option.bind_eq_some_iff.mp hv
    refine jr_pcall (rest := []) C (pX12_sum l c160.1 v6 hc165) oX12_sum kw_1253 rfl ⟨Nat.le_of_ble_eq_true rfl, Nat.le_of_ble_eq_true rfl⟩ rfl (Nat.le_of_ble_eq_true rfl) ⟨Nat.zero_le _, Nat.zero_le _⟩ dX12_paired_165 ?_
    exact jm_lret C K dX12_paired_168 (Option.some.inj hv)
  have hv := (if_neg q23_3).symm.trans hv
  by_cases q23_4 : v1 = 4
  · have hv := (if_pos q23_4).symm.trans hv
    refine jr_tableIn (off := 146) (tgt := 169) C dX12_paired_23 (by rw [q23_4]; decide) (by rw [q23_4]; decide) (by rw [q23_4]; rfl) rfl ?_
    refine jr_lload_n C dX12_paired_169 rfl 3 rfl ?_
    refine jr_lload C dX12_paired_170 4 rfl ?_
    refine jr_pcall (rest := []) C (pX12_total l v2 v4) oX12_total kw_1300 rfl ⟨Nat.le_of_ble_eq_true rfl, Nat.le_of_ble_eq_true rfl⟩ rfl (Nat.le_of_ble_eq_true rfl) ⟨Nat.zero_le _, Nat.zero_le _⟩ dX12_paired_172 ?_
    refine jr_i2l C dX12_paired_175 ?_
    obtain ⟨c176, hc176, hv⟩ := Option.bind_eq_some_iff.mp hv
    refine jr_pcall (rest := []) C (pX12_number l ((fX12_total v2 v4).toInt64) hc176) oX12_number kw_1213 rfl ⟨Nat.le_of_ble_eq_true rfl, Nat.le_of_ble_eq_true rfl⟩ rfl (Nat.le_of_ble_eq_true rfl) ⟨Nat.zero_le _, Nat.zero_le _⟩ dX12_paired_176 ?_
    exact jm_lret C K dX12_paired_179 (Option.some.inj hv)
  have hv := (if_neg q23_4).symm.trans hv
  by_cases q23_5 : v1 = 5
  · have hv := (if_pos q23_5).symm.trans hv
    refine jr_tableIn (off := 157) (tgt := 180) C dX12_paired_23 (by rw [q23_5]; decide) (by rw [q23_5]; decide) (by rw [q23_5]; rfl) rfl ?_
    refine jr_lload_n C dX12_paired_180 rfl 3 rfl ?_
    refine jr_lload C dX12_paired_181 6 rfl ?_
    refine jr_ldc2 C kw_1303 dX12_paired_183 ?_
    refine jr_lcmp_ge (tgt := 196) C dX12_paired_186 dX12_paired_187 rfl (fun q186 => ?_) (fun q186 => ?_)
    · have hv := (if_pos q186).symm.trans hv
      refine jr_lload C dX12_paired_196 6 rfl ?_
      refine jr_ldc2 C kw_1304 dX12_paired_198 ?_
      refine jr_lcmp_le (tgt := 211) C dX12_paired_201 dX12_paired_202 rfl (fun q201 => ?_) (fun q201 => ?_)
      · have hv := (if_pos q201).symm.trans hv
        refine jr_lload C dX12_paired_211 6 rfl ?_
        refine jr_l2i C dX12_paired_213 ?_
        exact jr_sub [] rfl (tX12_paired_214 C K G  S v2 v8.toInt32 hv)
      · have hv := (if_neg q201).symm.trans hv
        refine jr_sipush (v := 3000) C dX12_paired_205 (by decide) ?_
        refine jr_goto (tgt := 214) C dX12_paired_208 rfl ?_
        exact jr_sub [] rfl (tX12_paired_214 C K G  S v2 3000 hv)
    · have hv := (if_neg q186).symm.trans hv
      refine jr_sipush (v := (-3000)) C dX12_paired_190 (by decide) ?_
      refine jr_goto (tgt := 214) C dX12_paired_193 rfl ?_
      exact jr_sub [] rfl (tX12_paired_214 C K G  S v2 (-3000) hv)
  have hv := (if_neg q23_5).symm.trans hv
  by_cases q23_6 : v1 = 6
  · have hv := (if_pos q23_6).symm.trans hv
    refine jr_tableIn (off := 195) (tgt := 218) C dX12_paired_23 (by rw [q23_6]; decide) (by rw [q23_6]; decide) (by rw [q23_6]; rfl) rfl ?_
    refine jr_iload C dX12_paired_218 0 rfl ?_
    refine jr_if_eq (tgt := 239) C dX12_paired_220 rfl (fun q220 => ?_) (fun q220 => ?_)
    · have hv := (if_pos q220).symm.trans hv
      refine jr_aload_n C dX12_paired_239 rfl 1 rfl ?_
      refine jr_lload_n C dX12_paired_240 rfl 3 rfl ?_
      refine jr_lload C dX12_paired_241 4 rfl ?_
      obtain ⟨c243, hc243, hv⟩ := Option.bind_eq_some_iff.mp hv
      refine jr_pcall (rest := [.ref (mo g)]) C (pX12_sum l v2 v4 hc243) oX12_sum kw_1253 rfl ⟨Nat.le_of_ble_eq_true rfl, Nat.le_of_ble_eq_true rfl⟩ rfl (Nat.le_of_ble_eq_true rfl) ⟨Nat.zero_le _, Nat.zero_le _⟩ dX12_paired_243 ?_
      refine jr_ldc2 C kw_1308 dX12_paired_246 ?_
      obtain ⟨c249, hc249, hv⟩ := Option.bind_eq_some_iff.mp hv
      refine jm_call (rest := []) C K G (pX12_product l G S c243 4602678819172646912 hc249) oX12_product rfl kw_1262 rfl ⟨Nat.le_of_ble_eq_true rfl, Nat.le_of_ble_eq_true rfl⟩ rfl (Nat.le_of_ble_eq_true rfl) ⟨Nat.zero_le _, Nat.zero_le _⟩ dX12_paired_249 ?_
      exact jm_lret C K dX12_paired_252 (Option.some.inj hv)
    · have hv := (if_neg q220).symm.trans hv
      refine jr_lload_n C dX12_paired_223 rfl 3 rfl ?_
      refine jr_pcall (rest := []) C (pX12_isLost l v2) oX12_isLost kw_1203 rfl ⟨Nat.le_of_ble_eq_true rfl, Nat.le_of_ble_eq_true rfl⟩ rfl (Nat.le_of_ble_eq_true rfl) ⟨Nat.zero_le _, Nat.zero_le _⟩ dX12_paired_224 ?_
      refine jr_if_eq (tgt := 235) C dX12_paired_227 rfl (fun q227 => ?_) (fun q227 => ?_)
      · have hv := (if_pos q227).symm.trans hv
        refine jr_lload_n C dX12_paired_235 rfl 3 rfl ?_
        refine jr_goto (tgt := 252) C dX12_paired_236 rfl ?_
        exact jm_lret C K dX12_paired_252 (Option.some.inj hv)
      · have hv := (if_neg q227).symm.trans hv
        refine jr_lload C dX12_paired_230 4 rfl ?_
        refine jr_goto (tgt := 252) C dX12_paired_232 rfl ?_
        exact jm_lret C K dX12_paired_252 (Option.some.inj hv)
  have hv := (if_neg q23_6).symm.trans hv
  refine jr_tableOut (tgt := 253) C dX12_paired_23 (by have := sw_ne (a := 0) q23_0 (by decide); have := sw_ne (a := 1) q23_1 (by decide); have := sw_ne (a := 2) q23_2 (by decide); have := sw_ne (a := 3) q23_3 (by decide); have := sw_ne (a := 4) q23_4 (by decide); have := sw_ne (a := 5) q23_5 (by decide); have := sw_ne (a := 6) q23_6 (by decide); omega) rfl ?_
  refine jr_lload_n C dX12_paired_253 rfl 3 rfl ?_
  exact jm_lret C K dX12_paired_254 (Option.some.inj hv)
set_option maxRecDepth 100000 in
theorem tX12_paired_15 {p : Program} {l : Launch} {e : Env} {s : State} {m : MethodId} {args : Array Value} {below : List Frame} {meth : Method} {c : Code} {g : MG} (C : CC p s m args meth c yX12_paired cX12_paired 11 (some .long)) (K : mK g s) (G : mSep g)  (S : MS) (v1 : Int32) (v2 : Int64) (v4 : Int64) (v6 : Int64) (v8 : Int64) {w : Int64 × MS} (hv : fX12_paired_15 S v1 v2 v4 v6 v8 = some w) : MJ p l e s m args below meth c 11 4 g (some (.long w.1)) w.2 15 [(0, .ref (mo g)), (1, .int v1), (2, .long v2), (4, .long v4), (6, .long v6), (8, .long v8)] [] S := by
  unfold fX12_paired_15 at hv
  refine jr_iconst (v := 1) C dX12_paired_15 (by decide) ?_
  refine jr_goto (tgt := 20) C dX12_paired_16 rfl ?_
  exact tX12_paired_20 C K G  S v1 v2 v4 v6 v8 1 hv
set_option maxRecDepth 100000 in
theorem tX12_paired_0 {p : Program} {l : Launch} {e : Env} {s : State} {m : MethodId} {args : Array Value} {below : List Frame} {meth : Method} {c : Code} {g : MG} (C : CC p s m args meth c yX12_paired cX12_paired 11 (some .long)) (K : mK g s) (G : mSep g)  (S : MS) (v1 : Int32) (v2 : Int64) (v4 : Int64) (v6 : Int64) (v8 : Int64) {w : Int64 × MS} (hv : fX12_paired S v1 v2 v4 v6 v8 = some w) : MJ p l e s m args below meth c 11 4 g (some (.long w.1)) w.2 0 [(0, .ref (mo g)), (1, .int v1), (2, .long v2), (4, .long v4), (6, .long v6), (8, .long v8)] [] S := by
  unfold fX12_paired at hv
  refine jr_lload_n C dX12_paired_0 rfl 2 rfl ?_
  refine jr_pcall (rest := []) C (pX12_isLost l v2) oX12_isLost kw_1203 rfl ⟨Nat.le_of_ble_eq_true rfl, Nat.le_of_ble_eq_true rfl⟩ rfl (Nat.le_of_ble_eq_true rfl) ⟨Nat.zero_le _, Nat.zero_le _⟩ dX12_paired_1 ?_
  refine jr_if_ne (tgt := 15) C dX12_paired_4 rfl (fun q4 => ?_) (fun q4 => ?_)
  · have hv := (if_neg q4).symm.trans hv
    exact tX12_paired_15 C K G  S v1 v2 v4 v6 v8 hv
  · have hv := (if_pos q4).symm.trans hv
    refine jr_lload C dX12_paired_7 3 rfl ?_
    refine jr_pcall (rest := []) C (pX12_isLost l v4) oX12_isLost kw_1203 rfl ⟨Nat.le_of_ble_eq_true rfl, Nat.le_of_ble_eq_true rfl⟩ rfl (Nat.le_of_ble_eq_true rfl) ⟨Nat.zero_le _, Nat.zero_le _⟩ dX12_paired_9 ?_
    refine jr_if_eq (tgt := 19) C dX12_paired_12 rfl (fun q12 => ?_) (fun q12 => ?_)
    · have hv := (if_pos q12).symm.trans hv
      refine jr_iconst (v := 0) C dX12_paired_19 (by decide) ?_
      exact tX12_paired_20 C K G  S v1 v2 v4 v6 v8 0 hv
    · have hv := (if_neg q12).symm.trans hv
      exact tX12_paired_15 C K G  S v1 v2 v4 v6 v8 hv
theorem pX12_paired (l : Launch) {g : MG} (G : mSep g) (S : MS) (v1 : Int32) (v2 : Int64) (v4 : Int64) (v6 : Int64) (v8 : Int64) {w : Int64} {S' : MS} (hw : fX12_paired S v1 v2 v4 v6 v8 = some (w, S')) : mC l yX12_paired cX12_paired 11 (some .long) 4 g [.ref (mo g), .int v1, .long v2, .long v4, .long v6, .long v8] S (some (.long w)) S' := mC_of (by decide +kernel) (Nat.le_of_ble_eq_true rfl) rfl (fun C K => tX12_paired_0 C K G S v1 v2 v4 v6 v8 hw)
/-! RobotCellModel.kindOf(I)I -/
def fX12_kindOf (S : MS) (v1 : Int32) : Option (Int32 × MS) :=
  if inb (v1 &&& 15) (mlA 5) = true then (if (gA S 5 (ix (v1 &&& 15))) = 0 then some ((-1), S) else (if inb (v1 &&& 15) (mlA 5) = true then (if inb (gA S 5 (ix (v1 &&& 15))) (mlA 6) = true then some (gA S 6 (ix (gA S 5 (ix (v1 &&& 15)))), S) else none) else none)) else none
theorem oX12_kindOf : ok_v yX12_kindOf cX12_kindOf 2 (some .int) 1 := ⟨kw_1363, kw_1362, kw_59, kw_73, by decide +kernel⟩
set_option maxRecDepth 100000 in
theorem tX12_kindOf_0 {p : Program} {l : Launch} {e : Env} {s : State} {m : MethodId} {args : Array Value} {below : List Frame} {meth : Method} {c : Code} {g : MG} (C : CC p s m args meth c yX12_kindOf cX12_kindOf 2 (some .int)) (K : mK g s) (G : mSep g)  (S : MS) (v1 : Int32) {w : Int32 × MS} (hv : fX12_kindOf S v1 = some w) : MJ p l e s m args below meth c 2 0 g (some (.int w.1)) w.2 0 [(0, .ref (mo g)), (1, .int v1)] [] S := by
  unfold fX12_kindOf at hv
  refine jr_aload_n C dX12_kindOf_0 rfl 0 rfl ?_
  refine jm_getA C K 5 (by decide) (by decide) kw_1440 rfl dX12_kindOf_1 ?_
  refine jr_iload_n C dX12_kindOf_4 rfl 1 rfl ?_
  refine jr_bipush (v := 15) C dX12_kindOf_5 (by decide) ?_
  refine jr_iand C dX12_kindOf_7 ?_
  by_cases z8 : inb (v1 &&& 15) (mlA 5) = true
  case neg => exact op_none ((if_neg z8).symm.trans hv)
  have hv := (if_pos z8).symm.trans hv
  refine jm_iald C K z8 dX12_kindOf_8 ?_
  refine jr_if_ne (tgt := 16) C dX12_kindOf_9 rfl (fun q9 => ?_) (fun q9 => ?_)
  · have hv := (if_neg q9).symm.trans hv
    refine jr_aload_n C dX12_kindOf_16 rfl 0 rfl ?_
    refine jm_getA C K 6 (by decide) (by decide) kw_1441 rfl dX12_kindOf_17 ?_
    refine jr_aload_n C dX12_kindOf_20 rfl 0 rfl ?_
    refine jm_getA C K 5 (by decide) (by decide) kw_1440 rfl dX12_kindOf_21 ?_
    refine jr_iload_n C dX12_kindOf_24 rfl 1 rfl ?_
    refine jr_bipush (v := 15) C dX12_kindOf_25 (by decide) ?_
    refine jr_iand C dX12_kindOf_27 ?_
    by_cases z28 : inb (v1 &&& 15) (mlA 5) = true
    case neg => exact op_none ((if_neg z28).symm.trans hv)
    have hv := (if_pos z28).symm.trans hv
    refine jm_iald C K z28 dX12_kindOf_28 ?_
    by_cases z29 : inb (gA S 5 (ix (v1 &&& 15))) (mlA 6) = true
    case neg => exact op_none ((if_neg z29).symm.trans hv)
    have hv := (if_pos z29).symm.trans hv
    refine jm_iald C K z29 dX12_kindOf_29 ?_
    exact jm_iret C K dX12_kindOf_30 (Option.some.inj hv)
  · have hv := (if_pos q9).symm.trans hv
    refine jr_iconst (v := (-1)) C dX12_kindOf_12 (by decide) ?_
    refine jr_goto (tgt := 30) C dX12_kindOf_13 rfl ?_
    exact jm_iret C K dX12_kindOf_30 (Option.some.inj hv)
theorem pX12_kindOf (l : Launch) {g : MG} (G : mSep g) (S : MS) (v1 : Int32) {w : Int32} {S' : MS} (hw : fX12_kindOf S v1 = some (w, S')) : mC l yX12_kindOf cX12_kindOf 2 (some .int) 0 g [.ref (mo g), .int v1] S (some (.int w)) S' := mC_of (by decide +kernel) (Nat.le_of_ble_eq_true rfl) rfl (fun C K => tX12_kindOf_0 C K G S v1 hw)
/-! RobotCellModel.newThing(I)I -/
def fX12_newThing_43 (S : MS) : Option (Int32 × MS) :=
  some (gI S 10, S)
def fX12_newThing_30 (S : MS) : Option (Int32 × MS) :=
  if inb (gI S 10) (mlA 8) = true then fX12_newThing_43 (pA S 8 (ix (gI S 10)) (gI S 11)) else none
def fX12_newThing_20 (S : MS) : Option (Int32 × MS) :=
  if inb (gI S 10) (mlA 7) = true then fX12_newThing_30 (pA S 7 (ix (gI S 10)) 0) else none
def fX12_newThing_10 (S : MS) (v1 : Int32) : Option (Int32 × MS) :=
  if inb (gI S 10) (mlA 6) = true then fX12_newThing_20 (pA S 6 (ix (gI S 10)) v1) else none
def fX12_newThing (S : MS) (v1 : Int32) : Option (Int32 × MS) :=
  fX12_newThing_10 (pI S 10 ((gI S 10) + 1)) v1
theorem oX12_newThing : ok_v yX12_newThing cX12_newThing 2 (some .int) 1 := ⟨kw_1358, kw_1357, kw_58, kw_73, by decide +kernel⟩
set_option maxRecDepth 100000 in
theorem tX12_newThing_43 {p : Program} {l : Launch} {e : Env} {s : State} {m : MethodId} {args : Array Value} {below : List Frame} {meth : Method} {c : Code} {g : MG} (C : CC p s m args meth c yX12_newThing cX12_newThing 2 (some .int)) (K : mK g s) (G : mSep g)  (S : MS) {w : Int32 × MS} (hv : fX12_newThing_43 S = some w) : MJ p l e s m args below meth c 2 0 g (some (.int w.1)) w.2 43 [(0, .ref (mo g))] [] S := by
  unfold fX12_newThing_43 at hv
  refine jr_aload_n C dX12_newThing_43 rfl 0 rfl ?_
  refine jm_getI C K 10 (by decide) rfl kw_1445 rfl dX12_newThing_44 ?_
  exact jm_iret C K dX12_newThing_47 (Option.some.inj hv)
set_option maxRecDepth 100000 in
theorem tX12_newThing_30 {p : Program} {l : Launch} {e : Env} {s : State} {m : MethodId} {args : Array Value} {below : List Frame} {meth : Method} {c : Code} {g : MG} (C : CC p s m args meth c yX12_newThing cX12_newThing 2 (some .int)) (K : mK g s) (G : mSep g)  (S : MS) {w : Int32 × MS} (hv : fX12_newThing_30 S = some w) : MJ p l e s m args below meth c 2 0 g (some (.int w.1)) w.2 30 [(0, .ref (mo g))] [] S := by
  unfold fX12_newThing_30 at hv
  refine jr_aload_n C dX12_newThing_30 rfl 0 rfl ?_
  refine jm_getA C K 8 (by decide) (by decide) kw_1443 rfl dX12_newThing_31 ?_
  refine jr_aload_n C dX12_newThing_34 rfl 0 rfl ?_
  refine jm_getI C K 10 (by decide) rfl kw_1445 rfl dX12_newThing_35 ?_
  refine jr_aload_n C dX12_newThing_38 rfl 0 rfl ?_
  refine jm_getI C K 11 (by decide) rfl kw_1446 rfl dX12_newThing_39 ?_
  by_cases z42 : inb (gI S 10) (mlA 8) = true
  case neg => exact op_none ((if_neg z42).symm.trans hv)
  have hv := (if_pos z42).symm.trans hv
  refine jm_iast C K G z42 dX12_newThing_42 ?_
  exact tX12_newThing_43 C K G  (pA S 8 (ix (gI S 10)) (gI S 11)) hv
set_option maxRecDepth 100000 in
theorem tX12_newThing_20 {p : Program} {l : Launch} {e : Env} {s : State} {m : MethodId} {args : Array Value} {below : List Frame} {meth : Method} {c : Code} {g : MG} (C : CC p s m args meth c yX12_newThing cX12_newThing 2 (some .int)) (K : mK g s) (G : mSep g)  (S : MS) {w : Int32 × MS} (hv : fX12_newThing_20 S = some w) : MJ p l e s m args below meth c 2 0 g (some (.int w.1)) w.2 20 [(0, .ref (mo g))] [] S := by
  unfold fX12_newThing_20 at hv
  refine jr_aload_n C dX12_newThing_20 rfl 0 rfl ?_
  refine jm_getA C K 7 (by decide) (by decide) kw_1442 rfl dX12_newThing_21 ?_
  refine jr_aload_n C dX12_newThing_24 rfl 0 rfl ?_
  refine jm_getI C K 10 (by decide) rfl kw_1445 rfl dX12_newThing_25 ?_
  refine jr_iconst (v := 0) C dX12_newThing_28 (by decide) ?_
  by_cases z29 : inb (gI S 10) (mlA 7) = true
  case neg => exact op_none ((if_neg z29).symm.trans hv)
  have hv := (if_pos z29).symm.trans hv
  refine jm_iast C K G z29 dX12_newThing_29 ?_
  exact tX12_newThing_30 C K G  (pA S 7 (ix (gI S 10)) 0) hv
set_option maxRecDepth 100000 in
theorem tX12_newThing_10 {p : Program} {l : Launch} {e : Env} {s : State} {m : MethodId} {args : Array Value} {below : List Frame} {meth : Method} {c : Code} {g : MG} (C : CC p s m args meth c yX12_newThing cX12_newThing 2 (some .int)) (K : mK g s) (G : mSep g)  (S : MS) (v1 : Int32) {w : Int32 × MS} (hv : fX12_newThing_10 S v1 = some w) : MJ p l e s m args below meth c 2 0 g (some (.int w.1)) w.2 10 [(0, .ref (mo g)), (1, .int v1)] [] S := by
  unfold fX12_newThing_10 at hv
  refine jr_aload_n C dX12_newThing_10 rfl 0 rfl ?_
  refine jm_getA C K 6 (by decide) (by decide) kw_1441 rfl dX12_newThing_11 ?_
  refine jr_aload_n C dX12_newThing_14 rfl 0 rfl ?_
  refine jm_getI C K 10 (by decide) rfl kw_1445 rfl dX12_newThing_15 ?_
  refine jr_iload_n C dX12_newThing_18 rfl 1 rfl ?_
  by_cases z19 : inb (gI S 10) (mlA 6) = true
  case neg => exact op_none ((if_neg z19).symm.trans hv)
  have hv := (if_pos z19).symm.trans hv
  refine jm_iast C K G z19 dX12_newThing_19 ?_
  exact jr_sub [0] rfl (tX12_newThing_20 C K G  (pA S 6 (ix (gI S 10)) v1) hv)
set_option maxRecDepth 100000 in
theorem tX12_newThing_0 {p : Program} {l : Launch} {e : Env} {s : State} {m : MethodId} {args : Array Value} {below : List Frame} {meth : Method} {c : Code} {g : MG} (C : CC p s m args meth c yX12_newThing cX12_newThing 2 (some .int)) (K : mK g s) (G : mSep g)  (S : MS) (v1 : Int32) {w : Int32 × MS} (hv : fX12_newThing S v1 = some w) : MJ p l e s m args below meth c 2 0 g (some (.int w.1)) w.2 0 [(0, .ref (mo g)), (1, .int v1)] [] S := by
  unfold fX12_newThing at hv
  refine jr_aload_n C dX12_newThing_0 rfl 0 rfl ?_
  refine jr_dup C dX12_newThing_1 rfl ?_
  refine jm_getI C K 10 (by decide) rfl kw_1445 rfl dX12_newThing_2 ?_
  refine jr_iconst (v := 1) C dX12_newThing_5 (by decide) ?_
  refine jr_iadd C dX12_newThing_6 ?_
  refine jm_putI C K G 10 (by decide) rfl kw_1445 rfl rfl (by decide +kernel) dX12_newThing_7 ?_
  exact tX12_newThing_10 C K G  (pI S 10 ((gI S 10) + 1)) v1 hv
theorem pX12_newThing (l : Launch) {g : MG} (G : mSep g) (S : MS) (v1 : Int32) {w : Int32} {S' : MS} (hw : fX12_newThing S v1 = some (w, S')) : mC l yX12_newThing cX12_newThing 2 (some .int) 0 g [.ref (mo g), .int v1] S (some (.int w)) S' := mC_of (by decide +kernel) (Nat.le_of_ble_eq_true rfl) rfl (fun C K => tX12_newThing_0 C K G S v1 hw)
/-! RobotCellModel.newRow(II)I -/
def fX12_newRow_51 (S : MS) (v3 : Int32) : Option (Int32 × MS) :=
  some (v3, S)
def fX12_newRow_38 (r16 : MS → Int32 → Int32 → Int32 → Option (Int32 × MS)) (S : MS) (v2 : Int32) (v3 : Int32) (v4 : Int32) : Option (Int32 × MS) :=
  r16 S v2 v3 v4
def fX12_newRow_35 (r16 : MS → Int32 → Int32 → Int32 → Option (Int32 × MS)) (S : MS) (v2 : Int32) (v3 : Int32) (v4 : Int32) : Option (Int32 × MS) :=
  fX12_newRow_38 r16 S v2 v3 (v4 + 1)
def fX12_newRow_16  : Nat → MS → Int32 → Int32 → Int32 → Option (Int32 × MS)
  | 0, _, _, _, _ => none
  | q + 1, S, v2, v3, v4 => if v2 ≤ v4 then fX12_newRow_51 (pI S 11 ((gI S 11) + v2)) v3 else (if inb ((gI S 11) + v4) (mlB 9) = true then fX12_newRow_35 (fX12_newRow_16  q) (pB S 9 (ix ((gI S 11) + v4)) 0) v2 v3 v4 else none)
def fX12_newRow_13 (S : MS) (v2 : Int32) (v3 : Int32) : Option (Int32 × MS) :=
  fX12_newRow_16 70 S v2 v3 0
def fX12_newRow (S : MS) (v1 : Int32) (v2 : Int32) : Option (Int32 × MS) :=
  Option.bind (fX12_newThing S v1) (fun c2 => if inb c2.1 (mlA 7) = true then fX12_newRow_13 (pA c2.2 7 (ix c2.1) v2) v2 c2.1 else none)
theorem oX12_newRow : ok_v yX12_newRow cX12_newRow 5 (some .int) 2 := ⟨kw_1354, kw_1353, kw_57, kw_73, by decide +kernel⟩
set_option maxRecDepth 100000 in
theorem tX12_newRow_51 {p : Program} {l : Launch} {e : Env} {s : State} {m : MethodId} {args : Array Value} {below : List Frame} {meth : Method} {c : Code} {g : MG} (C : CC p s m args meth c yX12_newRow cX12_newRow 5 (some .int)) (K : mK g s) (G : mSep g)  (S : MS) (v3 : Int32) {w : Int32 × MS} (hv : fX12_newRow_51 S v3 = some w) : MJ p l e s m args below meth c 5 1 g (some (.int w.1)) w.2 51 [(3, .int v3)] [] S := by
  unfold fX12_newRow_51 at hv
  refine jr_iload_n C dX12_newRow_51 rfl 0 rfl ?_
  exact jm_iret C K dX12_newRow_52 (Option.some.inj hv)
set_option maxRecDepth 100000 in
theorem tX12_newRow_38 {p : Program} {l : Launch} {e : Env} {s : State} {m : MethodId} {args : Array Value} {below : List Frame} {meth : Method} {c : Code} {g : MG} (C : CC p s m args meth c yX12_newRow cX12_newRow 5 (some .int)) (K : mK g s) (G : mSep g) (r16 : MS → Int32 → Int32 → Int32 → Option (Int32 × MS)) (h16 : ∀ (S : MS) (v2 : Int32) (v3 : Int32) (v4 : Int32) (w : Int32 × MS), r16 S v2 v3 v4 = some w → MJ p l e s m args below meth c 5 1 g (some (.int w.1)) w.2 16 [(0, .ref (mo g)), (2, .int v2), (3, .int v3), (4, .int v4)] [] S) (S : MS) (v2 : Int32) (v3 : Int32) (v4 : Int32) {w : Int32 × MS} (hv : fX12_newRow_38 r16 S v2 v3 v4 = some w) : MJ p l e s m args below meth c 5 1 g (some (.int w.1)) w.2 38 [(0, .ref (mo g)), (2, .int v2), (3, .int v3), (4, .int v4)] [] S := by
  unfold fX12_newRow_38 at hv
  refine jr_goto (tgt := 16) C dX12_newRow_38 rfl ?_
  exact h16 S v2 v3 v4 _ hv
set_option maxRecDepth 100000 in
theorem tX12_newRow_35 {p : Program} {l : Launch} {e : Env} {s : State} {m : MethodId} {args : Array Value} {below : List Frame} {meth : Method} {c : Code} {g : MG} (C : CC p s m args meth c yX12_newRow cX12_newRow 5 (some .int)) (K : mK g s) (G : mSep g) (r16 : MS → Int32 → Int32 → Int32 → Option (Int32 × MS)) (h16 : ∀ (S : MS) (v2 : Int32) (v3 : Int32) (v4 : Int32) (w : Int32 × MS), r16 S v2 v3 v4 = some w → MJ p l e s m args below meth c 5 1 g (some (.int w.1)) w.2 16 [(0, .ref (mo g)), (2, .int v2), (3, .int v3), (4, .int v4)] [] S) (S : MS) (v2 : Int32) (v3 : Int32) (v4 : Int32) {w : Int32 × MS} (hv : fX12_newRow_35 r16 S v2 v3 v4 = some w) : MJ p l e s m args below meth c 5 1 g (some (.int w.1)) w.2 35 [(0, .ref (mo g)), (2, .int v2), (3, .int v3), (4, .int v4)] [] S := by
  unfold fX12_newRow_35 at hv
  refine jr_iinc (v := (v4 + 1)) (lv' := [(4, .int (v4 + 1)), (0, .ref (mo g)), (2, .int v2), (3, .int v3)]) C dX12_newRow_35 3 rfl rfl (by decide) rfl ?_
  exact jr_sub [1, 2, 3, 0] rfl (tX12_newRow_38 C K G r16 h16 S v2 v3 (v4 + 1) hv)
set_option maxRecDepth 100000 in
theorem tX12_newRow_16 {p : Program} {l : Launch} {e : Env} {s : State} {m : MethodId} {args : Array Value} {below : List Frame} {meth : Method} {c : Code} {g : MG} (C : CC p s m args meth c yX12_newRow cX12_newRow 5 (some .int)) (K : mK g s) (G : mSep g)  : ∀ (q : Nat) (S : MS) (v2 : Int32) (v3 : Int32) (v4 : Int32) (w : Int32 × MS), fX12_newRow_16  q S v2 v3 v4 = some w → MJ p l e s m args below meth c 5 1 g (some (.int w.1)) w.2 16 [(0, .ref (mo g)), (2, .int v2), (3, .int v3), (4, .int v4)] [] S := by
  intro q
  induction q with
  | zero => intro S v2 v3 v4 w hv; exact absurd hv (by simp [fX12_newRow_16])
  | succ q ih =>
    intro S v2 v3 v4 w hv
    unfold fX12_newRow_16 at hv
    refine jr_iload C dX12_newRow_16 3 rfl ?_
    refine jr_iload_n C dX12_newRow_18 rfl 1 rfl ?_
    refine jr_icmp_ge (tgt := 41) C dX12_newRow_19 rfl (fun q19 => ?_) (fun q19 => ?_)
    · have hv := (if_pos q19).symm.trans hv
      refine jr_aload_n C dX12_newRow_41 rfl 0 rfl ?_
      refine jr_dup C dX12_newRow_42 rfl ?_
      refine jm_getI C K 11 (by decide) rfl kw_1446 rfl dX12_newRow_43 ?_
      refine jr_iload_n C dX12_newRow_46 rfl 1 rfl ?_
      refine jr_iadd C dX12_newRow_47 ?_
      refine jm_putI C K G 11 (by decide) rfl kw_1446 rfl rfl (by decide +kernel) dX12_newRow_48 ?_
      exact jr_sub [2] rfl (tX12_newRow_51 C K G  (pI S 11 ((gI S 11) + v2)) v3 hv)
    · have hv := (if_neg q19).symm.trans hv
      refine jr_aload_n C dX12_newRow_22 rfl 0 rfl ?_
      refine jm_getA C K 9 (by decide) (by decide) kw_1444 rfl dX12_newRow_23 ?_
      refine jr_aload_n C dX12_newRow_26 rfl 0 rfl ?_
      refine jm_getI C K 11 (by decide) rfl kw_1446 rfl dX12_newRow_27 ?_
      refine jr_iload C dX12_newRow_30 3 rfl ?_
      refine jr_iadd C dX12_newRow_32 ?_
      refine jr_lconst (v := 0) C dX12_newRow_33 (by decide) ?_
      by_cases z34 : inb ((gI S 11) + v4) (mlB 9) = true
      case neg => exact op_none ((if_neg z34).symm.trans hv)
      have hv := (if_pos z34).symm.trans hv
      refine jm_last C K G z34 dX12_newRow_34 ?_
      exact tX12_newRow_35 C K G (fX12_newRow_16  q) ih (pB S 9 (ix ((gI S 11) + v4)) 0) v2 v3 v4 hv
set_option maxRecDepth 100000 in
theorem tX12_newRow_13 {p : Program} {l : Launch} {e : Env} {s : State} {m : MethodId} {args : Array Value} {below : List Frame} {meth : Method} {c : Code} {g : MG} (C : CC p s m args meth c yX12_newRow cX12_newRow 5 (some .int)) (K : mK g s) (G : mSep g)  (S : MS) (v2 : Int32) (v3 : Int32) {w : Int32 × MS} (hv : fX12_newRow_13 S v2 v3 = some w) : MJ p l e s m args below meth c 5 1 g (some (.int w.1)) w.2 13 [(0, .ref (mo g)), (2, .int v2), (3, .int v3)] [] S := by
  unfold fX12_newRow_13 at hv
  refine jr_iconst (v := 0) C dX12_newRow_13 (by decide) ?_
  refine jr_istore (lv' := [(4, .int 0), (0, .ref (mo g)), (2, .int v2), (3, .int v3)]) C dX12_newRow_14 (by decide) rfl ?_
  exact jr_sub [1, 2, 3, 0] rfl (tX12_newRow_16 C K G  70 S v2 v3 0 _ hv)
set_option maxRecDepth 100000 in
theorem tX12_newRow_0 {p : Program} {l : Launch} {e : Env} {s : State} {m : MethodId} {args : Array Value} {below : List Frame} {meth : Method} {c : Code} {g : MG} (C : CC p s m args meth c yX12_newRow cX12_newRow 5 (some .int)) (K : mK g s) (G : mSep g)  (S : MS) (v1 : Int32) (v2 : Int32) {w : Int32 × MS} (hv : fX12_newRow S v1 v2 = some w) : MJ p l e s m args below meth c 5 1 g (some (.int w.1)) w.2 0 [(0, .ref (mo g)), (1, .int v1), (2, .int v2)] [] S := by
  unfold fX12_newRow at hv
  refine jr_aload_n C dX12_newRow_0 rfl 0 rfl ?_
  refine jr_iload_n C dX12_newRow_1 rfl 1 rfl ?_
  obtain ⟨c2, hc2, hv⟩ := Option.bind_eq_some_iff.mp hv
  refine jm_call (rest := []) C K G (pX12_newThing l G S v1 hc2) oX12_newThing rfl kw_1355 rfl ⟨Nat.le_of_ble_eq_true rfl, Nat.le_of_ble_eq_true rfl⟩ rfl (Nat.le_of_ble_eq_true rfl) ⟨Nat.zero_le _, Nat.zero_le _⟩ dX12_newRow_2 ?_
  refine jr_istore_n (lv' := [(3, .int c2.1), (0, .ref (mo g)), (1, .int v1), (2, .int v2)]) C dX12_newRow_5 rfl (by decide) rfl ?_
  refine jr_aload_n C dX12_newRow_6 rfl 1 rfl ?_
  refine jm_getA C K 7 (by decide) (by decide) kw_1442 rfl dX12_newRow_7 ?_
  refine jr_iload_n C dX12_newRow_10 rfl 0 rfl ?_
  refine jr_iload_n C dX12_newRow_11 rfl 3 rfl ?_
  by_cases z12 : inb c2.1 (mlA 7) = true
  case neg => exact op_none ((if_neg z12).symm.trans hv)
  have hv := (if_pos z12).symm.trans hv
  refine jm_iast C K G z12 dX12_newRow_12 ?_
  exact jr_sub [1, 3, 0] rfl (tX12_newRow_13 C K G  (pA c2.2 7 (ix c2.1) v2) v2 c2.1 hv)
theorem pX12_newRow (l : Launch) {g : MG} (G : mSep g) (S : MS) (v1 : Int32) (v2 : Int32) {w : Int32} {S' : MS} (hw : fX12_newRow S v1 v2 = some (w, S')) : mC l yX12_newRow cX12_newRow 5 (some .int) 1 g [.ref (mo g), .int v1, .int v2] S (some (.int w)) S' := mC_of (by decide +kernel) (Nat.le_of_ble_eq_true rfl) rfl (fun C K => tX12_newRow_0 C K G S v1 v2 hw)
/-! RobotCellModel.opens(II)V -/
def fX12_opens_50 (S : MS) : Option (MS) :=
  some S
def fX12_opens_40 (S : MS) : Option (MS) :=
  fX12_opens_50 (pI S 37 ((gI S 37) + 1))
def fX12_opens_30 (S : MS) : Option (MS) :=
  if inb (gI S 37) (mlA 34) = true then fX12_opens_40 (pA S 34 (ix (gI S 37)) 0) else none
def fX12_opens_20 (S : MS) (v2 : Int32) : Option (MS) :=
  if inb (gI S 37) (mlA 30) = true then fX12_opens_30 (pA S 30 (ix (gI S 37)) v2) else none
def fX12_opens_10 (S : MS) (v2 : Int32) : Option (MS) :=
  if inb (gI S 37) (mlA 29) = true then fX12_opens_20 (pA S 29 (ix (gI S 37)) v2) v2 else none
def fX12_opens (S : MS) (v1 : Int32) (v2 : Int32) : Option (MS) :=
  if inb (gI S 37) (mlA 28) = true then fX12_opens_10 (pA S 28 (ix (gI S 37)) v1) v2 else none
theorem oX12_opens : ok_v yX12_opens cX12_opens 3 none 2 := ⟨kw_1172, kw_1170, kw_42, kw_73, by decide +kernel⟩
set_option maxRecDepth 100000 in
theorem tX12_opens_50 {p : Program} {l : Launch} {e : Env} {s : State} {m : MethodId} {args : Array Value} {below : List Frame} {meth : Method} {c : Code} {g : MG} (C : CC p s m args meth c yX12_opens cX12_opens 3 none) (K : mK g s) (G : mSep g)  (S : MS) {w : MS} (hv : fX12_opens_50 S = some w) : MJ p l e s m args below meth c 3 0 g none w 50 [] [] S := by
  unfold fX12_opens_50 at hv
  exact jm_vret C K dX12_opens_50 (Option.some.inj hv)
set_option maxRecDepth 100000 in
theorem tX12_opens_40 {p : Program} {l : Launch} {e : Env} {s : State} {m : MethodId} {args : Array Value} {below : List Frame} {meth : Method} {c : Code} {g : MG} (C : CC p s m args meth c yX12_opens cX12_opens 3 none) (K : mK g s) (G : mSep g)  (S : MS) {w : MS} (hv : fX12_opens_40 S = some w) : MJ p l e s m args below meth c 3 0 g none w 40 [(0, .ref (mo g))] [] S := by
  unfold fX12_opens_40 at hv
  refine jr_aload_n C dX12_opens_40 rfl 0 rfl ?_
  refine jr_dup C dX12_opens_41 rfl ?_
  refine jm_getI C K 37 (by decide) rfl kw_1472 rfl dX12_opens_42 ?_
  refine jr_iconst (v := 1) C dX12_opens_45 (by decide) ?_
  refine jr_iadd C dX12_opens_46 ?_
  refine jm_putI C K G 37 (by decide) rfl kw_1472 rfl rfl (by decide +kernel) dX12_opens_47 ?_
  exact jr_sub [] rfl (tX12_opens_50 C K G  (pI S 37 ((gI S 37) + 1)) hv)
set_option maxRecDepth 100000 in
theorem tX12_opens_30 {p : Program} {l : Launch} {e : Env} {s : State} {m : MethodId} {args : Array Value} {below : List Frame} {meth : Method} {c : Code} {g : MG} (C : CC p s m args meth c yX12_opens cX12_opens 3 none) (K : mK g s) (G : mSep g)  (S : MS) {w : MS} (hv : fX12_opens_30 S = some w) : MJ p l e s m args below meth c 3 0 g none w 30 [(0, .ref (mo g))] [] S := by
  unfold fX12_opens_30 at hv
  refine jr_aload_n C dX12_opens_30 rfl 0 rfl ?_
  refine jm_getA C K 34 (by decide) (by decide) kw_1469 rfl dX12_opens_31 ?_
  refine jr_aload_n C dX12_opens_34 rfl 0 rfl ?_
  refine jm_getI C K 37 (by decide) rfl kw_1472 rfl dX12_opens_35 ?_
  refine jr_iconst (v := 0) C dX12_opens_38 (by decide) ?_
  by_cases z39 : inb (gI S 37) (mlA 34) = true
  case neg => exact op_none ((if_neg z39).symm.trans hv)
  have hv := (if_pos z39).symm.trans hv
  refine jm_iast C K G z39 dX12_opens_39 ?_
  exact tX12_opens_40 C K G  (pA S 34 (ix (gI S 37)) 0) hv
set_option maxRecDepth 100000 in
theorem tX12_opens_20 {p : Program} {l : Launch} {e : Env} {s : State} {m : MethodId} {args : Array Value} {below : List Frame} {meth : Method} {c : Code} {g : MG} (C : CC p s m args meth c yX12_opens cX12_opens 3 none) (K : mK g s) (G : mSep g)  (S : MS) (v2 : Int32) {w : MS} (hv : fX12_opens_20 S v2 = some w) : MJ p l e s m args below meth c 3 0 g none w 20 [(0, .ref (mo g)), (2, .int v2)] [] S := by
  unfold fX12_opens_20 at hv
  refine jr_aload_n C dX12_opens_20 rfl 0 rfl ?_
  refine jm_getA C K 30 (by decide) (by decide) kw_1465 rfl dX12_opens_21 ?_
  refine jr_aload_n C dX12_opens_24 rfl 0 rfl ?_
  refine jm_getI C K 37 (by decide) rfl kw_1472 rfl dX12_opens_25 ?_
  refine jr_iload_n C dX12_opens_28 rfl 1 rfl ?_
  by_cases z29 : inb (gI S 37) (mlA 30) = true
  case neg => exact op_none ((if_neg z29).symm.trans hv)
  have hv := (if_pos z29).symm.trans hv
  refine jm_iast C K G z29 dX12_opens_29 ?_
  exact jr_sub [0] rfl (tX12_opens_30 C K G  (pA S 30 (ix (gI S 37)) v2) hv)
set_option maxRecDepth 100000 in
theorem tX12_opens_10 {p : Program} {l : Launch} {e : Env} {s : State} {m : MethodId} {args : Array Value} {below : List Frame} {meth : Method} {c : Code} {g : MG} (C : CC p s m args meth c yX12_opens cX12_opens 3 none) (K : mK g s) (G : mSep g)  (S : MS) (v2 : Int32) {w : MS} (hv : fX12_opens_10 S v2 = some w) : MJ p l e s m args below meth c 3 0 g none w 10 [(0, .ref (mo g)), (2, .int v2)] [] S := by
  unfold fX12_opens_10 at hv
  refine jr_aload_n C dX12_opens_10 rfl 0 rfl ?_
  refine jm_getA C K 29 (by decide) (by decide) kw_1464 rfl dX12_opens_11 ?_
  refine jr_aload_n C dX12_opens_14 rfl 0 rfl ?_
  refine jm_getI C K 37 (by decide) rfl kw_1472 rfl dX12_opens_15 ?_
  refine jr_iload_n C dX12_opens_18 rfl 1 rfl ?_
  by_cases z19 : inb (gI S 37) (mlA 29) = true
  case neg => exact op_none ((if_neg z19).symm.trans hv)
  have hv := (if_pos z19).symm.trans hv
  refine jm_iast C K G z19 dX12_opens_19 ?_
  exact tX12_opens_20 C K G  (pA S 29 (ix (gI S 37)) v2) v2 hv
set_option maxRecDepth 100000 in
theorem tX12_opens_0 {p : Program} {l : Launch} {e : Env} {s : State} {m : MethodId} {args : Array Value} {below : List Frame} {meth : Method} {c : Code} {g : MG} (C : CC p s m args meth c yX12_opens cX12_opens 3 none) (K : mK g s) (G : mSep g)  (S : MS) (v1 : Int32) (v2 : Int32) {w : MS} (hv : fX12_opens S v1 v2 = some w) : MJ p l e s m args below meth c 3 0 g none w 0 [(0, .ref (mo g)), (1, .int v1), (2, .int v2)] [] S := by
  unfold fX12_opens at hv
  refine jr_aload_n C dX12_opens_0 rfl 0 rfl ?_
  refine jm_getA C K 28 (by decide) (by decide) kw_1463 rfl dX12_opens_1 ?_
  refine jr_aload_n C dX12_opens_4 rfl 0 rfl ?_
  refine jm_getI C K 37 (by decide) rfl kw_1472 rfl dX12_opens_5 ?_
  refine jr_iload_n C dX12_opens_8 rfl 1 rfl ?_
  by_cases z9 : inb (gI S 37) (mlA 28) = true
  case neg => exact op_none ((if_neg z9).symm.trans hv)
  have hv := (if_pos z9).symm.trans hv
  refine jm_iast C K G z9 dX12_opens_9 ?_
  exact jr_sub [0, 2] rfl (tX12_opens_10 C K G  (pA S 28 (ix (gI S 37)) v1) v2 hv)
theorem pX12_opens (l : Launch) {g : MG} (G : mSep g) (S : MS) (v1 : Int32) (v2 : Int32) {S' : MS} (hw : fX12_opens S v1 v2 = some S') : mC l yX12_opens cX12_opens 3 none 0 g [.ref (mo g), .int v1, .int v2] S none S' := mC_of (by decide +kernel) (Nat.le_of_ble_eq_true rfl) rfl (fun C K => tX12_opens_0 C K G S v1 v2 hw)
/-! RobotCellModel.goesOn(II)V -/
def fX12_goesOn_134 (S : MS) : Option (MS) :=
  some S
def fX12_goesOn_129 (S : MS) (v2 : Int32) : Option (MS) :=
  fX12_goesOn_134 (pI S 42 v2)
def fX12_goesOn_121 (r0 : MS → Int32 → Int32 → Option (MS)) (S : MS) (v1 : Int32) (v2 : Int32) : Option (MS) :=
  r0 S v1 v2
def fX12_goesOn_120 (S : MS) : Option (MS) :=
  some S
def fX12_goesOn_115 (S : MS) (v2 : Int32) : Option (MS) :=
  fX12_goesOn_120 (pI S 44 v2)
def fX12_goesOn_110 (S : MS) (v1 : Int32) (v2 : Int32) : Option (MS) :=
  fX12_goesOn_115 (pI S 43 v1) v2
def fX12_goesOn_97 (S : MS) (v1 : Int32) (v2 : Int32) (v3 : Int32) : Option (MS) :=
  if inb v3 (mlA 31) = true then (if inb (gA S 31 (ix v3)) (mlB 3) = true then fX12_goesOn_110 (pB S 3 (ix (gA S 31 (ix v3))) v1.toInt64) v1 v2 else none) else none
def fX12_goesOn_68 (r0 : MS → Int32 → Int32 → Option (MS)) (S : MS) (v1 : Int32) (v2 : Int32) (v3 : Int32) : Option (MS) :=
  if inb v3 (mlA 28) = true then (if (gA S 28 (ix v3)) = 2 then (if inb v3 (mlA 32) = true then (if (gA S 32 (ix v3)) = 0 then fX12_goesOn_97 S v1 v2 v3 else (if inb v3 (mlA 32) = true then (if (gA S 32 (ix v3)) = v1 then fX12_goesOn_97 S v1 v2 v3 else fX12_goesOn_121 r0 S v1 v2) else none)) else none) else fX12_goesOn_121 r0 S v1 v2) else none
def fX12_goesOn_57 (S : MS) : Option (MS) :=
  some S
def fX12_goesOn_50 (S : MS) (v2 : Int32) (v3 : Int32) : Option (MS) :=
  if inb v3 (mlA 35) = true then fX12_goesOn_57 (pA S 35 (ix v3) v2) else none
def fX12_goesOn_43 (S : MS) (v1 : Int32) (v2 : Int32) (v3 : Int32) : Option (MS) :=
  if inb v3 (mlA 34) = true then fX12_goesOn_50 (pA S 34 (ix v3) v1) v2 v3 else none
def fX12_goesOn_31 (S : MS) (v1 : Int32) (v2 : Int32) (v3 : Int32) : Option (MS) :=
  if inb v3 (mlA 33) = true then (if inb v3 (mlA 29) = true then fX12_goesOn_43 (pA S 29 (ix v3) (gA S 33 (ix v3))) v1 v2 v3 else none) else none
def fX12_goesOn_14 (r0 : MS → Int32 → Int32 → Option (MS)) (S : MS) (v1 : Int32) (v2 : Int32) (v3 : Int32) : Option (MS) :=
  if inb v3 (mlA 28) = true then (if (gA S 28 (ix v3)) = 3 then (if inb v3 (mlA 28) = true then fX12_goesOn_31 (pA S 28 (ix v3) 4) v1 v2 v3 else none) else fX12_goesOn_68 r0 (pI S 37 ((gI S 37) - 1)) v1 v2 v3) else none
def fX12_goesOn_0  : Nat → MS → Int32 → Int32 → Option (MS)
  | 0, _, _, _ => none
  | q + 1, S, v1, v2 => if (gI S 37) ≤ 0 then fX12_goesOn_129 (pI S 41 v1) v2 else fX12_goesOn_14 (fX12_goesOn_0  q) S v1 v2 ((gI S 37) - 1)
theorem oX12_goesOn : ok_v yX12_goesOn cX12_goesOn 4 none 2 := ⟨kw_1184, kw_1183, kw_45, kw_73, by decide +kernel⟩
set_option maxRecDepth 100000 in
theorem tX12_goesOn_134 {p : Program} {l : Launch} {e : Env} {s : State} {m : MethodId} {args : Array Value} {below : List Frame} {meth : Method} {c : Code} {g : MG} (C : CC p s m args meth c yX12_goesOn cX12_goesOn 4 none) (K : mK g s) (G : mSep g)  (S : MS) {w : MS} (hv : fX12_goesOn_134 S = some w) : MJ p l e s m args below meth c 4 0 g none w 134 [] [] S := by
  unfold fX12_goesOn_134 at hv
  exact jm_vret C K dX12_goesOn_134 (Option.some.inj hv)
set_option maxRecDepth 100000 in
theorem tX12_goesOn_129 {p : Program} {l : Launch} {e : Env} {s : State} {m : MethodId} {args : Array Value} {below : List Frame} {meth : Method} {c : Code} {g : MG} (C : CC p s m args meth c yX12_goesOn cX12_goesOn 4 none) (K : mK g s) (G : mSep g)  (S : MS) (v2 : Int32) {w : MS} (hv : fX12_goesOn_129 S v2 = some w) : MJ p l e s m args below meth c 4 0 g none w 129 [(0, .ref (mo g)), (2, .int v2)] [] S := by
  unfold fX12_goesOn_129 at hv
  refine jr_aload_n C dX12_goesOn_129 rfl 0 rfl ?_
  refine jr_iload_n C dX12_goesOn_130 rfl 1 rfl ?_
  refine jm_putI C K G 42 (by decide) rfl kw_1477 rfl rfl (by decide +kernel) dX12_goesOn_131 ?_
  exact jr_sub [] rfl (tX12_goesOn_134 C K G  (pI S 42 v2) hv)
set_option maxRecDepth 100000 in
theorem tX12_goesOn_121 {p : Program} {l : Launch} {e : Env} {s : State} {m : MethodId} {args : Array Value} {below : List Frame} {meth : Method} {c : Code} {g : MG} (C : CC p s m args meth c yX12_goesOn cX12_goesOn 4 none) (K : mK g s) (G : mSep g) (r0 : MS → Int32 → Int32 → Option (MS)) (h0 : ∀ (S : MS) (v1 : Int32) (v2 : Int32) (w : MS), r0 S v1 v2 = some w → MJ p l e s m args below meth c 4 0 g none w 0 [(0, .ref (mo g)), (1, .int v1), (2, .int v2)] [] S) (S : MS) (v1 : Int32) (v2 : Int32) {w : MS} (hv : fX12_goesOn_121 r0 S v1 v2 = some w) : MJ p l e s m args below meth c 4 0 g none w 121 [(0, .ref (mo g)), (1, .int v1), (2, .int v2)] [] S := by
  unfold fX12_goesOn_121 at hv
  refine jr_goto (tgt := 0) C dX12_goesOn_121 rfl ?_
  exact h0 S v1 v2 _ hv
set_option maxRecDepth 100000 in
theorem tX12_goesOn_120 {p : Program} {l : Launch} {e : Env} {s : State} {m : MethodId} {args : Array Value} {below : List Frame} {meth : Method} {c : Code} {g : MG} (C : CC p s m args meth c yX12_goesOn cX12_goesOn 4 none) (K : mK g s) (G : mSep g)  (S : MS) {w : MS} (hv : fX12_goesOn_120 S = some w) : MJ p l e s m args below meth c 4 0 g none w 120 [] [] S := by
  unfold fX12_goesOn_120 at hv
  exact jm_vret C K dX12_goesOn_120 (Option.some.inj hv)
set_option maxRecDepth 100000 in
theorem tX12_goesOn_115 {p : Program} {l : Launch} {e : Env} {s : State} {m : MethodId} {args : Array Value} {below : List Frame} {meth : Method} {c : Code} {g : MG} (C : CC p s m args meth c yX12_goesOn cX12_goesOn 4 none) (K : mK g s) (G : mSep g)  (S : MS) (v2 : Int32) {w : MS} (hv : fX12_goesOn_115 S v2 = some w) : MJ p l e s m args below meth c 4 0 g none w 115 [(0, .ref (mo g)), (2, .int v2)] [] S := by
  unfold fX12_goesOn_115 at hv
  refine jr_aload_n C dX12_goesOn_115 rfl 0 rfl ?_
  refine jr_iload_n C dX12_goesOn_116 rfl 1 rfl ?_
  refine jm_putI C K G 44 (by decide) rfl kw_1479 rfl rfl (by decide +kernel) dX12_goesOn_117 ?_
  exact jr_sub [] rfl (tX12_goesOn_120 C K G  (pI S 44 v2) hv)
set_option maxRecDepth 100000 in
theorem tX12_goesOn_110 {p : Program} {l : Launch} {e : Env} {s : State} {m : MethodId} {args : Array Value} {below : List Frame} {meth : Method} {c : Code} {g : MG} (C : CC p s m args meth c yX12_goesOn cX12_goesOn 4 none) (K : mK g s) (G : mSep g)  (S : MS) (v1 : Int32) (v2 : Int32) {w : MS} (hv : fX12_goesOn_110 S v1 v2 = some w) : MJ p l e s m args below meth c 4 0 g none w 110 [(0, .ref (mo g)), (1, .int v1), (2, .int v2)] [] S := by
  unfold fX12_goesOn_110 at hv
  refine jr_aload_n C dX12_goesOn_110 rfl 0 rfl ?_
  refine jr_iload_n C dX12_goesOn_111 rfl 1 rfl ?_
  refine jm_putI C K G 43 (by decide) rfl kw_1478 rfl rfl (by decide +kernel) dX12_goesOn_112 ?_
  exact jr_sub [0, 2] rfl (tX12_goesOn_115 C K G  (pI S 43 v1) v2 hv)
set_option maxRecDepth 100000 in
theorem tX12_goesOn_97 {p : Program} {l : Launch} {e : Env} {s : State} {m : MethodId} {args : Array Value} {below : List Frame} {meth : Method} {c : Code} {g : MG} (C : CC p s m args meth c yX12_goesOn cX12_goesOn 4 none) (K : mK g s) (G : mSep g)  (S : MS) (v1 : Int32) (v2 : Int32) (v3 : Int32) {w : MS} (hv : fX12_goesOn_97 S v1 v2 v3 = some w) : MJ p l e s m args below meth c 4 0 g none w 97 [(0, .ref (mo g)), (1, .int v1), (2, .int v2), (3, .int v3)] [] S := by
  unfold fX12_goesOn_97 at hv
  refine jr_aload_n C dX12_goesOn_97 rfl 0 rfl ?_
  refine jm_getA C K 3 (by decide) (by decide) kw_1438 rfl dX12_goesOn_98 ?_
  refine jr_aload_n C dX12_goesOn_101 rfl 0 rfl ?_
  refine jm_getA C K 31 (by decide) (by decide) kw_1466 rfl dX12_goesOn_102 ?_
  refine jr_iload_n C dX12_goesOn_105 rfl 3 rfl ?_
  by_cases z106 : inb v3 (mlA 31) = true
  case neg => exact op_none ((if_neg z106).symm.trans hv)
  have hv := (if_pos z106).symm.trans hv
  refine jm_iald C K z106 dX12_goesOn_106 ?_
  refine jr_iload_n C dX12_goesOn_107 rfl 1 rfl ?_
  refine jr_i2l C dX12_goesOn_108 ?_
  by_cases z109 : inb (gA S 31 (ix v3)) (mlB 3) = true
  case neg => exact op_none ((if_neg z109).symm.trans hv)
  have hv := (if_pos z109).symm.trans hv
  refine jm_last C K G z109 dX12_goesOn_109 ?_
  exact jr_sub [0, 1, 2] rfl (tX12_goesOn_110 C K G  (pB S 3 (ix (gA S 31 (ix v3))) v1.toInt64) v1 v2 hv)
set_option maxRecDepth 100000 in
theorem tX12_goesOn_68 {p : Program} {l : Launch} {e : Env} {s : State} {m : MethodId} {args : Array Value} {below : List Frame} {meth : Method} {c : Code} {g : MG} (C : CC p s m args meth c yX12_goesOn cX12_goesOn 4 none) (K : mK g s) (G : mSep g) (r0 : MS → Int32 → Int32 → Option (MS)) (h0 : ∀ (S : MS) (v1 : Int32) (v2 : Int32) (w : MS), r0 S v1 v2 = some w → MJ p l e s m args below meth c 4 0 g none w 0 [(0, .ref (mo g)), (1, .int v1), (2, .int v2)] [] S) (S : MS) (v1 : Int32) (v2 : Int32) (v3 : Int32) {w : MS} (hv : fX12_goesOn_68 r0 S v1 v2 v3 = some w) : MJ p l e s m args below meth c 4 0 g none w 68 [(0, .ref (mo g)), (1, .int v1), (2, .int v2), (3, .int v3)] [] S := by
  unfold fX12_goesOn_68 at hv
  refine jr_aload_n C dX12_goesOn_68 rfl 0 rfl ?_
  refine jm_getA C K 28 (by decide) (by decide) kw_1463 rfl dX12_goesOn_69 ?_
  refine jr_iload_n C dX12_goesOn_72 rfl 3 rfl ?_
  by_cases z73 : inb v3 (mlA 28) = true
  case neg => exact op_none ((if_neg z73).symm.trans hv)
  have hv := (if_pos z73).symm.trans hv
  refine jm_iald C K z73 dX12_goesOn_73 ?_
  refine jr_iconst (v := 2) C dX12_goesOn_74 (by decide) ?_
  refine jr_icmp_ne (tgt := 121) C dX12_goesOn_75 rfl (fun q75 => ?_) (fun q75 => ?_)
  · have hv := (if_neg q75).symm.trans hv
    exact jr_sub [0, 1, 2] rfl (tX12_goesOn_121 C K G r0 h0 S v1 v2 hv)
  · have hv := (if_pos q75).symm.trans hv
    refine jr_aload_n C dX12_goesOn_78 rfl 0 rfl ?_
    refine jm_getA C K 32 (by decide) (by decide) kw_1467 rfl dX12_goesOn_79 ?_
    refine jr_iload_n C dX12_goesOn_82 rfl 3 rfl ?_
    by_cases z83 : inb v3 (mlA 32) = true
    case neg => exact op_none ((if_neg z83).symm.trans hv)
    have hv := (if_pos z83).symm.trans hv
    refine jm_iald C K z83 dX12_goesOn_83 ?_
    refine jr_if_eq (tgt := 97) C dX12_goesOn_84 rfl (fun q84 => ?_) (fun q84 => ?_)
    · have hv := (if_pos q84).symm.trans hv
      exact tX12_goesOn_97 C K G  S v1 v2 v3 hv
    · have hv := (if_neg q84).symm.trans hv
      refine jr_aload_n C dX12_goesOn_87 rfl 0 rfl ?_
      refine jm_getA C K 32 (by decide) (by decide) kw_1467 rfl dX12_goesOn_88 ?_
      refine jr_iload_n C dX12_goesOn_91 rfl 3 rfl ?_
      by_cases z92 : inb v3 (mlA 32) = true
      case neg => exact op_none ((if_neg z92).symm.trans hv)
      have hv := (if_pos z92).symm.trans hv
      refine jm_iald C K z92 dX12_goesOn_92 ?_
      refine jr_iload_n C dX12_goesOn_93 rfl 1 rfl ?_
      refine jr_icmp_ne (tgt := 121) C dX12_goesOn_94 rfl (fun q94 => ?_) (fun q94 => ?_)
      · have hv := (if_neg q94).symm.trans hv
        exact jr_sub [0, 1, 2] rfl (tX12_goesOn_121 C K G r0 h0 S v1 v2 hv)
      · have hv := (if_pos q94).symm.trans hv
        exact tX12_goesOn_97 C K G  S v1 v2 v3 hv
set_option maxRecDepth 100000 in
theorem tX12_goesOn_57 {p : Program} {l : Launch} {e : Env} {s : State} {m : MethodId} {args : Array Value} {below : List Frame} {meth : Method} {c : Code} {g : MG} (C : CC p s m args meth c yX12_goesOn cX12_goesOn 4 none) (K : mK g s) (G : mSep g)  (S : MS) {w : MS} (hv : fX12_goesOn_57 S = some w) : MJ p l e s m args below meth c 4 0 g none w 57 [] [] S := by
  unfold fX12_goesOn_57 at hv
  exact jm_vret C K dX12_goesOn_57 (Option.some.inj hv)
set_option maxRecDepth 100000 in
theorem tX12_goesOn_50 {p : Program} {l : Launch} {e : Env} {s : State} {m : MethodId} {args : Array Value} {below : List Frame} {meth : Method} {c : Code} {g : MG} (C : CC p s m args meth c yX12_goesOn cX12_goesOn 4 none) (K : mK g s) (G : mSep g)  (S : MS) (v2 : Int32) (v3 : Int32) {w : MS} (hv : fX12_goesOn_50 S v2 v3 = some w) : MJ p l e s m args below meth c 4 0 g none w 50 [(0, .ref (mo g)), (2, .int v2), (3, .int v3)] [] S := by
  unfold fX12_goesOn_50 at hv
  refine jr_aload_n C dX12_goesOn_50 rfl 0 rfl ?_
  refine jm_getA C K 35 (by decide) (by decide) kw_1470 rfl dX12_goesOn_51 ?_
  refine jr_iload_n C dX12_goesOn_54 rfl 2 rfl ?_
  refine jr_iload_n C dX12_goesOn_55 rfl 1 rfl ?_
  by_cases z56 : inb v3 (mlA 35) = true
  case neg => exact op_none ((if_neg z56).symm.trans hv)
  have hv := (if_pos z56).symm.trans hv
  refine jm_iast C K G z56 dX12_goesOn_56 ?_
  exact jr_sub [] rfl (tX12_goesOn_57 C K G  (pA S 35 (ix v3) v2) hv)
set_option maxRecDepth 100000 in
theorem tX12_goesOn_43 {p : Program} {l : Launch} {e : Env} {s : State} {m : MethodId} {args : Array Value} {below : List Frame} {meth : Method} {c : Code} {g : MG} (C : CC p s m args meth c yX12_goesOn cX12_goesOn 4 none) (K : mK g s) (G : mSep g)  (S : MS) (v1 : Int32) (v2 : Int32) (v3 : Int32) {w : MS} (hv : fX12_goesOn_43 S v1 v2 v3 = some w) : MJ p l e s m args below meth c 4 0 g none w 43 [(0, .ref (mo g)), (1, .int v1), (2, .int v2), (3, .int v3)] [] S := by
  unfold fX12_goesOn_43 at hv
  refine jr_aload_n C dX12_goesOn_43 rfl 0 rfl ?_
  refine jm_getA C K 34 (by decide) (by decide) kw_1469 rfl dX12_goesOn_44 ?_
  refine jr_iload_n C dX12_goesOn_47 rfl 3 rfl ?_
  refine jr_iload_n C dX12_goesOn_48 rfl 1 rfl ?_
  by_cases z49 : inb v3 (mlA 34) = true
  case neg => exact op_none ((if_neg z49).symm.trans hv)
  have hv := (if_pos z49).symm.trans hv
  refine jm_iast C K G z49 dX12_goesOn_49 ?_
  exact jr_sub [0, 2, 3] rfl (tX12_goesOn_50 C K G  (pA S 34 (ix v3) v1) v2 v3 hv)
set_option maxRecDepth 100000 in
theorem tX12_goesOn_31 {p : Program} {l : Launch} {e : Env} {s : State} {m : MethodId} {args : Array Value} {below : List Frame} {meth : Method} {c : Code} {g : MG} (C : CC p s m args meth c yX12_goesOn cX12_goesOn 4 none) (K : mK g s) (G : mSep g)  (S : MS) (v1 : Int32) (v2 : Int32) (v3 : Int32) {w : MS} (hv : fX12_goesOn_31 S v1 v2 v3 = some w) : MJ p l e s m args below meth c 4 0 g none w 31 [(0, .ref (mo g)), (1, .int v1), (2, .int v2), (3, .int v3)] [] S := by
  unfold fX12_goesOn_31 at hv
  refine jr_aload_n C dX12_goesOn_31 rfl 0 rfl ?_
  refine jm_getA C K 29 (by decide) (by decide) kw_1464 rfl dX12_goesOn_32 ?_
  refine jr_iload_n C dX12_goesOn_35 rfl 3 rfl ?_
  refine jr_aload_n C dX12_goesOn_36 rfl 0 rfl ?_
  refine jm_getA C K 33 (by decide) (by decide) kw_1468 rfl dX12_goesOn_37 ?_
  refine jr_iload_n C dX12_goesOn_40 rfl 3 rfl ?_
  by_cases z41 : inb v3 (mlA 33) = true
  case neg => exact op_none ((if_neg z41).symm.trans hv)
  have hv := (if_pos z41).symm.trans hv
  refine jm_iald C K z41 dX12_goesOn_41 ?_
  by_cases z42 : inb v3 (mlA 29) = true
  case neg => exact op_none ((if_neg z42).symm.trans hv)
  have hv := (if_pos z42).symm.trans hv
  refine jm_iast C K G z42 dX12_goesOn_42 ?_
  exact tX12_goesOn_43 C K G  (pA S 29 (ix v3) (gA S 33 (ix v3))) v1 v2 v3 hv
set_option maxRecDepth 100000 in
theorem tX12_goesOn_14 {p : Program} {l : Launch} {e : Env} {s : State} {m : MethodId} {args : Array Value} {below : List Frame} {meth : Method} {c : Code} {g : MG} (C : CC p s m args meth c yX12_goesOn cX12_goesOn 4 none) (K : mK g s) (G : mSep g) (r0 : MS → Int32 → Int32 → Option (MS)) (h0 : ∀ (S : MS) (v1 : Int32) (v2 : Int32) (w : MS), r0 S v1 v2 = some w → MJ p l e s m args below meth c 4 0 g none w 0 [(0, .ref (mo g)), (1, .int v1), (2, .int v2)] [] S) (S : MS) (v1 : Int32) (v2 : Int32) (v3 : Int32) {w : MS} (hv : fX12_goesOn_14 r0 S v1 v2 v3 = some w) : MJ p l e s m args below meth c 4 0 g none w 14 [(0, .ref (mo g)), (1, .int v1), (2, .int v2), (3, .int v3)] [] S := by
  unfold fX12_goesOn_14 at hv
  refine jr_aload_n C dX12_goesOn_14 rfl 0 rfl ?_
  refine jm_getA C K 28 (by decide) (by decide) kw_1463 rfl dX12_goesOn_15 ?_
  refine jr_iload_n C dX12_goesOn_18 rfl 3 rfl ?_
  by_cases z19 : inb v3 (mlA 28) = true
  case neg => exact op_none ((if_neg z19).symm.trans hv)
  have hv := (if_pos z19).symm.trans hv
  refine jm_iald C K z19 dX12_goesOn_19 ?_
  refine jr_iconst (v := 3) C dX12_goesOn_20 (by decide) ?_
  refine jr_icmp_ne (tgt := 58) C dX12_goesOn_21 rfl (fun q21 => ?_) (fun q21 => ?_)
  · have hv := (if_neg q21).symm.trans hv
    refine jr_aload_n C dX12_goesOn_58 rfl 0 rfl ?_
    refine jr_dup C dX12_goesOn_59 rfl ?_
    refine jm_getI C K 37 (by decide) rfl kw_1472 rfl dX12_goesOn_60 ?_
    refine jr_iconst (v := 1) C dX12_goesOn_63 (by decide) ?_
    refine jr_isub C dX12_goesOn_64 ?_
    refine jm_putI C K G 37 (by decide) rfl kw_1472 rfl rfl (by decide +kernel) dX12_goesOn_65 ?_
    exact tX12_goesOn_68 C K G r0 h0 (pI S 37 ((gI S 37) - 1)) v1 v2 v3 hv
  · have hv := (if_pos q21).symm.trans hv
    refine jr_aload_n C dX12_goesOn_24 rfl 0 rfl ?_
    refine jm_getA C K 28 (by decide) (by decide) kw_1463 rfl dX12_goesOn_25 ?_
    refine jr_iload_n C dX12_goesOn_28 rfl 3 rfl ?_
    refine jr_iconst (v := 4) C dX12_goesOn_29 (by decide) ?_
    by_cases z30 : inb v3 (mlA 28) = true
    case neg => exact op_none ((if_neg z30).symm.trans hv)
    have hv := (if_pos z30).symm.trans hv
    refine jm_iast C K G z30 dX12_goesOn_30 ?_
    exact tX12_goesOn_31 C K G  (pA S 28 (ix v3) 4) v1 v2 v3 hv
set_option maxRecDepth 100000 in
theorem tX12_goesOn_0 {p : Program} {l : Launch} {e : Env} {s : State} {m : MethodId} {args : Array Value} {below : List Frame} {meth : Method} {c : Code} {g : MG} (C : CC p s m args meth c yX12_goesOn cX12_goesOn 4 none) (K : mK g s) (G : mSep g)  : ∀ (q : Nat) (S : MS) (v1 : Int32) (v2 : Int32) (w : MS), fX12_goesOn_0  q S v1 v2 = some w → MJ p l e s m args below meth c 4 0 g none w 0 [(0, .ref (mo g)), (1, .int v1), (2, .int v2)] [] S := by
  intro q
  induction q with
  | zero => intro S v1 v2 w hv; exact absurd hv (by simp [fX12_goesOn_0])
  | succ q ih =>
    intro S v1 v2 w hv
    unfold fX12_goesOn_0 at hv
    refine jr_aload_n C dX12_goesOn_0 rfl 0 rfl ?_
    refine jm_getI C K 37 (by decide) rfl kw_1472 rfl dX12_goesOn_1 ?_
    refine jr_if_le (tgt := 124) C dX12_goesOn_4 rfl (fun q4 => ?_) (fun q4 => ?_)
    · have hv := (if_pos q4).symm.trans hv
      refine jr_aload_n C dX12_goesOn_124 rfl 0 rfl ?_
      refine jr_iload_n C dX12_goesOn_125 rfl 1 rfl ?_
      refine jm_putI C K G 41 (by decide) rfl kw_1476 rfl rfl (by decide +kernel) dX12_goesOn_126 ?_
      exact jr_sub [0, 2] rfl (tX12_goesOn_129 C K G  (pI S 41 v1) v2 hv)
    · have hv := (if_neg q4).symm.trans hv
      refine jr_aload_n C dX12_goesOn_7 rfl 0 rfl ?_
      refine jm_getI C K 37 (by decide) rfl kw_1472 rfl dX12_goesOn_8 ?_
      refine jr_iconst (v := 1) C dX12_goesOn_11 (by decide) ?_
      refine jr_isub C dX12_goesOn_12 ?_
      refine jr_istore_n (lv' := [(3, .int ((gI S 37) - 1)), (0, .ref (mo g)), (1, .int v1), (2, .int v2)]) C dX12_goesOn_13 rfl (by decide) rfl ?_
      exact jr_sub [1, 2, 3, 0] rfl (tX12_goesOn_14 C K G (fX12_goesOn_0  q) ih S v1 v2 ((gI S 37) - 1) hv)
def fX12_goesOn (S : MS) (v1 : Int32) (v2 : Int32) : Option (MS) := fX12_goesOn_0 50 S v1 v2
theorem pX12_goesOn (l : Launch) {g : MG} (G : mSep g) (S : MS) (v1 : Int32) (v2 : Int32) {S' : MS} (hw : fX12_goesOn S v1 v2 = some S') : mC l yX12_goesOn cX12_goesOn 4 none 0 g [.ref (mo g), .int v1, .int v2] S none S' := mC_of (by decide +kernel) (Nat.le_of_ble_eq_true rfl) rfl (fun C K => jr_sub [0, 1, 2] rfl (tX12_goesOn_0 C K G 50 S v1 v2 _ hw))
/-! RobotCellModel.comes(II)V -/
def fX12_comes_27 (S : MS) (v1 : Int32) (v2 : Int32) : Option (MS) :=
  Option.bind (fX12_goesOn S v1 v2) (fun c30 => some c30)
def fX12_comes_16 (S : MS) : Option (MS) :=
  some S
def fX12_comes (S : MS) (v1 : Int32) (v2 : Int32) : Option (MS) :=
  if (gI S 40) = 2000 then fX12_comes_16 (pI S 41 10) else fX12_comes_27 (pI S 40 ((gI S 40) + 1)) v1 v2
theorem oX12_comes : ok_v yX12_comes cX12_comes 3 none 2 := ⟨kw_1428, kw_1427, kw_69, kw_73, by decide +kernel⟩
set_option maxRecDepth 100000 in
theorem tX12_comes_27 {p : Program} {l : Launch} {e : Env} {s : State} {m : MethodId} {args : Array Value} {below : List Frame} {meth : Method} {c : Code} {g : MG} (C : CC p s m args meth c yX12_comes cX12_comes 3 none) (K : mK g s) (G : mSep g)  (S : MS) (v1 : Int32) (v2 : Int32) {w : MS} (hv : fX12_comes_27 S v1 v2 = some w) : MJ p l e s m args below meth c 3 1 g none w 27 [(0, .ref (mo g)), (1, .int v1), (2, .int v2)] [] S := by
  unfold fX12_comes_27 at hv
  refine jr_aload_n C dX12_comes_27 rfl 0 rfl ?_
  refine jr_iload_n C dX12_comes_28 rfl 1 rfl ?_
  refine jr_iload_n C dX12_comes_29 rfl 2 rfl ?_
  obtain ⟨c30, hc30, hv⟩ := Option.bind_eq_some_iff.mp hv
  refine jm_call (rest := []) C K G (pX12_goesOn l G S v1 v2 hc30) oX12_goesOn rfl kw_1181 rfl ⟨Nat.le_of_ble_eq_true rfl, Nat.le_of_ble_eq_true rfl⟩ rfl (Nat.le_of_ble_eq_true rfl) ⟨Nat.zero_le _, Nat.zero_le _⟩ dX12_comes_30 ?_
  exact jm_vret C K dX12_comes_33 (Option.some.inj hv)
set_option maxRecDepth 100000 in
theorem tX12_comes_16 {p : Program} {l : Launch} {e : Env} {s : State} {m : MethodId} {args : Array Value} {below : List Frame} {meth : Method} {c : Code} {g : MG} (C : CC p s m args meth c yX12_comes cX12_comes 3 none) (K : mK g s) (G : mSep g)  (S : MS) {w : MS} (hv : fX12_comes_16 S = some w) : MJ p l e s m args below meth c 3 1 g none w 16 [] [] S := by
  unfold fX12_comes_16 at hv
  exact jm_vret C K dX12_comes_16 (Option.some.inj hv)
set_option maxRecDepth 100000 in
theorem tX12_comes_0 {p : Program} {l : Launch} {e : Env} {s : State} {m : MethodId} {args : Array Value} {below : List Frame} {meth : Method} {c : Code} {g : MG} (C : CC p s m args meth c yX12_comes cX12_comes 3 none) (K : mK g s) (G : mSep g)  (S : MS) (v1 : Int32) (v2 : Int32) {w : MS} (hv : fX12_comes S v1 v2 = some w) : MJ p l e s m args below meth c 3 1 g none w 0 [(0, .ref (mo g)), (1, .int v1), (2, .int v2)] [] S := by
  unfold fX12_comes at hv
  refine jr_aload_n C dX12_comes_0 rfl 0 rfl ?_
  refine jm_getI C K 40 (by decide) rfl kw_1475 rfl dX12_comes_1 ?_
  refine jr_sipush (v := 2000) C dX12_comes_4 (by decide) ?_
  refine jr_icmp_ne (tgt := 17) C dX12_comes_7 rfl (fun q7 => ?_) (fun q7 => ?_)
  · have hv := (if_neg q7).symm.trans hv
    refine jr_aload_n C dX12_comes_17 rfl 0 rfl ?_
    refine jr_dup C dX12_comes_18 rfl ?_
    refine jm_getI C K 40 (by decide) rfl kw_1475 rfl dX12_comes_19 ?_
    refine jr_iconst (v := 1) C dX12_comes_22 (by decide) ?_
    refine jr_iadd C dX12_comes_23 ?_
    refine jm_putI C K G 40 (by decide) rfl kw_1475 rfl rfl (by decide +kernel) dX12_comes_24 ?_
    exact tX12_comes_27 C K G  (pI S 40 ((gI S 40) + 1)) v1 v2 hv
  · have hv := (if_pos q7).symm.trans hv
    refine jr_aload_n C dX12_comes_10 rfl 0 rfl ?_
    refine jr_bipush (v := 10) C dX12_comes_11 (by decide) ?_
    refine jm_putI C K G 41 (by decide) rfl kw_1476 rfl rfl (by decide +kernel) dX12_comes_13 ?_
    exact jr_sub [] rfl (tX12_comes_16 C K G  (pI S 41 10) hv)
theorem pX12_comes (l : Launch) {g : MG} (G : mSep g) (S : MS) (v1 : Int32) (v2 : Int32) {S' : MS} (hw : fX12_comes S v1 v2 = some S') : mC l yX12_comes cX12_comes 3 none 1 g [.ref (mo g), .int v1, .int v2] S none S' := mC_of (by decide +kernel) (Nat.le_of_ble_eq_true rfl) rfl (fun C K => tX12_comes_0 C K G S v1 v2 hw)
/-! RobotCellModel.through(I)V -/
def fX12_through_108 (S : MS) : Option (MS) :=
  some S
def fX12_through_96 (S : MS) (v1 : Int32) : Option (MS) :=
  if inb v1 (mlA 30) = true then (if inb v1 (mlA 29) = true then fX12_through_108 (pA S 29 (ix v1) (gA S 30 (ix v1))) else none) else none
def fX12_through_83 (S : MS) : Option (MS) :=
  some S
def fX12_through_67 (S : MS) : Option (MS) :=
  some S
def fX12_through_46 (S : MS) (v1 : Int32) : Option (MS) :=
  if inb v1 (mlB 36) = true then (if (gB S 36 (ix v1)) = 0 then fX12_through_67 (pI S 37 ((gI S 37) - 1)) else (if (gI S 38) = 0 then fX12_through_83 (pI S 41 10) else fX12_through_96 (pI S 38 ((gI S 38) - 1)) v1)) else none
def fX12_through_193 (S : MS) : Option (MS) :=
  some S
def fX12_through_181 (S : MS) : Option (MS) :=
  if (gI S 37) = 0 then fX12_through_193 (pI S 41 0) else some S
def fX12_through_171 (S : MS) : Option (MS) :=
  fX12_through_181 (pI S 37 ((gI S 37) - 1))
def fX12_through_130 (S : MS) : Option (MS) :=
  fX12_through_193 S
def fX12_through_118 (S : MS) (v1 : Int32) : Option (MS) :=
  if inb v1 (mlA 33) = true then (if inb v1 (mlA 29) = true then fX12_through_130 (pA S 29 (ix v1) (gA S 33 (ix v1))) else none) else none
def fX12_through_143 (S : MS) (v1 : Int32) : Option (MS) :=
  if inb v1 (mlA 34) = true then (if (gA S 34 (ix v1)) ≤ 0 then fX12_through_193 S else (if inb v1 (mlA 34) = true then (if inb v1 (mlA 35) = true then (Option.bind (fX12_goesOn S (gA S 34 (ix v1)) (gA S 35 (ix v1))) (fun c165 => fX12_through_193 c165)) else none) else none)) else none
def fX12_through (S : MS) (v1 : Int32) : Option (MS) :=
  if inb v1 (mlA 28) = true then (if (gA S 28 (ix v1)) = 1 then (if inb v1 (mlB 36) = true then (if inb v1 (mlB 36) = true then fX12_through_46 (pB S 36 (ix v1) ((gB S 36 (ix v1)) - 1)) v1 else none) else none) else if (gA S 28 (ix v1)) = 2 then fX12_through_171 S else if (gA S 28 (ix v1)) = 3 then (if inb v1 (mlA 28) = true then fX12_through_118 (pA S 28 (ix v1) 4) v1 else none) else if (gA S 28 (ix v1)) = 4 then fX12_through_143 (pI S 37 ((gI S 37) - 1)) v1 else fX12_through_171 S) else none
theorem oX12_through : ok_v yX12_through cX12_through 2 none 1 := ⟨kw_1180, kw_1179, kw_44, kw_73, by decide +kernel⟩
set_option maxRecDepth 100000 in
theorem tX12_through_108 {p : Program} {l : Launch} {e : Env} {s : State} {m : MethodId} {args : Array Value} {below : List Frame} {meth : Method} {c : Code} {g : MG} (C : CC p s m args meth c yX12_through cX12_through 2 none) (K : mK g s) (G : mSep g)  (S : MS) {w : MS} (hv : fX12_through_108 S = some w) : MJ p l e s m args below meth c 2 1 g none w 108 [] [] S := by
  unfold fX12_through_108 at hv
  refine jr_goto (tgt := 193) C dX12_through_108 rfl ?_
  exact jm_vret C K dX12_through_193 (Option.some.inj hv)
set_option maxRecDepth 100000 in
theorem tX12_through_96 {p : Program} {l : Launch} {e : Env} {s : State} {m : MethodId} {args : Array Value} {below : List Frame} {meth : Method} {c : Code} {g : MG} (C : CC p s m args meth c yX12_through cX12_through 2 none) (K : mK g s) (G : mSep g)  (S : MS) (v1 : Int32) {w : MS} (hv : fX12_through_96 S v1 = some w) : MJ p l e s m args below meth c 2 1 g none w 96 [(0, .ref (mo g)), (1, .int v1)] [] S := by
  unfold fX12_through_96 at hv
  refine jr_aload_n C dX12_through_96 rfl 0 rfl ?_
  refine jm_getA C K 29 (by decide) (by decide) kw_1464 rfl dX12_through_97 ?_
  refine jr_iload_n C dX12_through_100 rfl 1 rfl ?_
  refine jr_aload_n C dX12_through_101 rfl 0 rfl ?_
  refine jm_getA C K 30 (by decide) (by decide) kw_1465 rfl dX12_through_102 ?_
  refine jr_iload_n C dX12_through_105 rfl 1 rfl ?_
  by_cases z106 : inb v1 (mlA 30) = true
  case neg => exact op_none ((if_neg z106).symm.trans hv)
  have hv := (if_pos z106).symm.trans hv
  refine jm_iald C K z106 dX12_through_106 ?_
  by_cases z107 : inb v1 (mlA 29) = true
  case neg => exact op_none ((if_neg z107).symm.trans hv)
  have hv := (if_pos z107).symm.trans hv
  refine jm_iast C K G z107 dX12_through_107 ?_
  exact jr_sub [] rfl (tX12_through_108 C K G  (pA S 29 (ix v1) (gA S 30 (ix v1))) hv)
set_option maxRecDepth 100000 in
theorem tX12_through_83 {p : Program} {l : Launch} {e : Env} {s : State} {m : MethodId} {args : Array Value} {below : List Frame} {meth : Method} {c : Code} {g : MG} (C : CC p s m args meth c yX12_through cX12_through 2 none) (K : mK g s) (G : mSep g)  (S : MS) {w : MS} (hv : fX12_through_83 S = some w) : MJ p l e s m args below meth c 2 1 g none w 83 [] [] S := by
  unfold fX12_through_83 at hv
  refine jr_goto (tgt := 193) C dX12_through_83 rfl ?_
  exact jm_vret C K dX12_through_193 (Option.some.inj hv)
set_option maxRecDepth 100000 in
theorem tX12_through_67 {p : Program} {l : Launch} {e : Env} {s : State} {m : MethodId} {args : Array Value} {below : List Frame} {meth : Method} {c : Code} {g : MG} (C : CC p s m args meth c yX12_through cX12_through 2 none) (K : mK g s) (G : mSep g)  (S : MS) {w : MS} (hv : fX12_through_67 S = some w) : MJ p l e s m args below meth c 2 1 g none w 67 [] [] S := by
  unfold fX12_through_67 at hv
  refine jr_goto (tgt := 193) C dX12_through_67 rfl ?_
  exact jm_vret C K dX12_through_193 (Option.some.inj hv)
set_option maxRecDepth 100000 in
theorem tX12_through_46 {p : Program} {l : Launch} {e : Env} {s : State} {m : MethodId} {args : Array Value} {below : List Frame} {meth : Method} {c : Code} {g : MG} (C : CC p s m args meth c yX12_through cX12_through 2 none) (K : mK g s) (G : mSep g)  (S : MS) (v1 : Int32) {w : MS} (hv : fX12_through_46 S v1 = some w) : MJ p l e s m args below meth c 2 1 g none w 46 [(0, .ref (mo g)), (1, .int v1)] [] S := by
  unfold fX12_through_46 at hv
  refine jr_aload_n C dX12_through_46 rfl 0 rfl ?_
  refine jm_getA C K 36 (by decide) (by decide) kw_1471 rfl dX12_through_47 ?_
  refine jr_iload_n C dX12_through_50 rfl 1 rfl ?_
  by_cases z51 : inb v1 (mlB 36) = true
  case neg => exact op_none ((if_neg z51).symm.trans hv)
  have hv := (if_pos z51).symm.trans hv
  refine jm_lald C K z51 dX12_through_51 ?_
  refine jr_lconst (v := 0) C dX12_through_52 (by decide) ?_
  refine jr_lcmp_ne (tgt := 70) C dX12_through_53 dX12_through_54 rfl (fun q53 => ?_) (fun q53 => ?_)
  · have hv := (if_neg q53).symm.trans hv
    refine jr_aload_n C dX12_through_70 rfl 0 rfl ?_
    refine jm_getI C K 38 (by decide) rfl kw_1473 rfl dX12_through_71 ?_
    refine jr_if_ne (tgt := 86) C dX12_through_74 rfl (fun q74 => ?_) (fun q74 => ?_)
    · have hv := (if_neg q74).symm.trans hv
      refine jr_aload_n C dX12_through_86 rfl 0 rfl ?_
      refine jr_dup C dX12_through_87 rfl ?_
      refine jm_getI C K 38 (by decide) rfl kw_1473 rfl dX12_through_88 ?_
      refine jr_iconst (v := 1) C dX12_through_91 (by decide) ?_
      refine jr_isub C dX12_through_92 ?_
      refine jm_putI C K G 38 (by decide) rfl kw_1473 rfl rfl (by decide +kernel) dX12_through_93 ?_
      exact tX12_through_96 C K G  (pI S 38 ((gI S 38) - 1)) v1 hv
    · have hv := (if_pos q74).symm.trans hv
      refine jr_aload_n C dX12_through_77 rfl 0 rfl ?_
      refine jr_bipush (v := 10) C dX12_through_78 (by decide) ?_
      refine jm_putI C K G 41 (by decide) rfl kw_1476 rfl rfl (by decide +kernel) dX12_through_80 ?_
      exact jr_sub [] rfl (tX12_through_83 C K G  (pI S 41 10) hv)
  · have hv := (if_pos q53).symm.trans hv
    refine jr_aload_n C dX12_through_57 rfl 0 rfl ?_
    refine jr_dup C dX12_through_58 rfl ?_
    refine jm_getI C K 37 (by decide) rfl kw_1472 rfl dX12_through_59 ?_
    refine jr_iconst (v := 1) C dX12_through_62 (by decide) ?_
    refine jr_isub C dX12_through_63 ?_
    refine jm_putI C K G 37 (by decide) rfl kw_1472 rfl rfl (by decide +kernel) dX12_through_64 ?_
    exact jr_sub [] rfl (tX12_through_67 C K G  (pI S 37 ((gI S 37) - 1)) hv)
set_option maxRecDepth 100000 in
theorem tX12_through_193 {p : Program} {l : Launch} {e : Env} {s : State} {m : MethodId} {args : Array Value} {below : List Frame} {meth : Method} {c : Code} {g : MG} (C : CC p s m args meth c yX12_through cX12_through 2 none) (K : mK g s) (G : mSep g)  (S : MS) {w : MS} (hv : fX12_through_193 S = some w) : MJ p l e s m args below meth c 2 1 g none w 193 [] [] S := by
  unfold fX12_through_193 at hv
  exact jm_vret C K dX12_through_193 (Option.some.inj hv)
set_option maxRecDepth 100000 in
theorem tX12_through_181 {p : Program} {l : Launch} {e : Env} {s : State} {m : MethodId} {args : Array Value} {below : List Frame} {meth : Method} {c : Code} {g : MG} (C : CC p s m args meth c yX12_through cX12_through 2 none) (K : mK g s) (G : mSep g)  (S : MS) {w : MS} (hv : fX12_through_181 S = some w) : MJ p l e s m args below meth c 2 1 g none w 181 [(0, .ref (mo g))] [] S := by
  unfold fX12_through_181 at hv
  refine jr_aload_n C dX12_through_181 rfl 0 rfl ?_
  refine jm_getI C K 37 (by decide) rfl kw_1472 rfl dX12_through_182 ?_
  refine jr_if_ne (tgt := 193) C dX12_through_185 rfl (fun q185 => ?_) (fun q185 => ?_)
  · have hv := (if_neg q185).symm.trans hv
    exact jm_vret C K dX12_through_193 (Option.some.inj hv)
  · have hv := (if_pos q185).symm.trans hv
    refine jr_aload_n C dX12_through_188 rfl 0 rfl ?_
    refine jr_iconst (v := 0) C dX12_through_189 (by decide) ?_
    refine jm_putI C K G 41 (by decide) rfl kw_1476 rfl rfl (by decide +kernel) dX12_through_190 ?_
    exact jr_sub [] rfl (tX12_through_193 C K G  (pI S 41 0) hv)
set_option maxRecDepth 100000 in
theorem tX12_through_171 {p : Program} {l : Launch} {e : Env} {s : State} {m : MethodId} {args : Array Value} {below : List Frame} {meth : Method} {c : Code} {g : MG} (C : CC p s m args meth c yX12_through cX12_through 2 none) (K : mK g s) (G : mSep g)  (S : MS) {w : MS} (hv : fX12_through_171 S = some w) : MJ p l e s m args below meth c 2 1 g none w 171 [(0, .ref (mo g))] [] S := by
  unfold fX12_through_171 at hv
  refine jr_aload_n C dX12_through_171 rfl 0 rfl ?_
  refine jr_dup C dX12_through_172 rfl ?_
  refine jm_getI C K 37 (by decide) rfl kw_1472 rfl dX12_through_173 ?_
  refine jr_iconst (v := 1) C dX12_through_176 (by decide) ?_
  refine jr_isub C dX12_through_177 ?_
  refine jm_putI C K G 37 (by decide) rfl kw_1472 rfl rfl (by decide +kernel) dX12_through_178 ?_
  exact tX12_through_181 C K G  (pI S 37 ((gI S 37) - 1)) hv
set_option maxRecDepth 100000 in
theorem tX12_through_130 {p : Program} {l : Launch} {e : Env} {s : State} {m : MethodId} {args : Array Value} {below : List Frame} {meth : Method} {c : Code} {g : MG} (C : CC p s m args meth c yX12_through cX12_through 2 none) (K : mK g s) (G : mSep g)  (S : MS) {w : MS} (hv : fX12_through_130 S = some w) : MJ p l e s m args below meth c 2 1 g none w 130 [] [] S := by
  unfold fX12_through_130 at hv
  refine jr_goto (tgt := 193) C dX12_through_130 rfl ?_
  exact tX12_through_193 C K G  S hv
set_option maxRecDepth 100000 in
theorem tX12_through_118 {p : Program} {l : Launch} {e : Env} {s : State} {m : MethodId} {args : Array Value} {below : List Frame} {meth : Method} {c : Code} {g : MG} (C : CC p s m args meth c yX12_through cX12_through 2 none) (K : mK g s) (G : mSep g)  (S : MS) (v1 : Int32) {w : MS} (hv : fX12_through_118 S v1 = some w) : MJ p l e s m args below meth c 2 1 g none w 118 [(0, .ref (mo g)), (1, .int v1)] [] S := by
  unfold fX12_through_118 at hv
  refine jr_aload_n C dX12_through_118 rfl 0 rfl ?_
  refine jm_getA C K 29 (by decide) (by decide) kw_1464 rfl dX12_through_119 ?_
  refine jr_iload_n C dX12_through_122 rfl 1 rfl ?_
  refine jr_aload_n C dX12_through_123 rfl 0 rfl ?_
  refine jm_getA C K 33 (by decide) (by decide) kw_1468 rfl dX12_through_124 ?_
  refine jr_iload_n C dX12_through_127 rfl 1 rfl ?_
  by_cases z128 : inb v1 (mlA 33) = true
  case neg => exact op_none ((if_neg z128).symm.trans hv)
  have hv := (if_pos z128).symm.trans hv
  refine jm_iald C K z128 dX12_through_128 ?_
  by_cases z129 : inb v1 (mlA 29) = true
  case neg => exact op_none ((if_neg z129).symm.trans hv)
  have hv := (if_pos z129).symm.trans hv
  refine jm_iast C K G z129 dX12_through_129 ?_
  exact jr_sub [] rfl (tX12_through_130 C K G  (pA S 29 (ix v1) (gA S 33 (ix v1))) hv)
set_option maxRecDepth 100000 in
theorem tX12_through_143 {p : Program} {l : Launch} {e : Env} {s : State} {m : MethodId} {args : Array Value} {below : List Frame} {meth : Method} {c : Code} {g : MG} (C : CC p s m args meth c yX12_through cX12_through 2 none) (K : mK g s) (G : mSep g)  (S : MS) (v1 : Int32) {w : MS} (hv : fX12_through_143 S v1 = some w) : MJ p l e s m args below meth c 2 1 g none w 143 [(0, .ref (mo g)), (1, .int v1)] [] S := by
  unfold fX12_through_143 at hv
  refine jr_aload_n C dX12_through_143 rfl 0 rfl ?_
  refine jm_getA C K 34 (by decide) (by decide) kw_1469 rfl dX12_through_144 ?_
  refine jr_iload_n C dX12_through_147 rfl 1 rfl ?_
  by_cases z148 : inb v1 (mlA 34) = true
  case neg => exact op_none ((if_neg z148).symm.trans hv)
  have hv := (if_pos z148).symm.trans hv
  refine jm_iald C K z148 dX12_through_148 ?_
  refine jr_if_le (tgt := 193) C dX12_through_149 rfl (fun q149 => ?_) (fun q149 => ?_)
  · have hv := (if_pos q149).symm.trans hv
    exact jr_sub [] rfl (tX12_through_193 C K G  S hv)
  · have hv := (if_neg q149).symm.trans hv
    refine jr_aload_n C dX12_through_152 rfl 0 rfl ?_
    refine jr_aload_n C dX12_through_153 rfl 0 rfl ?_
    refine jm_getA C K 34 (by decide) (by decide) kw_1469 rfl dX12_through_154 ?_
    refine jr_iload_n C dX12_through_157 rfl 1 rfl ?_
    by_cases z158 : inb v1 (mlA 34) = true
    case neg => exact op_none ((if_neg z158).symm.trans hv)
    have hv := (if_pos z158).symm.trans hv
    refine jm_iald C K z158 dX12_through_158 ?_
    refine jr_aload_n C dX12_through_159 rfl 0 rfl ?_
    refine jm_getA C K 35 (by decide) (by decide) kw_1470 rfl dX12_through_160 ?_
    refine jr_iload_n C dX12_through_163 rfl 1 rfl ?_
    by_cases z164 : inb v1 (mlA 35) = true
    case neg => exact op_none ((if_neg z164).symm.trans hv)
    have hv := (if_pos z164).symm.trans hv
    refine jm_iald C K z164 dX12_through_164 ?_
    obtain ⟨c165, hc165, hv⟩ := Option.bind_eq_some_iff.mp hv
    refine jm_call (rest := []) C K G (pX12_goesOn l G S (gA S 34 (ix v1)) (gA S 35 (ix v1)) hc165) oX12_goesOn rfl kw_1181 rfl ⟨Nat.le_of_ble_eq_true rfl, Nat.le_of_ble_eq_true rfl⟩ rfl (Nat.le_of_ble_eq_true rfl) ⟨Nat.zero_le _, Nat.zero_le _⟩ dX12_through_165 ?_
    refine jr_goto (tgt := 193) C dX12_through_168 rfl ?_
    exact jr_sub [] rfl (tX12_through_193 C K G  c165 hv)
set_option maxRecDepth 100000 in
theorem tX12_through_0 {p : Program} {l : Launch} {e : Env} {s : State} {m : MethodId} {args : Array Value} {below : List Frame} {meth : Method} {c : Code} {g : MG} (C : CC p s m args meth c yX12_through cX12_through 2 none) (K : mK g s) (G : mSep g)  (S : MS) (v1 : Int32) {w : MS} (hv : fX12_through S v1 = some w) : MJ p l e s m args below meth c 2 1 g none w 0 [(0, .ref (mo g)), (1, .int v1)] [] S := by
  unfold fX12_through at hv
  refine jr_aload_n C dX12_through_0 rfl 0 rfl ?_
  refine jm_getA C K 28 (by decide) (by decide) kw_1463 rfl dX12_through_1 ?_
  refine jr_iload_n C dX12_through_4 rfl 1 rfl ?_
  by_cases z5 : inb v1 (mlA 28) = true
  case neg => exact op_none ((if_neg z5).symm.trans hv)
  have hv := (if_pos z5).symm.trans hv
  refine jm_iald C K z5 dX12_through_5 ?_
  by_cases q6_0 : (gA S 28 (ix v1)) = 1
  · have hv := (if_pos q6_0).symm.trans hv
    refine jr_tableIn (off := 30) (tgt := 36) C dX12_through_6 (by rw [q6_0]; decide) (by rw [q6_0]; decide) (by rw [q6_0]; rfl) rfl ?_
    refine jr_aload_n C dX12_through_36 rfl 0 rfl ?_
    refine jm_getA C K 36 (by decide) (by decide) kw_1471 rfl dX12_through_37 ?_
    refine jr_iload_n C dX12_through_40 rfl 1 rfl ?_
    refine jr_dup2_11 C dX12_through_41 rfl rfl ?_
    by_cases z42 : inb v1 (mlB 36) = true
    case neg => exact op_none ((if_neg z42).symm.trans hv)
    have hv := (if_pos z42).symm.trans hv
    refine jm_lald C K z42 dX12_through_42 ?_
    refine jr_lconst (v := 1) C dX12_through_43 (by decide) ?_
    refine jr_lsub C dX12_through_44 ?_
    by_cases z45 : inb v1 (mlB 36) = true
    case neg => exact op_none ((if_neg z45).symm.trans hv)
    have hv := (if_pos z45).symm.trans hv
    refine jm_last C K G z45 dX12_through_45 ?_
    exact tX12_through_46 C K G  (pB S 36 (ix v1) ((gB S 36 (ix v1)) - 1)) v1 hv
  have hv := (if_neg q6_0).symm.trans hv
  by_cases q6_1 : (gA S 28 (ix v1)) = 2
  · have hv := (if_pos q6_1).symm.trans hv
    refine jr_tableIn (off := 165) (tgt := 171) C dX12_through_6 (by rw [q6_1]; decide) (by rw [q6_1]; decide) (by rw [q6_1]; rfl) rfl ?_
    exact jr_sub [0] rfl (tX12_through_171 C K G  S hv)
  have hv := (if_neg q6_1).symm.trans hv
  by_cases q6_2 : (gA S 28 (ix v1)) = 3
  · have hv := (if_pos q6_2).symm.trans hv
    refine jr_tableIn (off := 105) (tgt := 111) C dX12_through_6 (by rw [q6_2]; decide) (by rw [q6_2]; decide) (by rw [q6_2]; rfl) rfl ?_
    refine jr_aload_n C dX12_through_111 rfl 0 rfl ?_
    refine jm_getA C K 28 (by decide) (by decide) kw_1463 rfl dX12_through_112 ?_
    refine jr_iload_n C dX12_through_115 rfl 1 rfl ?_
    refine jr_iconst (v := 4) C dX12_through_116 (by decide) ?_
    by_cases z117 : inb v1 (mlA 28) = true
    case neg => exact op_none ((if_neg z117).symm.trans hv)
    have hv := (if_pos z117).symm.trans hv
    refine jm_iast C K G z117 dX12_through_117 ?_
    exact tX12_through_118 C K G  (pA S 28 (ix v1) 4) v1 hv
  have hv := (if_neg q6_2).symm.trans hv
  by_cases q6_3 : (gA S 28 (ix v1)) = 4
  · have hv := (if_pos q6_3).symm.trans hv
    refine jr_tableIn (off := 127) (tgt := 133) C dX12_through_6 (by rw [q6_3]; decide) (by rw [q6_3]; decide) (by rw [q6_3]; rfl) rfl ?_
    refine jr_aload_n C dX12_through_133 rfl 0 rfl ?_
    refine jr_dup C dX12_through_134 rfl ?_
    refine jm_getI C K 37 (by decide) rfl kw_1472 rfl dX12_through_135 ?_
    refine jr_iconst (v := 1) C dX12_through_138 (by decide) ?_
    refine jr_isub C dX12_through_139 ?_
    refine jm_putI C K G 37 (by decide) rfl kw_1472 rfl rfl (by decide +kernel) dX12_through_140 ?_
    exact tX12_through_143 C K G  (pI S 37 ((gI S 37) - 1)) v1 hv
  have hv := (if_neg q6_3).symm.trans hv
  refine jr_tableOut (tgt := 171) C dX12_through_6 (by have := sw_ne (a := 1) q6_0 (by decide); have := sw_ne (a := 2) q6_1 (by decide); have := sw_ne (a := 3) q6_2 (by decide); have := sw_ne (a := 4) q6_3 (by decide); omega) rfl ?_
  exact jr_sub [0] rfl (tX12_through_171 C K G  S hv)
theorem pX12_through (l : Launch) {g : MG} (G : mSep g) (S : MS) (v1 : Int32) {S' : MS} (hw : fX12_through S v1 = some S') : mC l yX12_through cX12_through 2 none 1 g [.ref (mo g), .int v1] S none S' := mC_of (by decide +kernel) (Nat.le_of_ble_eq_true rfl) rfl (fun C K => tX12_through_0 C K G S v1 hw)
/-! RobotCellModel.hasRoom(J)Z -/
def fX12_hasRoom (S : MS) (v1 : Int64) : Option (Int32 × MS) :=
  if 4000 < (((gI S 10).toInt64) + v1) then some (0, S) else some (1, S)
theorem oX12_hasRoom : ok_v yX12_hasRoom cX12_hasRoom 3 (some .boolean) 1 := ⟨kw_1349, kw_1348, kw_56, kw_73, by decide +kernel⟩
set_option maxRecDepth 100000 in
theorem tX12_hasRoom_0 {p : Program} {l : Launch} {e : Env} {s : State} {m : MethodId} {args : Array Value} {below : List Frame} {meth : Method} {c : Code} {g : MG} (C : CC p s m args meth c yX12_hasRoom cX12_hasRoom 3 (some .boolean)) (K : mK g s) (G : mSep g)  (S : MS) (v1 : Int64) {w : Int32 × MS} (hv : fX12_hasRoom S v1 = some w) : MJ p l e s m args below meth c 3 0 g (some (.int w.1)) w.2 0 [(0, .ref (mo g)), (1, .long v1)] [] S := by
  unfold fX12_hasRoom at hv
  refine jr_aload_n C dX12_hasRoom_0 rfl 0 rfl ?_
  refine jm_getI C K 10 (by decide) rfl kw_1445 rfl dX12_hasRoom_1 ?_
  refine jr_i2l C dX12_hasRoom_4 ?_
  refine jr_lload_n C dX12_hasRoom_5 rfl 1 rfl ?_
  refine jr_ladd C dX12_hasRoom_6 ?_
  refine jr_ldc2 C kw_1350 dX12_hasRoom_7 ?_
  refine jr_lcmp_gt (tgt := 18) C dX12_hasRoom_10 dX12_hasRoom_11 rfl (fun q10 => ?_) (fun q10 => ?_)
  · have hv := (if_pos q10).symm.trans hv
    refine jr_iconst (v := 0) C dX12_hasRoom_18 (by decide) ?_
    exact jm_zret C K dX12_hasRoom_19 rfl (Option.some.inj hv)
  · have hv := (if_neg q10).symm.trans hv
    refine jr_iconst (v := 1) C dX12_hasRoom_14 (by decide) ?_
    refine jr_goto (tgt := 19) C dX12_hasRoom_15 rfl ?_
    exact jm_zret C K dX12_hasRoom_19 rfl (Option.some.inj hv)
theorem pX12_hasRoom (l : Launch) {g : MG} (G : mSep g) (S : MS) (v1 : Int64) {w : Int32} {S' : MS} (hw : fX12_hasRoom S v1 = some (w, S')) : mC l yX12_hasRoom cX12_hasRoom 3 (some .boolean) 0 g [.ref (mo g), .long v1] S (some (.int w)) S' := mC_of (by decide +kernel) (Nat.le_of_ble_eq_true rfl) rfl (fun C K => tX12_hasRoom_0 C K G S v1 hw)
/-! RobotCellModel.reckons(IIII)I -/
def fX12_reckons_292 (S : MS) : Option (Int32 × MS) :=
  some (0, S)
def fX12_reckons_103 (S : MS) : Option (Int32 × MS) :=
  fX12_reckons_292 S
def fX12_reckons_117 (S : MS) : Option (Int32 × MS) :=
  fX12_reckons_292 S
def fX12_reckons_131 (S : MS) : Option (Int32 × MS) :=
  fX12_reckons_292 S
def fX12_reckons_145 (S : MS) : Option (Int32 × MS) :=
  fX12_reckons_292 S
def fX12_reckons_182 (S : MS) : Option (Int32 × MS) :=
  fX12_reckons_292 S
def fX12_reckons_181 (S : MS) (t0 : Nat) (t1 : Int32) (t2 : Int64) : Option (Int32 × MS) :=
  if inb t1 (mlB t0) = true then fX12_reckons_182 (pB S t0 (ix t1) t2) else none
def fX12_reckons_148 (S : MS) (v1 : Int32) (v2 : Int32) (v5 : Int64) (v7 : Int64) : Option (Int32 × MS) :=
  if v7 = 0 then some (6, S) else (if v1 = 5 then (if v7 = 0 then none else fX12_reckons_181 S 3 v2 (v5 / v7)) else (if v7 = 0 then none else fX12_reckons_181 S 3 v2 (v5 - v5 / v7 * v7)))
def fX12_reckons_196 (S : MS) : Option (Int32 × MS) :=
  fX12_reckons_292 S
def fX12_reckons_210 (S : MS) : Option (Int32 × MS) :=
  fX12_reckons_292 S
def fX12_reckons_229 (S : MS) : Option (Int32 × MS) :=
  fX12_reckons_292 S
def fX12_reckons_248 (S : MS) : Option (Int32 × MS) :=
  fX12_reckons_292 S
def fX12_reckons_270 (S : MS) : Option (Int32 × MS) :=
  fX12_reckons_292 S
def fX12_reckons_269 (S : MS) (t0 : Nat) (t1 : Int32) (t2 : Int64) : Option (Int32 × MS) :=
  if inb t1 (mlB t0) = true then fX12_reckons_270 (pB S t0 (ix t1) t2) else none
def fX12_reckons_291 (S : MS) (t0 : Nat) (t1 : Int32) (t2 : Int64) : Option (Int32 × MS) :=
  if inb t1 (mlB t0) = true then fX12_reckons_292 (pB S t0 (ix t1) t2) else none
def fX12_reckons_23 (S : MS) (v1 : Int32) (v2 : Int32) (v3 : Int32) (v4 : Int32) (v5 : Int64) (v7 : Int64) : Option (Int32 × MS) :=
  if v1 = 1 then (if inb v2 (mlB 3) = true then fX12_reckons_103 (pB S 3 (ix v2) ((v3.toInt64 <<< ((32 : Int32).toInt64 &&& 63)) + (v4.toInt64 &&& 4294967295))) else none) else if v1 = 2 then (if inb v2 (mlB 3) = true then fX12_reckons_117 (pB S 3 (ix v2) (v5 + v7)) else none) else if v1 = 3 then (if inb v2 (mlB 3) = true then fX12_reckons_131 (pB S 3 (ix v2) (v5 - v7)) else none) else if v1 = 4 then (if inb v2 (mlB 3) = true then fX12_reckons_145 (pB S 3 (ix v2) (v5 * v7)) else none) else if v1 = 5 then fX12_reckons_148 S v1 v2 v5 v7 else if v1 = 6 then fX12_reckons_148 S v1 v2 v5 v7 else if v1 = 7 then (if inb v2 (mlB 3) = true then fX12_reckons_196 (pB S 3 (ix v2) (v5 &&& v7)) else none) else if v1 = 8 then (if inb v2 (mlB 3) = true then fX12_reckons_210 (pB S 3 (ix v2) (v5 ^^^ v7)) else none) else if v1 = 9 then (if inb v2 (mlB 3) = true then fX12_reckons_229 (pB S 3 (ix v2) (v5 <<< ((((v7 &&& 63).toInt32) : Int32).toInt64 &&& 63))) else none) else if v1 = 10 then (if inb v2 (mlB 3) = true then fX12_reckons_248 (pB S 3 (ix v2) (v5 >>> ((((v7 &&& 63).toInt32) : Int32).toInt64 &&& 63))) else none) else if v1 = 11 then (if v7 ≤ v5 then fX12_reckons_269 S 3 v2 0 else fX12_reckons_269 S 3 v2 1) else (if v5 = v7 then fX12_reckons_291 S 3 v2 1 else fX12_reckons_291 S 3 v2 0)
def fX12_reckons_11 (S : MS) (v1 : Int32) (v2 : Int32) (v3 : Int32) (v4 : Int32) (v5 : Int64) : Option (Int32 × MS) :=
  if inb (v4 &&& 15) (mlB 3) = true then fX12_reckons_23 S v1 v2 v3 v4 v5 (gB S 3 (ix (v4 &&& 15))) else none
def fX12_reckons (S : MS) (v1 : Int32) (v2 : Int32) (v3 : Int32) (v4 : Int32) : Option (Int32 × MS) :=
  if inb (v3 &&& 15) (mlB 3) = true then fX12_reckons_11 S v1 v2 v3 v4 (gB S 3 (ix (v3 &&& 15))) else none
theorem oX12_reckons : ok_v yX12_reckons cX12_reckons 9 (some .int) 4 := ⟨kw_1192, kw_1191, kw_47, kw_73, by decide +kernel⟩
set_option maxRecDepth 100000 in
theorem tX12_reckons_292 {p : Program} {l : Launch} {e : Env} {s : State} {m : MethodId} {args : Array Value} {below : List Frame} {meth : Method} {c : Code} {g : MG} (C : CC p s m args meth c yX12_reckons cX12_reckons 9 (some .int)) (K : mK g s) (G : mSep g)  (S : MS) {w : Int32 × MS} (hv : fX12_reckons_292 S = some w) : MJ p l e s m args below meth c 9 0 g (some (.int w.1)) w.2 292 [] [] S := by
  unfold fX12_reckons_292 at hv
  refine jr_iconst (v := 0) C dX12_reckons_292 (by decide) ?_
  exact jm_iret C K dX12_reckons_293 (Option.some.inj hv)
set_option maxRecDepth 100000 in
theorem tX12_reckons_103 {p : Program} {l : Launch} {e : Env} {s : State} {m : MethodId} {args : Array Value} {below : List Frame} {meth : Method} {c : Code} {g : MG} (C : CC p s m args meth c yX12_reckons cX12_reckons 9 (some .int)) (K : mK g s) (G : mSep g)  (S : MS) {w : Int32 × MS} (hv : fX12_reckons_103 S = some w) : MJ p l e s m args below meth c 9 0 g (some (.int w.1)) w.2 103 [] [] S := by
  unfold fX12_reckons_103 at hv
  refine jr_goto (tgt := 292) C dX12_reckons_103 rfl ?_
  exact tX12_reckons_292 C K G  S hv
set_option maxRecDepth 100000 in
theorem tX12_reckons_117 {p : Program} {l : Launch} {e : Env} {s : State} {m : MethodId} {args : Array Value} {below : List Frame} {meth : Method} {c : Code} {g : MG} (C : CC p s m args meth c yX12_reckons cX12_reckons 9 (some .int)) (K : mK g s) (G : mSep g)  (S : MS) {w : Int32 × MS} (hv : fX12_reckons_117 S = some w) : MJ p l e s m args below meth c 9 0 g (some (.int w.1)) w.2 117 [] [] S := by
  unfold fX12_reckons_117 at hv
  refine jr_goto (tgt := 292) C dX12_reckons_117 rfl ?_
  exact tX12_reckons_292 C K G  S hv
set_option maxRecDepth 100000 in
theorem tX12_reckons_131 {p : Program} {l : Launch} {e : Env} {s : State} {m : MethodId} {args : Array Value} {below : List Frame} {meth : Method} {c : Code} {g : MG} (C : CC p s m args meth c yX12_reckons cX12_reckons 9 (some .int)) (K : mK g s) (G : mSep g)  (S : MS) {w : Int32 × MS} (hv : fX12_reckons_131 S = some w) : MJ p l e s m args below meth c 9 0 g (some (.int w.1)) w.2 131 [] [] S := by
  unfold fX12_reckons_131 at hv
  refine jr_goto (tgt := 292) C dX12_reckons_131 rfl ?_
  exact tX12_reckons_292 C K G  S hv
set_option maxRecDepth 100000 in
theorem tX12_reckons_145 {p : Program} {l : Launch} {e : Env} {s : State} {m : MethodId} {args : Array Value} {below : List Frame} {meth : Method} {c : Code} {g : MG} (C : CC p s m args meth c yX12_reckons cX12_reckons 9 (some .int)) (K : mK g s) (G : mSep g)  (S : MS) {w : Int32 × MS} (hv : fX12_reckons_145 S = some w) : MJ p l e s m args below meth c 9 0 g (some (.int w.1)) w.2 145 [] [] S := by
  unfold fX12_reckons_145 at hv
  refine jr_goto (tgt := 292) C dX12_reckons_145 rfl ?_
  exact tX12_reckons_292 C K G  S hv
set_option maxRecDepth 100000 in
theorem tX12_reckons_182 {p : Program} {l : Launch} {e : Env} {s : State} {m : MethodId} {args : Array Value} {below : List Frame} {meth : Method} {c : Code} {g : MG} (C : CC p s m args meth c yX12_reckons cX12_reckons 9 (some .int)) (K : mK g s) (G : mSep g)  (S : MS) {w : Int32 × MS} (hv : fX12_reckons_182 S = some w) : MJ p l e s m args below meth c 9 0 g (some (.int w.1)) w.2 182 [] [] S := by
  unfold fX12_reckons_182 at hv
  refine jr_goto (tgt := 292) C dX12_reckons_182 rfl ?_
  exact tX12_reckons_292 C K G  S hv
set_option maxRecDepth 100000 in
theorem tX12_reckons_181 {p : Program} {l : Launch} {e : Env} {s : State} {m : MethodId} {args : Array Value} {below : List Frame} {meth : Method} {c : Code} {g : MG} (C : CC p s m args meth c yX12_reckons cX12_reckons 9 (some .int)) (K : mK g s) (G : mSep g)  (S : MS) (t0 : Nat) (t1 : Int32) (t2 : Int64) {w : Int32 × MS} (hv : fX12_reckons_181 S t0 t1 t2 = some w) : MJ p l e s m args below meth c 9 0 g (some (.int w.1)) w.2 181 [] [.long t2, .int t1, .ref (mad g t0)] S := by
  unfold fX12_reckons_181 at hv
  by_cases z181 : inb t1 (mlB t0) = true
  case neg => exact op_none ((if_neg z181).symm.trans hv)
  have hv := (if_pos z181).symm.trans hv
  refine jm_last C K G z181 dX12_reckons_181 ?_
  exact tX12_reckons_182 C K G  (pB S t0 (ix t1) t2) hv
set_option maxRecDepth 100000 in
theorem tX12_reckons_148 {p : Program} {l : Launch} {e : Env} {s : State} {m : MethodId} {args : Array Value} {below : List Frame} {meth : Method} {c : Code} {g : MG} (C : CC p s m args meth c yX12_reckons cX12_reckons 9 (some .int)) (K : mK g s) (G : mSep g)  (S : MS) (v1 : Int32) (v2 : Int32) (v5 : Int64) (v7 : Int64) {w : Int32 × MS} (hv : fX12_reckons_148 S v1 v2 v5 v7 = some w) : MJ p l e s m args below meth c 9 0 g (some (.int w.1)) w.2 148 [(0, .ref (mo g)), (1, .int v1), (2, .int v2), (5, .long v5), (7, .long v7)] [] S := by
  unfold fX12_reckons_148 at hv
  refine jr_lload C dX12_reckons_148 4 rfl ?_
  refine jr_lconst (v := 0) C dX12_reckons_150 (by decide) ?_
  refine jr_lcmp_ne (tgt := 158) C dX12_reckons_151 dX12_reckons_152 rfl (fun q151 => ?_) (fun q151 => ?_)
  · have hv := (if_neg q151).symm.trans hv
    refine jr_aload_n C dX12_reckons_158 rfl 0 rfl ?_
    refine jm_getA C K 3 (by decide) (by decide) kw_1438 rfl dX12_reckons_159 ?_
    refine jr_iload_n C dX12_reckons_162 rfl 2 rfl ?_
    refine jr_iload_n C dX12_reckons_163 rfl 1 rfl ?_
    refine jr_iconst (v := 5) C dX12_reckons_164 (by decide) ?_
    refine jr_icmp_ne (tgt := 176) C dX12_reckons_165 rfl (fun q165 => ?_) (fun q165 => ?_)
    · have hv := (if_neg q165).symm.trans hv
      refine jr_lload C dX12_reckons_176 3 rfl ?_
      refine jr_lload C dX12_reckons_178 4 rfl ?_
      by_cases z180 : v7 = 0
      case pos => exact op_none ((if_pos z180).symm.trans hv)
      have hv := (if_neg z180).symm.trans hv
      refine jr_lrem C dX12_reckons_180 z180 ?_
      exact jr_sub [] rfl (tX12_reckons_181 C K G  S 3 v2 (v5 - v5 / v7 * v7) hv)
    · have hv := (if_pos q165).symm.trans hv
      refine jr_lload C dX12_reckons_168 3 rfl ?_
      refine jr_lload C dX12_reckons_170 4 rfl ?_
      by_cases z172 : v7 = 0
      case pos => exact op_none ((if_pos z172).symm.trans hv)
      have hv := (if_neg z172).symm.trans hv
      refine jr_ldiv C dX12_reckons_172 z172 ?_
      refine jr_goto (tgt := 181) C dX12_reckons_173 rfl ?_
      exact jr_sub [] rfl (tX12_reckons_181 C K G  S 3 v2 (v5 / v7) hv)
  · have hv := (if_pos q151).symm.trans hv
    refine jr_bipush (v := 6) C dX12_reckons_155 (by decide) ?_
    exact jm_iret C K dX12_reckons_157 (Option.some.inj hv)
set_option maxRecDepth 100000 in
theorem tX12_reckons_196 {p : Program} {l : Launch} {e : Env} {s : State} {m : MethodId} {args : Array Value} {below : List Frame} {meth : Method} {c : Code} {g : MG} (C : CC p s m args meth c yX12_reckons cX12_reckons 9 (some .int)) (K : mK g s) (G : mSep g)  (S : MS) {w : Int32 × MS} (hv : fX12_reckons_196 S = some w) : MJ p l e s m args below meth c 9 0 g (some (.int w.1)) w.2 196 [] [] S := by
  unfold fX12_reckons_196 at hv
  refine jr_goto (tgt := 292) C dX12_reckons_196 rfl ?_
  exact tX12_reckons_292 C K G  S hv
set_option maxRecDepth 100000 in
theorem tX12_reckons_210 {p : Program} {l : Launch} {e : Env} {s : State} {m : MethodId} {args : Array Value} {below : List Frame} {meth : Method} {c : Code} {g : MG} (C : CC p s m args meth c yX12_reckons cX12_reckons 9 (some .int)) (K : mK g s) (G : mSep g)  (S : MS) {w : Int32 × MS} (hv : fX12_reckons_210 S = some w) : MJ p l e s m args below meth c 9 0 g (some (.int w.1)) w.2 210 [] [] S := by
  unfold fX12_reckons_210 at hv
  refine jr_goto (tgt := 292) C dX12_reckons_210 rfl ?_
  exact tX12_reckons_292 C K G  S hv
set_option maxRecDepth 100000 in
theorem tX12_reckons_229 {p : Program} {l : Launch} {e : Env} {s : State} {m : MethodId} {args : Array Value} {below : List Frame} {meth : Method} {c : Code} {g : MG} (C : CC p s m args meth c yX12_reckons cX12_reckons 9 (some .int)) (K : mK g s) (G : mSep g)  (S : MS) {w : Int32 × MS} (hv : fX12_reckons_229 S = some w) : MJ p l e s m args below meth c 9 0 g (some (.int w.1)) w.2 229 [] [] S := by
  unfold fX12_reckons_229 at hv
  refine jr_goto (tgt := 292) C dX12_reckons_229 rfl ?_
  exact tX12_reckons_292 C K G  S hv
set_option maxRecDepth 100000 in
theorem tX12_reckons_248 {p : Program} {l : Launch} {e : Env} {s : State} {m : MethodId} {args : Array Value} {below : List Frame} {meth : Method} {c : Code} {g : MG} (C : CC p s m args meth c yX12_reckons cX12_reckons 9 (some .int)) (K : mK g s) (G : mSep g)  (S : MS) {w : Int32 × MS} (hv : fX12_reckons_248 S = some w) : MJ p l e s m args below meth c 9 0 g (some (.int w.1)) w.2 248 [] [] S := by
  unfold fX12_reckons_248 at hv
  refine jr_goto (tgt := 292) C dX12_reckons_248 rfl ?_
  exact tX12_reckons_292 C K G  S hv
set_option maxRecDepth 100000 in
theorem tX12_reckons_270 {p : Program} {l : Launch} {e : Env} {s : State} {m : MethodId} {args : Array Value} {below : List Frame} {meth : Method} {c : Code} {g : MG} (C : CC p s m args meth c yX12_reckons cX12_reckons 9 (some .int)) (K : mK g s) (G : mSep g)  (S : MS) {w : Int32 × MS} (hv : fX12_reckons_270 S = some w) : MJ p l e s m args below meth c 9 0 g (some (.int w.1)) w.2 270 [] [] S := by
  unfold fX12_reckons_270 at hv
  refine jr_goto (tgt := 292) C dX12_reckons_270 rfl ?_
  exact tX12_reckons_292 C K G  S hv
set_option maxRecDepth 100000 in
theorem tX12_reckons_269 {p : Program} {l : Launch} {e : Env} {s : State} {m : MethodId} {args : Array Value} {below : List Frame} {meth : Method} {c : Code} {g : MG} (C : CC p s m args meth c yX12_reckons cX12_reckons 9 (some .int)) (K : mK g s) (G : mSep g)  (S : MS) (t0 : Nat) (t1 : Int32) (t2 : Int64) {w : Int32 × MS} (hv : fX12_reckons_269 S t0 t1 t2 = some w) : MJ p l e s m args below meth c 9 0 g (some (.int w.1)) w.2 269 [] [.long t2, .int t1, .ref (mad g t0)] S := by
  unfold fX12_reckons_269 at hv
  by_cases z269 : inb t1 (mlB t0) = true
  case neg => exact op_none ((if_neg z269).symm.trans hv)
  have hv := (if_pos z269).symm.trans hv
  refine jm_last C K G z269 dX12_reckons_269 ?_
  exact tX12_reckons_270 C K G  (pB S t0 (ix t1) t2) hv
set_option maxRecDepth 100000 in
theorem tX12_reckons_291 {p : Program} {l : Launch} {e : Env} {s : State} {m : MethodId} {args : Array Value} {below : List Frame} {meth : Method} {c : Code} {g : MG} (C : CC p s m args meth c yX12_reckons cX12_reckons 9 (some .int)) (K : mK g s) (G : mSep g)  (S : MS) (t0 : Nat) (t1 : Int32) (t2 : Int64) {w : Int32 × MS} (hv : fX12_reckons_291 S t0 t1 t2 = some w) : MJ p l e s m args below meth c 9 0 g (some (.int w.1)) w.2 291 [] [.long t2, .int t1, .ref (mad g t0)] S := by
  unfold fX12_reckons_291 at hv
  by_cases z291 : inb t1 (mlB t0) = true
  case neg => exact op_none ((if_neg z291).symm.trans hv)
  have hv := (if_pos z291).symm.trans hv
  refine jm_last C K G z291 dX12_reckons_291 ?_
  exact tX12_reckons_292 C K G  (pB S t0 (ix t1) t2) hv
set_option maxRecDepth 100000 in
theorem tX12_reckons_23 {p : Program} {l : Launch} {e : Env} {s : State} {m : MethodId} {args : Array Value} {below : List Frame} {meth : Method} {c : Code} {g : MG} (C : CC p s m args meth c yX12_reckons cX12_reckons 9 (some .int)) (K : mK g s) (G : mSep g)  (S : MS) (v1 : Int32) (v2 : Int32) (v3 : Int32) (v4 : Int32) (v5 : Int64) (v7 : Int64) {w : Int32 × MS} (hv : fX12_reckons_23 S v1 v2 v3 v4 v5 v7 = some w) : MJ p l e s m args below meth c 9 0 g (some (.int w.1)) w.2 23 [(0, .ref (mo g)), (1, .int v1), (2, .int v2), (3, .int v3), (4, .int v4), (5, .long v5), (7, .long v7)] [] S := by
  unfold fX12_reckons_23 at hv
  refine jr_iload_n C dX12_reckons_23 rfl 1 rfl ?_
  by_cases q24_0 : v1 = 1
  · have hv := (if_pos q24_0).symm.trans hv
    refine jr_tableIn (off := 60) (tgt := 84) C dX12_reckons_24 (by rw [q24_0]; decide) (by rw [q24_0]; decide) (by rw [q24_0]; rfl) rfl ?_
    refine jr_aload_n C dX12_reckons_84 rfl 0 rfl ?_
    refine jm_getA C K 3 (by decide) (by decide) kw_1438 rfl dX12_reckons_85 ?_
    refine jr_iload_n C dX12_reckons_88 rfl 2 rfl ?_
    refine jr_iload_n C dX12_reckons_89 rfl 3 rfl ?_
    refine jr_i2l C dX12_reckons_90 ?_
    refine jr_bipush (v := 32) C dX12_reckons_91 (by decide) ?_
    refine jr_lshl C dX12_reckons_93 ?_
    refine jr_iload C dX12_reckons_94 4 rfl ?_
    refine jr_i2l C dX12_reckons_96 ?_
    refine jr_ldc2 C kw_1193 dX12_reckons_97 ?_
    refine jr_land C dX12_reckons_100 ?_
    refine jr_ladd C dX12_reckons_101 ?_
    by_cases z102 : inb v2 (mlB 3) = true
    case neg => exact op_none ((if_neg z102).symm.trans hv)
    have hv := (if_pos z102).symm.trans hv
    refine jm_last C K G z102 dX12_reckons_102 ?_
    exact jr_sub [] rfl (tX12_reckons_103 C K G  (pB S 3 (ix v2) ((v3.toInt64 <<< ((32 : Int32).toInt64 &&& 63)) + (v4.toInt64 &&& 4294967295))) hv)
  have hv := (if_neg q24_0).symm.trans hv
  by_cases q24_1 : v1 = 2
  · have hv := (if_pos q24_1).symm.trans hv
    refine jr_tableIn (off := 82) (tgt := 106) C dX12_reckons_24 (by rw [q24_1]; decide) (by rw [q24_1]; decide) (by rw [q24_1]; rfl) rfl ?_
    refine jr_aload_n C dX12_reckons_106 rfl 0 rfl ?_
    refine jm_getA C K 3 (by decide) (by decide) kw_1438 rfl dX12_reckons_107 ?_
    refine jr_iload_n C dX12_reckons_110 rfl 2 rfl ?_
    refine jr_lload C dX12_reckons_111 5 rfl ?_
    refine jr_lload C dX12_reckons_113 6 rfl ?_
    refine jr_ladd C dX12_reckons_115 ?_
    by_cases z116 : inb v2 (mlB 3) = true
    case neg => exact op_none ((if_neg z116).symm.trans hv)
    have hv := (if_pos z116).symm.trans hv
    refine jm_last C K G z116 dX12_reckons_116 ?_
    exact jr_sub [] rfl (tX12_reckons_117 C K G  (pB S 3 (ix v2) (v5 + v7)) hv)
  have hv := (if_neg q24_1).symm.trans hv
  by_cases q24_2 : v1 = 3
  · have hv := (if_pos q24_2).symm.trans hv
    refine jr_tableIn (off := 96) (tgt := 120) C dX12_reckons_24 (by rw [q24_2]; decide) (by rw [q24_2]; decide) (by rw [q24_2]; rfl) rfl ?_
    refine jr_aload_n C dX12_reckons_120 rfl 0 rfl ?_
    refine jm_getA C K 3 (by decide) (by decide) kw_1438 rfl dX12_reckons_121 ?_
    refine jr_iload_n C dX12_reckons_124 rfl 2 rfl ?_
    refine jr_lload C dX12_reckons_125 5 rfl ?_
    refine jr_lload C dX12_reckons_127 6 rfl ?_
    refine jr_lsub C dX12_reckons_129 ?_
    by_cases z130 : inb v2 (mlB 3) = true
    case neg => exact op_none ((if_neg z130).symm.trans hv)
    have hv := (if_pos z130).symm.trans hv
    refine jm_last C K G z130 dX12_reckons_130 ?_
    exact jr_sub [] rfl (tX12_reckons_131 C K G  (pB S 3 (ix v2) (v5 - v7)) hv)
  have hv := (if_neg q24_2).symm.trans hv
  by_cases q24_3 : v1 = 4
  · have hv := (if_pos q24_3).symm.trans hv
    refine jr_tableIn (off := 110) (tgt := 134) C dX12_reckons_24 (by rw [q24_3]; decide) (by rw [q24_3]; decide) (by rw [q24_3]; rfl) rfl ?_
    refine jr_aload_n C dX12_reckons_134 rfl 0 rfl ?_
    refine jm_getA C K 3 (by decide) (by decide) kw_1438 rfl dX12_reckons_135 ?_
    refine jr_iload_n C dX12_reckons_138 rfl 2 rfl ?_
    refine jr_lload C dX12_reckons_139 5 rfl ?_
    refine jr_lload C dX12_reckons_141 6 rfl ?_
    refine jr_lmul C dX12_reckons_143 ?_
    by_cases z144 : inb v2 (mlB 3) = true
    case neg => exact op_none ((if_neg z144).symm.trans hv)
    have hv := (if_pos z144).symm.trans hv
    refine jm_last C K G z144 dX12_reckons_144 ?_
    exact jr_sub [] rfl (tX12_reckons_145 C K G  (pB S 3 (ix v2) (v5 * v7)) hv)
  have hv := (if_neg q24_3).symm.trans hv
  by_cases q24_4 : v1 = 5
  · have hv := (if_pos q24_4).symm.trans hv
    refine jr_tableIn (off := 124) (tgt := 148) C dX12_reckons_24 (by rw [q24_4]; decide) (by rw [q24_4]; decide) (by rw [q24_4]; rfl) rfl ?_
    exact jr_sub [0, 1, 2, 5, 6] rfl (tX12_reckons_148 C K G  S v1 v2 v5 v7 hv)
  have hv := (if_neg q24_4).symm.trans hv
  by_cases q24_5 : v1 = 6
  · have hv := (if_pos q24_5).symm.trans hv
    refine jr_tableIn (off := 124) (tgt := 148) C dX12_reckons_24 (by rw [q24_5]; decide) (by rw [q24_5]; decide) (by rw [q24_5]; rfl) rfl ?_
    exact jr_sub [0, 1, 2, 5, 6] rfl (tX12_reckons_148 C K G  S v1 v2 v5 v7 hv)
  have hv := (if_neg q24_5).symm.trans hv
  by_cases q24_6 : v1 = 7
  · have hv := (if_pos q24_6).symm.trans hv
    refine jr_tableIn (off := 161) (tgt := 185) C dX12_reckons_24 (by rw [q24_6]; decide) (by rw [q24_6]; decide) (by rw [q24_6]; rfl) rfl ?_
    refine jr_aload_n C dX12_reckons_185 rfl 0 rfl ?_
    refine jm_getA C K 3 (by decide) (by decide) kw_1438 rfl dX12_reckons_186 ?_
    refine jr_iload_n C dX12_reckons_189 rfl 2 rfl ?_
    refine jr_lload C dX12_reckons_190 5 rfl ?_
    refine jr_lload C dX12_reckons_192 6 rfl ?_
    refine jr_land C dX12_reckons_194 ?_
    by_cases z195 : inb v2 (mlB 3) = true
    case neg => exact op_none ((if_neg z195).symm.trans hv)
    have hv := (if_pos z195).symm.trans hv
    refine jm_last C K G z195 dX12_reckons_195 ?_
    exact jr_sub [] rfl (tX12_reckons_196 C K G  (pB S 3 (ix v2) (v5 &&& v7)) hv)
  have hv := (if_neg q24_6).symm.trans hv
  by_cases q24_7 : v1 = 8
  · have hv := (if_pos q24_7).symm.trans hv
    refine jr_tableIn (off := 175) (tgt := 199) C dX12_reckons_24 (by rw [q24_7]; decide) (by rw [q24_7]; decide) (by rw [q24_7]; rfl) rfl ?_
    refine jr_aload_n C dX12_reckons_199 rfl 0 rfl ?_
    refine jm_getA C K 3 (by decide) (by decide) kw_1438 rfl dX12_reckons_200 ?_
    refine jr_iload_n C dX12_reckons_203 rfl 2 rfl ?_
    refine jr_lload C dX12_reckons_204 5 rfl ?_
    refine jr_lload C dX12_reckons_206 6 rfl ?_
    refine jr_lxor C dX12_reckons_208 ?_
    by_cases z209 : inb v2 (mlB 3) = true
    case neg => exact op_none ((if_neg z209).symm.trans hv)
    have hv := (if_pos z209).symm.trans hv
    refine jm_last C K G z209 dX12_reckons_209 ?_
    exact jr_sub [] rfl (tX12_reckons_210 C K G  (pB S 3 (ix v2) (v5 ^^^ v7)) hv)
  have hv := (if_neg q24_7).symm.trans hv
  by_cases q24_8 : v1 = 9
  · have hv := (if_pos q24_8).symm.trans hv
    refine jr_tableIn (off := 189) (tgt := 213) C dX12_reckons_24 (by rw [q24_8]; decide) (by rw [q24_8]; decide) (by rw [q24_8]; rfl) rfl ?_
    refine jr_aload_n C dX12_reckons_213 rfl 0 rfl ?_
    refine jm_getA C K 3 (by decide) (by decide) kw_1438 rfl dX12_reckons_214 ?_
    refine jr_iload_n C dX12_reckons_217 rfl 2 rfl ?_
    refine jr_lload C dX12_reckons_218 5 rfl ?_
    refine jr_lload C dX12_reckons_220 6 rfl ?_
    refine jr_ldc2 C kw_1194 dX12_reckons_222 ?_
    refine jr_land C dX12_reckons_225 ?_
    refine jr_l2i C dX12_reckons_226 ?_
    refine jr_lshl C dX12_reckons_227 ?_
    by_cases z228 : inb v2 (mlB 3) = true
    case neg => exact op_none ((if_neg z228).symm.trans hv)
    have hv := (if_pos z228).symm.trans hv
    refine jm_last C K G z228 dX12_reckons_228 ?_
    exact jr_sub [] rfl (tX12_reckons_229 C K G  (pB S 3 (ix v2) (v5 <<< ((((v7 &&& 63).toInt32) : Int32).toInt64 &&& 63))) hv)
  have hv := (if_neg q24_8).symm.trans hv
  by_cases q24_9 : v1 = 10
  · have hv := (if_pos q24_9).symm.trans hv
    refine jr_tableIn (off := 208) (tgt := 232) C dX12_reckons_24 (by rw [q24_9]; decide) (by rw [q24_9]; decide) (by rw [q24_9]; rfl) rfl ?_
    refine jr_aload_n C dX12_reckons_232 rfl 0 rfl ?_
    refine jm_getA C K 3 (by decide) (by decide) kw_1438 rfl dX12_reckons_233 ?_
    refine jr_iload_n C dX12_reckons_236 rfl 2 rfl ?_
    refine jr_lload C dX12_reckons_237 5 rfl ?_
    refine jr_lload C dX12_reckons_239 6 rfl ?_
    refine jr_ldc2 C kw_1194 dX12_reckons_241 ?_
    refine jr_land C dX12_reckons_244 ?_
    refine jr_l2i C dX12_reckons_245 ?_
    refine jr_lshr C dX12_reckons_246 ?_
    by_cases z247 : inb v2 (mlB 3) = true
    case neg => exact op_none ((if_neg z247).symm.trans hv)
    have hv := (if_pos z247).symm.trans hv
    refine jm_last C K G z247 dX12_reckons_247 ?_
    exact jr_sub [] rfl (tX12_reckons_248 C K G  (pB S 3 (ix v2) (v5 >>> ((((v7 &&& 63).toInt32) : Int32).toInt64 &&& 63))) hv)
  have hv := (if_neg q24_9).symm.trans hv
  by_cases q24_10 : v1 = 11
  · have hv := (if_pos q24_10).symm.trans hv
    refine jr_tableIn (off := 227) (tgt := 251) C dX12_reckons_24 (by rw [q24_10]; decide) (by rw [q24_10]; decide) (by rw [q24_10]; rfl) rfl ?_
    refine jr_aload_n C dX12_reckons_251 rfl 0 rfl ?_
    refine jm_getA C K 3 (by decide) (by decide) kw_1438 rfl dX12_reckons_252 ?_
    refine jr_iload_n C dX12_reckons_255 rfl 2 rfl ?_
    refine jr_lload C dX12_reckons_256 5 rfl ?_
    refine jr_lload C dX12_reckons_258 6 rfl ?_
    refine jr_lcmp_ge (tgt := 268) C dX12_reckons_260 dX12_reckons_261 rfl (fun q260 => ?_) (fun q260 => ?_)
    · have hv := (if_pos q260).symm.trans hv
      refine jr_lconst (v := 0) C dX12_reckons_268 (by decide) ?_
      exact jr_sub [] rfl (tX12_reckons_269 C K G  S 3 v2 0 hv)
    · have hv := (if_neg q260).symm.trans hv
      refine jr_lconst (v := 1) C dX12_reckons_264 (by decide) ?_
      refine jr_goto (tgt := 269) C dX12_reckons_265 rfl ?_
      exact jr_sub [] rfl (tX12_reckons_269 C K G  S 3 v2 1 hv)
  have hv := (if_neg q24_10).symm.trans hv
  refine jr_tableOut (tgt := 273) C dX12_reckons_24 (by have := sw_ne (a := 1) q24_0 (by decide); have := sw_ne (a := 2) q24_1 (by decide); have := sw_ne (a := 3) q24_2 (by decide); have := sw_ne (a := 4) q24_3 (by decide); have := sw_ne (a := 5) q24_4 (by decide); have := sw_ne (a := 6) q24_5 (by decide); have := sw_ne (a := 7) q24_6 (by decide); have := sw_ne (a := 8) q24_7 (by decide); have := sw_ne (a := 9) q24_8 (by decide); have := sw_ne (a := 10) q24_9 (by decide); have := sw_ne (a := 11) q24_10 (by decide); omega) rfl ?_
  refine jr_aload_n C dX12_reckons_273 rfl 0 rfl ?_
  refine jm_getA C K 3 (by decide) (by decide) kw_1438 rfl dX12_reckons_274 ?_
  refine jr_iload_n C dX12_reckons_277 rfl 2 rfl ?_
  refine jr_lload C dX12_reckons_278 5 rfl ?_
  refine jr_lload C dX12_reckons_280 6 rfl ?_
  refine jr_lcmp_ne (tgt := 290) C dX12_reckons_282 dX12_reckons_283 rfl (fun q282 => ?_) (fun q282 => ?_)
  · have hv := (if_neg q282).symm.trans hv
    refine jr_lconst (v := 0) C dX12_reckons_290 (by decide) ?_
    exact jr_sub [] rfl (tX12_reckons_291 C K G  S 3 v2 0 hv)
  · have hv := (if_pos q282).symm.trans hv
    refine jr_lconst (v := 1) C dX12_reckons_286 (by decide) ?_
    refine jr_goto (tgt := 291) C dX12_reckons_287 rfl ?_
    exact jr_sub [] rfl (tX12_reckons_291 C K G  S 3 v2 1 hv)
set_option maxRecDepth 100000 in
theorem tX12_reckons_11 {p : Program} {l : Launch} {e : Env} {s : State} {m : MethodId} {args : Array Value} {below : List Frame} {meth : Method} {c : Code} {g : MG} (C : CC p s m args meth c yX12_reckons cX12_reckons 9 (some .int)) (K : mK g s) (G : mSep g)  (S : MS) (v1 : Int32) (v2 : Int32) (v3 : Int32) (v4 : Int32) (v5 : Int64) {w : Int32 × MS} (hv : fX12_reckons_11 S v1 v2 v3 v4 v5 = some w) : MJ p l e s m args below meth c 9 0 g (some (.int w.1)) w.2 11 [(0, .ref (mo g)), (1, .int v1), (2, .int v2), (3, .int v3), (4, .int v4), (5, .long v5)] [] S := by
  unfold fX12_reckons_11 at hv
  refine jr_aload_n C dX12_reckons_11 rfl 0 rfl ?_
  refine jm_getA C K 3 (by decide) (by decide) kw_1438 rfl dX12_reckons_12 ?_
  refine jr_iload C dX12_reckons_15 4 rfl ?_
  refine jr_bipush (v := 15) C dX12_reckons_17 (by decide) ?_
  refine jr_iand C dX12_reckons_19 ?_
  by_cases z20 : inb (v4 &&& 15) (mlB 3) = true
  case neg => exact op_none ((if_neg z20).symm.trans hv)
  have hv := (if_pos z20).symm.trans hv
  refine jm_lald C K z20 dX12_reckons_20 ?_
  refine jr_lstore (lv' := [(7, .long (gB S 3 (ix (v4 &&& 15)))), (0, .ref (mo g)), (1, .int v1), (2, .int v2), (3, .int v3), (4, .int v4), (5, .long v5)]) C dX12_reckons_21 (by decide) rfl ?_
  exact jr_sub [1, 2, 3, 4, 5, 6, 0] rfl (tX12_reckons_23 C K G  S v1 v2 v3 v4 v5 (gB S 3 (ix (v4 &&& 15))) hv)
set_option maxRecDepth 100000 in
theorem tX12_reckons_0 {p : Program} {l : Launch} {e : Env} {s : State} {m : MethodId} {args : Array Value} {below : List Frame} {meth : Method} {c : Code} {g : MG} (C : CC p s m args meth c yX12_reckons cX12_reckons 9 (some .int)) (K : mK g s) (G : mSep g)  (S : MS) (v1 : Int32) (v2 : Int32) (v3 : Int32) (v4 : Int32) {w : Int32 × MS} (hv : fX12_reckons S v1 v2 v3 v4 = some w) : MJ p l e s m args below meth c 9 0 g (some (.int w.1)) w.2 0 [(0, .ref (mo g)), (1, .int v1), (2, .int v2), (3, .int v3), (4, .int v4)] [] S := by
  unfold fX12_reckons at hv
  refine jr_aload_n C dX12_reckons_0 rfl 0 rfl ?_
  refine jm_getA C K 3 (by decide) (by decide) kw_1438 rfl dX12_reckons_1 ?_
  refine jr_iload_n C dX12_reckons_4 rfl 3 rfl ?_
  refine jr_bipush (v := 15) C dX12_reckons_5 (by decide) ?_
  refine jr_iand C dX12_reckons_7 ?_
  by_cases z8 : inb (v3 &&& 15) (mlB 3) = true
  case neg => exact op_none ((if_neg z8).symm.trans hv)
  have hv := (if_pos z8).symm.trans hv
  refine jm_lald C K z8 dX12_reckons_8 ?_
  refine jr_lstore (lv' := [(5, .long (gB S 3 (ix (v3 &&& 15)))), (0, .ref (mo g)), (1, .int v1), (2, .int v2), (3, .int v3), (4, .int v4)]) C dX12_reckons_9 (by decide) rfl ?_
  exact jr_sub [1, 2, 3, 4, 5, 0] rfl (tX12_reckons_11 C K G  S v1 v2 v3 v4 (gB S 3 (ix (v3 &&& 15))) hv)
theorem pX12_reckons (l : Launch) {g : MG} (G : mSep g) (S : MS) (v1 : Int32) (v2 : Int32) (v3 : Int32) (v4 : Int32) {w : Int32} {S' : MS} (hw : fX12_reckons S v1 v2 v3 v4 = some (w, S')) : mC l yX12_reckons cX12_reckons 9 (some .int) 0 g [.ref (mo g), .int v1, .int v2, .int v3, .int v4] S (some (.int w)) S' := mC_of (by decide +kernel) (Nat.le_of_ble_eq_true rfl) rfl (fun C K => tX12_reckons_0 C K G S v1 v2 v3 v4 hw)
/-! RobotCellModel.controls(IIIII)I -/
def fX12_controls_344 (S : MS) : Option (Int32 × MS) :=
  some (0, S)
def fX12_controls_212 (S : MS) : Option (Int32 × MS) :=
  fX12_controls_344 S
def fX12_controls_199 (S : MS) (v4 : Int32) : Option (Int32 × MS) :=
  if inb ((gI S 37) - 1) (mlA 33) = true then fX12_controls_212 (pA S 33 (ix ((gI S 37) - 1)) v4) else none
def fX12_controls_186 (S : MS) (v4 : Int32) : Option (Int32 × MS) :=
  if inb ((gI S 37) - 1) (mlA 32) = true then fX12_controls_199 (pA S 32 (ix ((gI S 37) - 1)) v4) v4 else none
def fX12_controls_170 (S : MS) (v2 : Int32) (v3 : Int32) (v4 : Int32) (t1 : Int32) : Option (Int32 × MS) :=
  Option.bind (fX12_opens S t1 v3) (fun c171 => if inb ((gI c171 37) - 1) (mlA 31) = true then fX12_controls_186 (pA c171 31 (ix ((gI c171 37) - 1)) v2) v4 else none)
def fX12_controls_143 (S : MS) (v1 : Int32) (v2 : Int32) (v3 : Int32) (v4 : Int32) : Option (Int32 × MS) :=
  if (gI S 37) = 40 then some (9, S) else (if v1 = 14 then fX12_controls_170 S v2 v3 v4 0 else fX12_controls_170 S v2 v3 v4 (v1 - 14))
def fX12_controls_334 (S : MS) : Option (Int32 × MS) :=
  fX12_controls_344 (pI S 27 ((gI S 27) + 1))
def fX12_controls_311 (S : MS) (t0 : Int64) : Option (Int32 × MS) :=
  if 200 ≤ (gI S 27) then fX12_controls_334 S else (if inb (gI S 27) (mlB 26) = true then fX12_controls_334 (pB S 26 (ix (gI S 27)) t0) else none)
def fX12_controls_255 (S : MS) : Option (Int32 × MS) :=
  some (2, S)
def fX12_controls_122 (S : MS) : Option (Int32 × MS) :=
  fX12_controls_344 S
def fX12_controls_87 (S : MS) (v2 : Int32) (v3 : Int32) : Option (Int32 × MS) :=
  if (gI S 37) = 40 then some (9, S) else (Option.bind (fX12_opens S 1 v3) (fun c102 => if inb v2 (mlB 3) = true then (if inb ((gI c102 37) - 1) (mlB 36) = true then fX12_controls_122 (pB c102 36 (ix ((gI c102 37) - 1)) (gB c102 3 (ix v2))) else none) else none))
def fX12_controls_75 (S : MS) : Option (Int32 × MS) :=
  some (0, S)
def fX12_controls_40 (S : MS) : Option (Int32 × MS) :=
  fX12_controls_344 S
def fX12_controls_8 (S : MS) (v1 : Int32) (v2 : Int32) (v3 : Int32) (v4 : Int32) (v6 : Int32) : Option (Int32 × MS) :=
  if v1 = 13 then (if inb v2 (mlB 3) = true then (if (gB S 3 (ix v2)) = 0 then fX12_controls_344 S else (if inb v6 (mlA 29) = true then (if inb v6 (mlA 29) = true then fX12_controls_40 (pA S 29 (ix v6) ((gA S 29 (ix v6)) + (v3 &&& 255))) else none) else none)) else none) else (if v1 = 15 then (if inb v2 (mlB 3) = true then (if 0 < (gB S 3 (ix v2)) then (if (gI S 38) = 0 then fX12_controls_75 (pI S 41 10) else fX12_controls_87 (pI S 38 ((gI S 38) - 1)) v2 v3) else some (0, S)) else none) else (if v1 = 14 then fX12_controls_143 S v1 v2 v3 v4 else (if v1 = 16 then fX12_controls_143 S v1 v2 v3 v4 else (if v1 = 17 then fX12_controls_143 S v1 v2 v3 v4 else (if v1 = 18 then (if inb v2 (mlB 3) = true then (if (gB S 3 (ix v2)) < 1 then fX12_controls_255 S else (if inb v2 (mlB 3) = true then (if 9 < (gB S 3 (ix v2)) then fX12_controls_255 S else (if inb v2 (mlB 3) = true then some ((gB S 3 (ix v2)).toInt32, S) else none)) else none)) else none) else (if v1 = 19 then (if (gI S 43) = 0 then some (1, S) else (Option.bind (fX12_goesOn S (gI S 43) (gI S 44)) (fun c281 => fX12_controls_344 c281))) else (if v1 = 20 then (if inb v2 (mlB 3) = true then fX12_controls_311 S (gB S 3 (ix v2)) else none) else (if inb v2 (mlB 4) = true then fX12_controls_311 S (fX12_one (gB S 4 (ix v2))) else none))))))))
def fX12_controls (S : MS) (v1 : Int32) (v2 : Int32) (v3 : Int32) (v4 : Int32) (v5 : Int32) : Option (Int32 × MS) :=
  fX12_controls_8 S v1 v2 v3 v4 ((gI S 37) - 1)
theorem oX12_controls : ok_v yX12_controls cX12_controls 9 (some .int) 5 := ⟨kw_1198, kw_1197, kw_48, kw_73, by decide +kernel⟩
set_option maxRecDepth 100000 in
theorem tX12_controls_344 {p : Program} {l : Launch} {e : Env} {s : State} {m : MethodId} {args : Array Value} {below : List Frame} {meth : Method} {c : Code} {g : MG} (C : CC p s m args meth c yX12_controls cX12_controls 9 (some .int)) (K : mK g s) (G : mSep g)  (S : MS) {w : Int32 × MS} (hv : fX12_controls_344 S = some w) : MJ p l e s m args below meth c 9 2 g (some (.int w.1)) w.2 344 [] [] S := by
  unfold fX12_controls_344 at hv
  refine jr_iconst (v := 0) C dX12_controls_344 (by decide) ?_
  exact jm_iret C K dX12_controls_345 (Option.some.inj hv)
set_option maxRecDepth 100000 in
theorem tX12_controls_212 {p : Program} {l : Launch} {e : Env} {s : State} {m : MethodId} {args : Array Value} {below : List Frame} {meth : Method} {c : Code} {g : MG} (C : CC p s m args meth c yX12_controls cX12_controls 9 (some .int)) (K : mK g s) (G : mSep g)  (S : MS) {w : Int32 × MS} (hv : fX12_controls_212 S = some w) : MJ p l e s m args below meth c 9 2 g (some (.int w.1)) w.2 212 [] [] S := by
  unfold fX12_controls_212 at hv
  refine jr_goto (tgt := 344) C dX12_controls_212 rfl ?_
  exact tX12_controls_344 C K G  S hv
set_option maxRecDepth 100000 in
theorem tX12_controls_199 {p : Program} {l : Launch} {e : Env} {s : State} {m : MethodId} {args : Array Value} {below : List Frame} {meth : Method} {c : Code} {g : MG} (C : CC p s m args meth c yX12_controls cX12_controls 9 (some .int)) (K : mK g s) (G : mSep g)  (S : MS) (v4 : Int32) {w : Int32 × MS} (hv : fX12_controls_199 S v4 = some w) : MJ p l e s m args below meth c 9 2 g (some (.int w.1)) w.2 199 [(0, .ref (mo g)), (4, .int v4)] [] S := by
  unfold fX12_controls_199 at hv
  refine jr_aload_n C dX12_controls_199 rfl 0 rfl ?_
  refine jm_getA C K 33 (by decide) (by decide) kw_1468 rfl dX12_controls_200 ?_
  refine jr_aload_n C dX12_controls_203 rfl 0 rfl ?_
  refine jm_getI C K 37 (by decide) rfl kw_1472 rfl dX12_controls_204 ?_
  refine jr_iconst (v := 1) C dX12_controls_207 (by decide) ?_
  refine jr_isub C dX12_controls_208 ?_
  refine jr_iload C dX12_controls_209 1 rfl ?_
  by_cases z211 : inb ((gI S 37) - 1) (mlA 33) = true
  case neg => exact op_none ((if_neg z211).symm.trans hv)
  have hv := (if_pos z211).symm.trans hv
  refine jm_iast C K G z211 dX12_controls_211 ?_
  exact jr_sub [] rfl (tX12_controls_212 C K G  (pA S 33 (ix ((gI S 37) - 1)) v4) hv)
set_option maxRecDepth 100000 in
theorem tX12_controls_186 {p : Program} {l : Launch} {e : Env} {s : State} {m : MethodId} {args : Array Value} {below : List Frame} {meth : Method} {c : Code} {g : MG} (C : CC p s m args meth c yX12_controls cX12_controls 9 (some .int)) (K : mK g s) (G : mSep g)  (S : MS) (v4 : Int32) {w : Int32 × MS} (hv : fX12_controls_186 S v4 = some w) : MJ p l e s m args below meth c 9 2 g (some (.int w.1)) w.2 186 [(0, .ref (mo g)), (4, .int v4)] [] S := by
  unfold fX12_controls_186 at hv
  refine jr_aload_n C dX12_controls_186 rfl 0 rfl ?_
  refine jm_getA C K 32 (by decide) (by decide) kw_1467 rfl dX12_controls_187 ?_
  refine jr_aload_n C dX12_controls_190 rfl 0 rfl ?_
  refine jm_getI C K 37 (by decide) rfl kw_1472 rfl dX12_controls_191 ?_
  refine jr_iconst (v := 1) C dX12_controls_194 (by decide) ?_
  refine jr_isub C dX12_controls_195 ?_
  refine jr_iload C dX12_controls_196 1 rfl ?_
  by_cases z198 : inb ((gI S 37) - 1) (mlA 32) = true
  case neg => exact op_none ((if_neg z198).symm.trans hv)
  have hv := (if_pos z198).symm.trans hv
  refine jm_iast C K G z198 dX12_controls_198 ?_
  exact tX12_controls_199 C K G  (pA S 32 (ix ((gI S 37) - 1)) v4) v4 hv
set_option maxRecDepth 100000 in
theorem tX12_controls_170 {p : Program} {l : Launch} {e : Env} {s : State} {m : MethodId} {args : Array Value} {below : List Frame} {meth : Method} {c : Code} {g : MG} (C : CC p s m args meth c yX12_controls cX12_controls 9 (some .int)) (K : mK g s) (G : mSep g)  (S : MS) (v2 : Int32) (v3 : Int32) (v4 : Int32) (t1 : Int32) {w : Int32 × MS} (hv : fX12_controls_170 S v2 v3 v4 t1 = some w) : MJ p l e s m args below meth c 9 2 g (some (.int w.1)) w.2 170 [(0, .ref (mo g)), (2, .int v2), (3, .int v3), (4, .int v4)] [.int t1, .ref (mo g)] S := by
  unfold fX12_controls_170 at hv
  refine jr_iload_n C dX12_controls_170 rfl 2 rfl ?_
  obtain ⟨c171, hc171, hv⟩ := Option.bind_eq_some_iff.mp hv
  refine jm_call (rest := []) C K G (pX12_opens l G S t1 v3 hc171) oX12_opens rfl kw_1168 rfl ⟨Nat.le_of_ble_eq_true rfl, Nat.le_of_ble_eq_true rfl⟩ rfl (Nat.le_of_ble_eq_true rfl) ⟨Nat.zero_le _, Nat.zero_le _⟩ dX12_controls_171 ?_
  refine jr_aload_n C dX12_controls_174 rfl 0 rfl ?_
  refine jm_getA C K 31 (by decide) (by decide) kw_1466 rfl dX12_controls_175 ?_
  refine jr_aload_n C dX12_controls_178 rfl 0 rfl ?_
  refine jm_getI C K 37 (by decide) rfl kw_1472 rfl dX12_controls_179 ?_
  refine jr_iconst (v := 1) C dX12_controls_182 (by decide) ?_
  refine jr_isub C dX12_controls_183 ?_
  refine jr_iload_n C dX12_controls_184 rfl 1 rfl ?_
  by_cases z185 : inb ((gI c171 37) - 1) (mlA 31) = true
  case neg => exact op_none ((if_neg z185).symm.trans hv)
  have hv := (if_pos z185).symm.trans hv
  refine jm_iast C K G z185 dX12_controls_185 ?_
  exact jr_sub [0, 3] rfl (tX12_controls_186 C K G  (pA c171 31 (ix ((gI c171 37) - 1)) v2) v4 hv)
set_option maxRecDepth 100000 in
theorem tX12_controls_143 {p : Program} {l : Launch} {e : Env} {s : State} {m : MethodId} {args : Array Value} {below : List Frame} {meth : Method} {c : Code} {g : MG} (C : CC p s m args meth c yX12_controls cX12_controls 9 (some .int)) (K : mK g s) (G : mSep g)  (S : MS) (v1 : Int32) (v2 : Int32) (v3 : Int32) (v4 : Int32) {w : Int32 × MS} (hv : fX12_controls_143 S v1 v2 v3 v4 = some w) : MJ p l e s m args below meth c 9 2 g (some (.int w.1)) w.2 143 [(0, .ref (mo g)), (1, .int v1), (2, .int v2), (3, .int v3), (4, .int v4)] [] S := by
  unfold fX12_controls_143 at hv
  refine jr_aload_n C dX12_controls_143 rfl 0 rfl ?_
  refine jm_getI C K 37 (by decide) rfl kw_1472 rfl dX12_controls_144 ?_
  refine jr_bipush (v := 40) C dX12_controls_147 (by decide) ?_
  refine jr_icmp_ne (tgt := 155) C dX12_controls_149 rfl (fun q149 => ?_) (fun q149 => ?_)
  · have hv := (if_neg q149).symm.trans hv
    refine jr_aload_n C dX12_controls_155 rfl 0 rfl ?_
    refine jr_iload_n C dX12_controls_156 rfl 1 rfl ?_
    refine jr_bipush (v := 14) C dX12_controls_157 (by decide) ?_
    refine jr_icmp_ne (tgt := 166) C dX12_controls_159 rfl (fun q159 => ?_) (fun q159 => ?_)
    · have hv := (if_neg q159).symm.trans hv
      refine jr_iload_n C dX12_controls_166 rfl 1 rfl ?_
      refine jr_bipush (v := 14) C dX12_controls_167 (by decide) ?_
      refine jr_isub C dX12_controls_169 ?_
      exact jr_sub [0, 2, 3, 4] rfl (tX12_controls_170 C K G  S v2 v3 v4 (v1 - 14) hv)
    · have hv := (if_pos q159).symm.trans hv
      refine jr_iconst (v := 0) C dX12_controls_162 (by decide) ?_
      refine jr_goto (tgt := 170) C dX12_controls_163 rfl ?_
      exact jr_sub [0, 2, 3, 4] rfl (tX12_controls_170 C K G  S v2 v3 v4 0 hv)
  · have hv := (if_pos q149).symm.trans hv
    refine jr_bipush (v := 9) C dX12_controls_152 (by decide) ?_
    exact jm_iret C K dX12_controls_154 (Option.some.inj hv)
set_option maxRecDepth 100000 in
theorem tX12_controls_334 {p : Program} {l : Launch} {e : Env} {s : State} {m : MethodId} {args : Array Value} {below : List Frame} {meth : Method} {c : Code} {g : MG} (C : CC p s m args meth c yX12_controls cX12_controls 9 (some .int)) (K : mK g s) (G : mSep g)  (S : MS) {w : Int32 × MS} (hv : fX12_controls_334 S = some w) : MJ p l e s m args below meth c 9 2 g (some (.int w.1)) w.2 334 [(0, .ref (mo g))] [] S := by
  unfold fX12_controls_334 at hv
  refine jr_aload_n C dX12_controls_334 rfl 0 rfl ?_
  refine jr_dup C dX12_controls_335 rfl ?_
  refine jm_getI C K 27 (by decide) rfl kw_1462 rfl dX12_controls_336 ?_
  refine jr_iconst (v := 1) C dX12_controls_339 (by decide) ?_
  refine jr_iadd C dX12_controls_340 ?_
  refine jm_putI C K G 27 (by decide) rfl kw_1462 rfl rfl (by decide +kernel) dX12_controls_341 ?_
  exact jr_sub [] rfl (tX12_controls_344 C K G  (pI S 27 ((gI S 27) + 1)) hv)
set_option maxRecDepth 100000 in
theorem tX12_controls_311 {p : Program} {l : Launch} {e : Env} {s : State} {m : MethodId} {args : Array Value} {below : List Frame} {meth : Method} {c : Code} {g : MG} (C : CC p s m args meth c yX12_controls cX12_controls 9 (some .int)) (K : mK g s) (G : mSep g)  (S : MS) (t0 : Int64) {w : Int32 × MS} (hv : fX12_controls_311 S t0 = some w) : MJ p l e s m args below meth c 9 2 g (some (.int w.1)) w.2 311 [(0, .ref (mo g))] [.long t0] S := by
  unfold fX12_controls_311 at hv
  refine jr_lstore (lv' := [(7, .long t0), (0, .ref (mo g))]) C dX12_controls_311 (by decide) rfl ?_
  refine jr_aload_n C dX12_controls_313 rfl 1 rfl ?_
  refine jm_getI C K 27 (by decide) rfl kw_1462 rfl dX12_controls_314 ?_
  refine jr_sipush (v := 200) C dX12_controls_317 (by decide) ?_
  refine jr_icmp_ge (tgt := 334) C dX12_controls_320 rfl (fun q320 => ?_) (fun q320 => ?_)
  · have hv := (if_pos q320).symm.trans hv
    exact jr_sub [1] rfl (tX12_controls_334 C K G  S hv)
  · have hv := (if_neg q320).symm.trans hv
    refine jr_aload_n C dX12_controls_323 rfl 1 rfl ?_
    refine jm_getA C K 26 (by decide) (by decide) kw_1461 rfl dX12_controls_324 ?_
    refine jr_aload_n C dX12_controls_327 rfl 1 rfl ?_
    refine jm_getI C K 27 (by decide) rfl kw_1462 rfl dX12_controls_328 ?_
    refine jr_lload C dX12_controls_331 0 rfl ?_
    by_cases z333 : inb (gI S 27) (mlB 26) = true
    case neg => exact op_none ((if_neg z333).symm.trans hv)
    have hv := (if_pos z333).symm.trans hv
    refine jm_last C K G z333 dX12_controls_333 ?_
    exact jr_sub [1] rfl (tX12_controls_334 C K G  (pB S 26 (ix (gI S 27)) t0) hv)
set_option maxRecDepth 100000 in
theorem tX12_controls_255 {p : Program} {l : Launch} {e : Env} {s : State} {m : MethodId} {args : Array Value} {below : List Frame} {meth : Method} {c : Code} {g : MG} (C : CC p s m args meth c yX12_controls cX12_controls 9 (some .int)) (K : mK g s) (G : mSep g)  (S : MS) {w : Int32 × MS} (hv : fX12_controls_255 S = some w) : MJ p l e s m args below meth c 9 2 g (some (.int w.1)) w.2 255 [] [] S := by
  unfold fX12_controls_255 at hv
  refine jr_iconst (v := 2) C dX12_controls_255 (by decide) ?_
  exact jm_iret C K dX12_controls_256 (Option.some.inj hv)
set_option maxRecDepth 100000 in
theorem tX12_controls_122 {p : Program} {l : Launch} {e : Env} {s : State} {m : MethodId} {args : Array Value} {below : List Frame} {meth : Method} {c : Code} {g : MG} (C : CC p s m args meth c yX12_controls cX12_controls 9 (some .int)) (K : mK g s) (G : mSep g)  (S : MS) {w : Int32 × MS} (hv : fX12_controls_122 S = some w) : MJ p l e s m args below meth c 9 2 g (some (.int w.1)) w.2 122 [] [] S := by
  unfold fX12_controls_122 at hv
  refine jr_goto (tgt := 344) C dX12_controls_122 rfl ?_
  exact tX12_controls_344 C K G  S hv
set_option maxRecDepth 100000 in
theorem tX12_controls_87 {p : Program} {l : Launch} {e : Env} {s : State} {m : MethodId} {args : Array Value} {below : List Frame} {meth : Method} {c : Code} {g : MG} (C : CC p s m args meth c yX12_controls cX12_controls 9 (some .int)) (K : mK g s) (G : mSep g)  (S : MS) (v2 : Int32) (v3 : Int32) {w : Int32 × MS} (hv : fX12_controls_87 S v2 v3 = some w) : MJ p l e s m args below meth c 9 2 g (some (.int w.1)) w.2 87 [(0, .ref (mo g)), (2, .int v2), (3, .int v3)] [] S := by
  unfold fX12_controls_87 at hv
  refine jr_aload_n C dX12_controls_87 rfl 0 rfl ?_
  refine jm_getI C K 37 (by decide) rfl kw_1472 rfl dX12_controls_88 ?_
  refine jr_bipush (v := 40) C dX12_controls_91 (by decide) ?_
  refine jr_icmp_ne (tgt := 99) C dX12_controls_93 rfl (fun q93 => ?_) (fun q93 => ?_)
  · have hv := (if_neg q93).symm.trans hv
    refine jr_aload_n C dX12_controls_99 rfl 0 rfl ?_
    refine jr_iconst (v := 1) C dX12_controls_100 (by decide) ?_
    refine jr_iload_n C dX12_controls_101 rfl 2 rfl ?_
    obtain ⟨c102, hc102, hv⟩ := Option.bind_eq_some_iff.mp hv
    refine jm_call (rest := []) C K G (pX12_opens l G S 1 v3 hc102) oX12_opens rfl kw_1168 rfl ⟨Nat.le_of_ble_eq_true rfl, Nat.le_of_ble_eq_true rfl⟩ rfl (Nat.le_of_ble_eq_true rfl) ⟨Nat.zero_le _, Nat.zero_le _⟩ dX12_controls_102 ?_
    refine jr_aload_n C dX12_controls_105 rfl 0 rfl ?_
    refine jm_getA C K 36 (by decide) (by decide) kw_1471 rfl dX12_controls_106 ?_
    refine jr_aload_n C dX12_controls_109 rfl 0 rfl ?_
    refine jm_getI C K 37 (by decide) rfl kw_1472 rfl dX12_controls_110 ?_
    refine jr_iconst (v := 1) C dX12_controls_113 (by decide) ?_
    refine jr_isub C dX12_controls_114 ?_
    refine jr_aload_n C dX12_controls_115 rfl 0 rfl ?_
    refine jm_getA C K 3 (by decide) (by decide) kw_1438 rfl dX12_controls_116 ?_
    refine jr_iload_n C dX12_controls_119 rfl 1 rfl ?_
    by_cases z120 : inb v2 (mlB 3) = true
    case neg => exact op_none ((if_neg z120).symm.trans hv)
    have hv := (if_pos z120).symm.trans hv
    refine jm_lald C K z120 dX12_controls_120 ?_
    by_cases z121 : inb ((gI c102 37) - 1) (mlB 36) = true
    case neg => exact op_none ((if_neg z121).symm.trans hv)
    have hv := (if_pos z121).symm.trans hv
    refine jm_last C K G z121 dX12_controls_121 ?_
    exact jr_sub [] rfl (tX12_controls_122 C K G  (pB c102 36 (ix ((gI c102 37) - 1)) (gB c102 3 (ix v2))) hv)
  · have hv := (if_pos q93).symm.trans hv
    refine jr_bipush (v := 9) C dX12_controls_96 (by decide) ?_
    exact jm_iret C K dX12_controls_98 (Option.some.inj hv)
set_option maxRecDepth 100000 in
theorem tX12_controls_75 {p : Program} {l : Launch} {e : Env} {s : State} {m : MethodId} {args : Array Value} {below : List Frame} {meth : Method} {c : Code} {g : MG} (C : CC p s m args meth c yX12_controls cX12_controls 9 (some .int)) (K : mK g s) (G : mSep g)  (S : MS) {w : Int32 × MS} (hv : fX12_controls_75 S = some w) : MJ p l e s m args below meth c 9 2 g (some (.int w.1)) w.2 75 [] [] S := by
  unfold fX12_controls_75 at hv
  refine jr_iconst (v := 0) C dX12_controls_75 (by decide) ?_
  exact jm_iret C K dX12_controls_76 (Option.some.inj hv)
set_option maxRecDepth 100000 in
theorem tX12_controls_40 {p : Program} {l : Launch} {e : Env} {s : State} {m : MethodId} {args : Array Value} {below : List Frame} {meth : Method} {c : Code} {g : MG} (C : CC p s m args meth c yX12_controls cX12_controls 9 (some .int)) (K : mK g s) (G : mSep g)  (S : MS) {w : Int32 × MS} (hv : fX12_controls_40 S = some w) : MJ p l e s m args below meth c 9 2 g (some (.int w.1)) w.2 40 [] [] S := by
  unfold fX12_controls_40 at hv
  refine jr_goto (tgt := 344) C dX12_controls_40 rfl ?_
  exact tX12_controls_344 C K G  S hv
set_option maxRecDepth 100000 in
theorem tX12_controls_8 {p : Program} {l : Launch} {e : Env} {s : State} {m : MethodId} {args : Array Value} {below : List Frame} {meth : Method} {c : Code} {g : MG} (C : CC p s m args meth c yX12_controls cX12_controls 9 (some .int)) (K : mK g s) (G : mSep g)  (S : MS) (v1 : Int32) (v2 : Int32) (v3 : Int32) (v4 : Int32) (v6 : Int32) {w : Int32 × MS} (hv : fX12_controls_8 S v1 v2 v3 v4 v6 = some w) : MJ p l e s m args below meth c 9 2 g (some (.int w.1)) w.2 8 [(0, .ref (mo g)), (1, .int v1), (2, .int v2), (3, .int v3), (4, .int v4), (6, .int v6)] [] S := by
  unfold fX12_controls_8 at hv
  refine jr_iload_n C dX12_controls_8 rfl 1 rfl ?_
  refine jr_bipush (v := 13) C dX12_controls_9 (by decide) ?_
  refine jr_icmp_ne (tgt := 43) C dX12_controls_11 rfl (fun q11 => ?_) (fun q11 => ?_)
  · have hv := (if_neg q11).symm.trans hv
    refine jr_iload_n C dX12_controls_43 rfl 1 rfl ?_
    refine jr_bipush (v := 15) C dX12_controls_44 (by decide) ?_
    refine jr_icmp_ne (tgt := 125) C dX12_controls_46 rfl (fun q46 => ?_) (fun q46 => ?_)
    · have hv := (if_neg q46).symm.trans hv
      refine jr_iload_n C dX12_controls_125 rfl 1 rfl ?_
      refine jr_bipush (v := 14) C dX12_controls_126 (by decide) ?_
      refine jr_icmp_eq (tgt := 143) C dX12_controls_128 rfl (fun q128 => ?_) (fun q128 => ?_)
      · have hv := (if_pos q128).symm.trans hv
        exact jr_sub [0, 1, 2, 3, 4] rfl (tX12_controls_143 C K G  S v1 v2 v3 v4 hv)
      · have hv := (if_neg q128).symm.trans hv
        refine jr_iload_n C dX12_controls_131 rfl 1 rfl ?_
        refine jr_bipush (v := 16) C dX12_controls_132 (by decide) ?_
        refine jr_icmp_eq (tgt := 143) C dX12_controls_134 rfl (fun q134 => ?_) (fun q134 => ?_)
        · have hv := (if_pos q134).symm.trans hv
          exact jr_sub [0, 1, 2, 3, 4] rfl (tX12_controls_143 C K G  S v1 v2 v3 v4 hv)
        · have hv := (if_neg q134).symm.trans hv
          refine jr_iload_n C dX12_controls_137 rfl 1 rfl ?_
          refine jr_bipush (v := 17) C dX12_controls_138 (by decide) ?_
          refine jr_icmp_ne (tgt := 215) C dX12_controls_140 rfl (fun q140 => ?_) (fun q140 => ?_)
          · have hv := (if_neg q140).symm.trans hv
            refine jr_iload_n C dX12_controls_215 rfl 1 rfl ?_
            refine jr_bipush (v := 18) C dX12_controls_216 (by decide) ?_
            refine jr_icmp_ne (tgt := 257) C dX12_controls_218 rfl (fun q218 => ?_) (fun q218 => ?_)
            · have hv := (if_neg q218).symm.trans hv
              refine jr_iload_n C dX12_controls_257 rfl 1 rfl ?_
              refine jr_bipush (v := 19) C dX12_controls_258 (by decide) ?_
              refine jr_icmp_ne (tgt := 287) C dX12_controls_260 rfl (fun q260 => ?_) (fun q260 => ?_)
              · have hv := (if_neg q260).symm.trans hv
                refine jr_iload_n C dX12_controls_287 rfl 1 rfl ?_
                refine jr_bipush (v := 20) C dX12_controls_288 (by decide) ?_
                refine jr_icmp_ne (tgt := 302) C dX12_controls_290 rfl (fun q290 => ?_) (fun q290 => ?_)
                · have hv := (if_neg q290).symm.trans hv
                  refine jr_aload_n C dX12_controls_302 rfl 0 rfl ?_
                  refine jm_getA C K 4 (by decide) (by decide) kw_1439 rfl dX12_controls_303 ?_
                  refine jr_iload_n C dX12_controls_306 rfl 2 rfl ?_
                  by_cases z307 : inb v2 (mlB 4) = true
                  case neg => exact op_none ((if_neg z307).symm.trans hv)
                  have hv := (if_pos z307).symm.trans hv
                  refine jm_lald C K z307 dX12_controls_307 ?_
                  refine jr_pcall (rest := []) C (pX12_one l (gB S 4 (ix v2))) oX12_one kw_1200 rfl ⟨Nat.le_of_ble_eq_true rfl, Nat.le_of_ble_eq_true rfl⟩ rfl (Nat.le_of_ble_eq_true rfl) ⟨Nat.zero_le _, Nat.zero_le _⟩ dX12_controls_308 ?_
                  exact jr_sub [0] rfl (tX12_controls_311 C K G  S (fX12_one (gB S 4 (ix v2))) hv)
                · have hv := (if_pos q290).symm.trans hv
                  refine jr_aload_n C dX12_controls_293 rfl 0 rfl ?_
                  refine jm_getA C K 3 (by decide) (by decide) kw_1438 rfl dX12_controls_294 ?_
                  refine jr_iload_n C dX12_controls_297 rfl 2 rfl ?_
                  by_cases z298 : inb v2 (mlB 3) = true
                  case neg => exact op_none ((if_neg z298).symm.trans hv)
                  have hv := (if_pos z298).symm.trans hv
                  refine jm_lald C K z298 dX12_controls_298 ?_
                  refine jr_goto (tgt := 311) C dX12_controls_299 rfl ?_
                  exact jr_sub [0] rfl (tX12_controls_311 C K G  S (gB S 3 (ix v2)) hv)
              · have hv := (if_pos q260).symm.trans hv
                refine jr_aload_n C dX12_controls_263 rfl 0 rfl ?_
                refine jm_getI C K 43 (by decide) rfl kw_1478 rfl dX12_controls_264 ?_
                refine jr_if_ne (tgt := 272) C dX12_controls_267 rfl (fun q267 => ?_) (fun q267 => ?_)
                · have hv := (if_neg q267).symm.trans hv
                  refine jr_aload_n C dX12_controls_272 rfl 0 rfl ?_
                  refine jr_aload_n C dX12_controls_273 rfl 0 rfl ?_
                  refine jm_getI C K 43 (by decide) rfl kw_1478 rfl dX12_controls_274 ?_
                  refine jr_aload_n C dX12_controls_277 rfl 0 rfl ?_
                  refine jm_getI C K 44 (by decide) rfl kw_1479 rfl dX12_controls_278 ?_
                  obtain ⟨c281, hc281, hv⟩ := Option.bind_eq_some_iff.mp hv
                  refine jm_call (rest := []) C K G (pX12_goesOn l G S (gI S 43) (gI S 44) hc281) oX12_goesOn rfl kw_1181 rfl ⟨Nat.le_of_ble_eq_true rfl, Nat.le_of_ble_eq_true rfl⟩ rfl (Nat.le_of_ble_eq_true rfl) ⟨Nat.zero_le _, Nat.zero_le _⟩ dX12_controls_281 ?_
                  refine jr_goto (tgt := 344) C dX12_controls_284 rfl ?_
                  exact jr_sub [] rfl (tX12_controls_344 C K G  c281 hv)
                · have hv := (if_pos q267).symm.trans hv
                  refine jr_iconst (v := 1) C dX12_controls_270 (by decide) ?_
                  exact jm_iret C K dX12_controls_271 (Option.some.inj hv)
            · have hv := (if_pos q218).symm.trans hv
              refine jr_aload_n C dX12_controls_221 rfl 0 rfl ?_
              refine jm_getA C K 3 (by decide) (by decide) kw_1438 rfl dX12_controls_222 ?_
              refine jr_iload_n C dX12_controls_225 rfl 2 rfl ?_
              by_cases z226 : inb v2 (mlB 3) = true
              case neg => exact op_none ((if_neg z226).symm.trans hv)
              have hv := (if_pos z226).symm.trans hv
              refine jm_lald C K z226 dX12_controls_226 ?_
              refine jr_lconst (v := 1) C dX12_controls_227 (by decide) ?_
              refine jr_lcmp_lt (tgt := 255) C dX12_controls_228 dX12_controls_229 rfl (fun q228 => ?_) (fun q228 => ?_)
              · have hv := (if_pos q228).symm.trans hv
                exact jr_sub [] rfl (tX12_controls_255 C K G  S hv)
              · have hv := (if_neg q228).symm.trans hv
                refine jr_aload_n C dX12_controls_232 rfl 0 rfl ?_
                refine jm_getA C K 3 (by decide) (by decide) kw_1438 rfl dX12_controls_233 ?_
                refine jr_iload_n C dX12_controls_236 rfl 2 rfl ?_
                by_cases z237 : inb v2 (mlB 3) = true
                case neg => exact op_none ((if_neg z237).symm.trans hv)
                have hv := (if_pos z237).symm.trans hv
                refine jm_lald C K z237 dX12_controls_237 ?_
                refine jr_ldc2 C kw_1199 dX12_controls_238 ?_
                refine jr_lcmp_gt (tgt := 255) C dX12_controls_241 dX12_controls_242 rfl (fun q241 => ?_) (fun q241 => ?_)
                · have hv := (if_pos q241).symm.trans hv
                  exact jr_sub [] rfl (tX12_controls_255 C K G  S hv)
                · have hv := (if_neg q241).symm.trans hv
                  refine jr_aload_n C dX12_controls_245 rfl 0 rfl ?_
                  refine jm_getA C K 3 (by decide) (by decide) kw_1438 rfl dX12_controls_246 ?_
                  refine jr_iload_n C dX12_controls_249 rfl 2 rfl ?_
                  by_cases z250 : inb v2 (mlB 3) = true
                  case neg => exact op_none ((if_neg z250).symm.trans hv)
                  have hv := (if_pos z250).symm.trans hv
                  refine jm_lald C K z250 dX12_controls_250 ?_
                  refine jr_l2i C dX12_controls_251 ?_
                  refine jr_goto (tgt := 256) C dX12_controls_252 rfl ?_
                  exact jm_iret C K dX12_controls_256 (Option.some.inj hv)
          · have hv := (if_pos q140).symm.trans hv
            exact jr_sub [0, 1, 2, 3, 4] rfl (tX12_controls_143 C K G  S v1 v2 v3 v4 hv)
    · have hv := (if_pos q46).symm.trans hv
      refine jr_aload_n C dX12_controls_49 rfl 0 rfl ?_
      refine jm_getA C K 3 (by decide) (by decide) kw_1438 rfl dX12_controls_50 ?_
      refine jr_iload_n C dX12_controls_53 rfl 2 rfl ?_
      by_cases z54 : inb v2 (mlB 3) = true
      case neg => exact op_none ((if_neg z54).symm.trans hv)
      have hv := (if_pos z54).symm.trans hv
      refine jm_lald C K z54 dX12_controls_54 ?_
      refine jr_lconst (v := 0) C dX12_controls_55 (by decide) ?_
      refine jr_lcmp_gt (tgt := 62) C dX12_controls_56 dX12_controls_57 rfl (fun q56 => ?_) (fun q56 => ?_)
      · have hv := (if_pos q56).symm.trans hv
        refine jr_aload_n C dX12_controls_62 rfl 0 rfl ?_
        refine jm_getI C K 38 (by decide) rfl kw_1473 rfl dX12_controls_63 ?_
        refine jr_if_ne (tgt := 77) C dX12_controls_66 rfl (fun q66 => ?_) (fun q66 => ?_)
        · have hv := (if_neg q66).symm.trans hv
          refine jr_aload_n C dX12_controls_77 rfl 0 rfl ?_
          refine jr_dup C dX12_controls_78 rfl ?_
          refine jm_getI C K 38 (by decide) rfl kw_1473 rfl dX12_controls_79 ?_
          refine jr_iconst (v := 1) C dX12_controls_82 (by decide) ?_
          refine jr_isub C dX12_controls_83 ?_
          refine jm_putI C K G 38 (by decide) rfl kw_1473 rfl rfl (by decide +kernel) dX12_controls_84 ?_
          exact jr_sub [0, 2, 3] rfl (tX12_controls_87 C K G  (pI S 38 ((gI S 38) - 1)) v2 v3 hv)
        · have hv := (if_pos q66).symm.trans hv
          refine jr_aload_n C dX12_controls_69 rfl 0 rfl ?_
          refine jr_bipush (v := 10) C dX12_controls_70 (by decide) ?_
          refine jm_putI C K G 41 (by decide) rfl kw_1476 rfl rfl (by decide +kernel) dX12_controls_72 ?_
          exact jr_sub [] rfl (tX12_controls_75 C K G  (pI S 41 10) hv)
      · have hv := (if_neg q56).symm.trans hv
        refine jr_iconst (v := 0) C dX12_controls_60 (by decide) ?_
        exact jm_iret C K dX12_controls_61 (Option.some.inj hv)
  · have hv := (if_pos q11).symm.trans hv
    refine jr_aload_n C dX12_controls_14 rfl 0 rfl ?_
    refine jm_getA C K 3 (by decide) (by decide) kw_1438 rfl dX12_controls_15 ?_
    refine jr_iload_n C dX12_controls_18 rfl 2 rfl ?_
    by_cases z19 : inb v2 (mlB 3) = true
    case neg => exact op_none ((if_neg z19).symm.trans hv)
    have hv := (if_pos z19).symm.trans hv
    refine jm_lald C K z19 dX12_controls_19 ?_
    refine jr_lconst (v := 0) C dX12_controls_20 (by decide) ?_
    refine jr_lcmp_eq (tgt := 344) C dX12_controls_21 dX12_controls_22 rfl (fun q21 => ?_) (fun q21 => ?_)
    · have hv := (if_pos q21).symm.trans hv
      exact jr_sub [] rfl (tX12_controls_344 C K G  S hv)
    · have hv := (if_neg q21).symm.trans hv
      refine jr_aload_n C dX12_controls_25 rfl 0 rfl ?_
      refine jm_getA C K 29 (by decide) (by decide) kw_1464 rfl dX12_controls_26 ?_
      refine jr_iload C dX12_controls_29 5 rfl ?_
      refine jr_dup2_11 C dX12_controls_31 rfl rfl ?_
      by_cases z32 : inb v6 (mlA 29) = true
      case neg => exact op_none ((if_neg z32).symm.trans hv)
      have hv := (if_pos z32).symm.trans hv
      refine jm_iald C K z32 dX12_controls_32 ?_
      refine jr_iload_n C dX12_controls_33 rfl 3 rfl ?_
      refine jr_sipush (v := 255) C dX12_controls_34 (by decide) ?_
      refine jr_iand C dX12_controls_37 ?_
      refine jr_iadd C dX12_controls_38 ?_
      by_cases z39 : inb v6 (mlA 29) = true
      case neg => exact op_none ((if_neg z39).symm.trans hv)
      have hv := (if_pos z39).symm.trans hv
      refine jm_iast C K G z39 dX12_controls_39 ?_
      exact jr_sub [] rfl (tX12_controls_40 C K G  (pA S 29 (ix v6) ((gA S 29 (ix v6)) + (v3 &&& 255))) hv)
set_option maxRecDepth 100000 in
theorem tX12_controls_0 {p : Program} {l : Launch} {e : Env} {s : State} {m : MethodId} {args : Array Value} {below : List Frame} {meth : Method} {c : Code} {g : MG} (C : CC p s m args meth c yX12_controls cX12_controls 9 (some .int)) (K : mK g s) (G : mSep g)  (S : MS) (v1 : Int32) (v2 : Int32) (v3 : Int32) (v4 : Int32) (v5 : Int32) {w : Int32 × MS} (hv : fX12_controls S v1 v2 v3 v4 v5 = some w) : MJ p l e s m args below meth c 9 2 g (some (.int w.1)) w.2 0 [(0, .ref (mo g)), (1, .int v1), (2, .int v2), (3, .int v3), (4, .int v4), (5, .int v5)] [] S := by
  unfold fX12_controls at hv
  refine jr_aload_n C dX12_controls_0 rfl 0 rfl ?_
  refine jm_getI C K 37 (by decide) rfl kw_1472 rfl dX12_controls_1 ?_
  refine jr_iconst (v := 1) C dX12_controls_4 (by decide) ?_
  refine jr_isub C dX12_controls_5 ?_
  refine jr_istore (lv' := [(6, .int ((gI S 37) - 1)), (0, .ref (mo g)), (1, .int v1), (2, .int v2), (3, .int v3), (4, .int v4), (5, .int v5)]) C dX12_controls_6 (by decide) rfl ?_
  exact jr_sub [1, 2, 3, 4, 5, 0] rfl (tX12_controls_8 C K G  S v1 v2 v3 v4 ((gI S 37) - 1) hv)
theorem pX12_controls (l : Launch) {g : MG} (G : mSep g) (S : MS) (v1 : Int32) (v2 : Int32) (v3 : Int32) (v4 : Int32) (v5 : Int32) {w : Int32} {S' : MS} (hw : fX12_controls S v1 v2 v3 v4 v5 = some (w, S')) : mC l yX12_controls cX12_controls 9 (some .int) 2 g [.ref (mo g), .int v1, .int v2, .int v3, .int v4, .int v5] S (some (.int w)) S' := mC_of (by decide +kernel) (Nat.le_of_ble_eq_true rfl) rfl (fun C K => tX12_controls_0 C K G S v1 v2 v3 v4 v5 hw)
/-! RobotCellModel.toNumber(IIJ)I -/
def fX12_toNumber_109 (S : MS) : Option (Int32 × MS) :=
  some (0, S)
def fX12_toNumber_108 (S : MS) (t0 : Nat) (t1 : Int32) (t2 : Int64) : Option (Int32 × MS) :=
  if inb t1 (mlB t0) = true then fX12_toNumber_109 (pB S t0 (ix t1) t2) else none
def fX12_toNumber_107 (S : MS) (t0 : Nat) (t1 : Int32) : Option (Int32 × MS) :=
  fX12_toNumber_108 S t0 t1 0
def fX12_toNumber_15 (S : MS) (v1 : Int32) (v2 : Int32) (v3 : Int64) : Option (Int32 × MS) :=
  if v2 = 0 then fX12_toNumber_108 S 3 v1 (fX12_towards v3 (-9223372036854775808) 9223372036854775807) else (if v2 = 1 then fX12_toNumber_108 S 3 v1 (fX12_towards v3 (-2147483648) 2147483647) else (if v2 = 2 then fX12_toNumber_108 S 3 v1 (fX12_rounded v3) else (if v2 = 3 then fX12_toNumber_108 S 3 v1 (fX12_one v3) else (if v2 = 4 then (Option.bind (fX12_smallBits v3) (fun c85 => fX12_toNumber_108 S 3 v1 c85)) else (if v2 = 5 then (if (fX12_isLost v3) = 0 then fX12_toNumber_107 S 3 v1 else fX12_toNumber_108 S 3 v1 1) else fX12_toNumber_107 S 3 v1)))))
def fX12_toNumber (S : MS) (v1 : Int32) (v2 : Int32) (v3 : Int64) : Option (Int32 × MS) :=
  if 3 ≤ v2 then fX12_toNumber_15 S v1 v2 v3 else (if (fX12_isLost v3) = 0 then fX12_toNumber_15 S v1 v2 v3 else some (7, S))
theorem oX12_toNumber : ok_v yX12_toNumber cX12_toNumber 5 (some .int) 3 := ⟨kw_1318, kw_1317, kw_53, kw_73, by decide +kernel⟩
set_option maxRecDepth 100000 in
theorem tX12_toNumber_109 {p : Program} {l : Launch} {e : Env} {s : State} {m : MethodId} {args : Array Value} {below : List Frame} {meth : Method} {c : Code} {g : MG} (C : CC p s m args meth c yX12_toNumber cX12_toNumber 5 (some .int)) (K : mK g s) (G : mSep g)  (S : MS) {w : Int32 × MS} (hv : fX12_toNumber_109 S = some w) : MJ p l e s m args below meth c 5 4 g (some (.int w.1)) w.2 109 [] [] S := by
  unfold fX12_toNumber_109 at hv
  refine jr_iconst (v := 0) C dX12_toNumber_109 (by decide) ?_
  exact jm_iret C K dX12_toNumber_110 (Option.some.inj hv)
set_option maxRecDepth 100000 in
theorem tX12_toNumber_108 {p : Program} {l : Launch} {e : Env} {s : State} {m : MethodId} {args : Array Value} {below : List Frame} {meth : Method} {c : Code} {g : MG} (C : CC p s m args meth c yX12_toNumber cX12_toNumber 5 (some .int)) (K : mK g s) (G : mSep g)  (S : MS) (t0 : Nat) (t1 : Int32) (t2 : Int64) {w : Int32 × MS} (hv : fX12_toNumber_108 S t0 t1 t2 = some w) : MJ p l e s m args below meth c 5 4 g (some (.int w.1)) w.2 108 [] [.long t2, .int t1, .ref (mad g t0)] S := by
  unfold fX12_toNumber_108 at hv
  by_cases z108 : inb t1 (mlB t0) = true
  case neg => exact op_none ((if_neg z108).symm.trans hv)
  have hv := (if_pos z108).symm.trans hv
  refine jm_last C K G z108 dX12_toNumber_108 ?_
  exact tX12_toNumber_109 C K G  (pB S t0 (ix t1) t2) hv
set_option maxRecDepth 100000 in
theorem tX12_toNumber_107 {p : Program} {l : Launch} {e : Env} {s : State} {m : MethodId} {args : Array Value} {below : List Frame} {meth : Method} {c : Code} {g : MG} (C : CC p s m args meth c yX12_toNumber cX12_toNumber 5 (some .int)) (K : mK g s) (G : mSep g)  (S : MS) (t0 : Nat) (t1 : Int32) {w : Int32 × MS} (hv : fX12_toNumber_107 S t0 t1 = some w) : MJ p l e s m args below meth c 5 4 g (some (.int w.1)) w.2 107 [] [.int t1, .ref (mad g t0)] S := by
  unfold fX12_toNumber_107 at hv
  refine jr_lconst (v := 0) C dX12_toNumber_107 (by decide) ?_
  exact tX12_toNumber_108 C K G  S t0 t1 0 hv
set_option maxRecDepth 100000 in
theorem tX12_toNumber_15 {p : Program} {l : Launch} {e : Env} {s : State} {m : MethodId} {args : Array Value} {below : List Frame} {meth : Method} {c : Code} {g : MG} (C : CC p s m args meth c yX12_toNumber cX12_toNumber 5 (some .int)) (K : mK g s) (G : mSep g)  (S : MS) (v1 : Int32) (v2 : Int32) (v3 : Int64) {w : Int32 × MS} (hv : fX12_toNumber_15 S v1 v2 v3 = some w) : MJ p l e s m args below meth c 5 4 g (some (.int w.1)) w.2 15 [(0, .ref (mo g)), (1, .int v1), (2, .int v2), (3, .long v3)] [] S := by
  unfold fX12_toNumber_15 at hv
  refine jr_aload_n C dX12_toNumber_15 rfl 0 rfl ?_
  refine jm_getA C K 3 (by decide) (by decide) kw_1438 rfl dX12_toNumber_16 ?_
  refine jr_iload_n C dX12_toNumber_19 rfl 1 rfl ?_
  refine jr_iload_n C dX12_toNumber_20 rfl 2 rfl ?_
  refine jr_if_ne (tgt := 37) C dX12_toNumber_21 rfl (fun q21 => ?_) (fun q21 => ?_)
  · have hv := (if_neg q21).symm.trans hv
    refine jr_iload_n C dX12_toNumber_37 rfl 2 rfl ?_
    refine jr_iconst (v := 1) C dX12_toNumber_38 (by decide) ?_
    refine jr_icmp_ne (tgt := 55) C dX12_toNumber_39 rfl (fun q39 => ?_) (fun q39 => ?_)
    · have hv := (if_neg q39).symm.trans hv
      refine jr_iload_n C dX12_toNumber_55 rfl 2 rfl ?_
      refine jr_iconst (v := 2) C dX12_toNumber_56 (by decide) ?_
      refine jr_icmp_ne (tgt := 67) C dX12_toNumber_57 rfl (fun q57 => ?_) (fun q57 => ?_)
      · have hv := (if_neg q57).symm.trans hv
        refine jr_iload_n C dX12_toNumber_67 rfl 2 rfl ?_
        refine jr_iconst (v := 3) C dX12_toNumber_68 (by decide) ?_
        refine jr_icmp_ne (tgt := 79) C dX12_toNumber_69 rfl (fun q69 => ?_) (fun q69 => ?_)
        · have hv := (if_neg q69).symm.trans hv
          refine jr_iload_n C dX12_toNumber_79 rfl 2 rfl ?_
          refine jr_iconst (v := 4) C dX12_toNumber_80 (by decide) ?_
          refine jr_icmp_ne (tgt := 91) C dX12_toNumber_81 rfl (fun q81 => ?_) (fun q81 => ?_)
          · have hv := (if_neg q81).symm.trans hv
            refine jr_iload_n C dX12_toNumber_91 rfl 2 rfl ?_
            refine jr_iconst (v := 5) C dX12_toNumber_92 (by decide) ?_
            refine jr_icmp_ne (tgt := 107) C dX12_toNumber_93 rfl (fun q93 => ?_) (fun q93 => ?_)
            · have hv := (if_neg q93).symm.trans hv
              exact jr_sub [] rfl (tX12_toNumber_107 C K G  S 3 v1 hv)
            · have hv := (if_pos q93).symm.trans hv
              refine jr_lload_n C dX12_toNumber_96 rfl 3 rfl ?_
              refine jr_pcall (rest := [.int v1, .ref (mad g 3)]) C (pX12_isLost l v3) oX12_isLost kw_1203 rfl ⟨Nat.le_of_ble_eq_true rfl, Nat.le_of_ble_eq_true rfl⟩ rfl (Nat.le_of_ble_eq_true rfl) ⟨Nat.zero_le _, Nat.zero_le _⟩ dX12_toNumber_97 ?_
              refine jr_if_eq (tgt := 107) C dX12_toNumber_100 rfl (fun q100 => ?_) (fun q100 => ?_)
              · have hv := (if_pos q100).symm.trans hv
                exact jr_sub [] rfl (tX12_toNumber_107 C K G  S 3 v1 hv)
              · have hv := (if_neg q100).symm.trans hv
                refine jr_lconst (v := 1) C dX12_toNumber_103 (by decide) ?_
                refine jr_goto (tgt := 108) C dX12_toNumber_104 rfl ?_
                exact jr_sub [] rfl (tX12_toNumber_108 C K G  S 3 v1 1 hv)
          · have hv := (if_pos q81).symm.trans hv
            refine jr_lload_n C dX12_toNumber_84 rfl 3 rfl ?_
            obtain ⟨c85, hc85, hv⟩ := Option.bind_eq_some_iff.mp hv
            refine jr_pcall (rest := [.int v1, .ref (mad g 3)]) C (pX12_smallBits l v3 hc85) oX12_smallBits kw_1327 rfl ⟨Nat.le_of_ble_eq_true rfl, Nat.le_of_ble_eq_true rfl⟩ rfl (Nat.le_of_ble_eq_true rfl) ⟨Nat.zero_le _, Nat.zero_le _⟩ dX12_toNumber_85 ?_
            refine jr_goto (tgt := 108) C dX12_toNumber_88 rfl ?_
            exact jr_sub [] rfl (tX12_toNumber_108 C K G  S 3 v1 c85 hv)
        · have hv := (if_pos q69).symm.trans hv
          refine jr_lload_n C dX12_toNumber_72 rfl 3 rfl ?_
          refine jr_pcall (rest := [.int v1, .ref (mad g 3)]) C (pX12_one l v3) oX12_one kw_1200 rfl ⟨Nat.le_of_ble_eq_true rfl, Nat.le_of_ble_eq_true rfl⟩ rfl (Nat.le_of_ble_eq_true rfl) ⟨Nat.zero_le _, Nat.zero_le _⟩ dX12_toNumber_73 ?_
          refine jr_goto (tgt := 108) C dX12_toNumber_76 rfl ?_
          exact jr_sub [] rfl (tX12_toNumber_108 C K G  S 3 v1 (fX12_one v3) hv)
      · have hv := (if_pos q57).symm.trans hv
        refine jr_lload_n C dX12_toNumber_60 rfl 3 rfl ?_
        refine jr_pcall (rest := [.int v1, .ref (mad g 3)]) C (pX12_rounded l v3) oX12_rounded kw_1324 rfl ⟨Nat.le_of_ble_eq_true rfl, Nat.le_of_ble_eq_true rfl⟩ rfl (Nat.le_of_ble_eq_true rfl) ⟨Nat.zero_le _, Nat.zero_le _⟩ dX12_toNumber_61 ?_
        refine jr_goto (tgt := 108) C dX12_toNumber_64 rfl ?_
        exact jr_sub [] rfl (tX12_toNumber_108 C K G  S 3 v1 (fX12_rounded v3) hv)
    · have hv := (if_pos q39).symm.trans hv
      refine jr_lload_n C dX12_toNumber_42 rfl 3 rfl ?_
      refine jr_ldc2 C kw_1322 dX12_toNumber_43 ?_
      refine jr_ldc2 C kw_1323 dX12_toNumber_46 ?_
      refine jr_pcall (rest := [.int v1, .ref (mad g 3)]) C (pX12_towards l v3 (-2147483648) 2147483647) oX12_towards kw_1319 rfl ⟨Nat.le_of_ble_eq_true rfl, Nat.le_of_ble_eq_true rfl⟩ rfl (Nat.le_of_ble_eq_true rfl) ⟨Nat.zero_le _, Nat.zero_le _⟩ dX12_toNumber_49 ?_
      refine jr_goto (tgt := 108) C dX12_toNumber_52 rfl ?_
      exact jr_sub [] rfl (tX12_toNumber_108 C K G  S 3 v1 (fX12_towards v3 (-2147483648) 2147483647) hv)
  · have hv := (if_pos q21).symm.trans hv
    refine jr_lload_n C dX12_toNumber_24 rfl 3 rfl ?_
    refine jr_ldc2 C kw_1224 dX12_toNumber_25 ?_
    refine jr_ldc2 C kw_1206 dX12_toNumber_28 ?_
    refine jr_pcall (rest := [.int v1, .ref (mad g 3)]) C (pX12_towards l v3 (-9223372036854775808) 9223372036854775807) oX12_towards kw_1319 rfl ⟨Nat.le_of_ble_eq_true rfl, Nat.le_of_ble_eq_true rfl⟩ rfl (Nat.le_of_ble_eq_true rfl) ⟨Nat.zero_le _, Nat.zero_le _⟩ dX12_toNumber_31 ?_
    refine jr_goto (tgt := 108) C dX12_toNumber_34 rfl ?_
    exact jr_sub [] rfl (tX12_toNumber_108 C K G  S 3 v1 (fX12_towards v3 (-9223372036854775808) 9223372036854775807) hv)
set_option maxRecDepth 100000 in
theorem tX12_toNumber_0 {p : Program} {l : Launch} {e : Env} {s : State} {m : MethodId} {args : Array Value} {below : List Frame} {meth : Method} {c : Code} {g : MG} (C : CC p s m args meth c yX12_toNumber cX12_toNumber 5 (some .int)) (K : mK g s) (G : mSep g)  (S : MS) (v1 : Int32) (v2 : Int32) (v3 : Int64) {w : Int32 × MS} (hv : fX12_toNumber S v1 v2 v3 = some w) : MJ p l e s m args below meth c 5 4 g (some (.int w.1)) w.2 0 [(0, .ref (mo g)), (1, .int v1), (2, .int v2), (3, .long v3)] [] S := by
  unfold fX12_toNumber at hv
  refine jr_iload_n C dX12_toNumber_0 rfl 2 rfl ?_
  refine jr_iconst (v := 3) C dX12_toNumber_1 (by decide) ?_
  refine jr_icmp_ge (tgt := 15) C dX12_toNumber_2 rfl (fun q2 => ?_) (fun q2 => ?_)
  · have hv := (if_pos q2).symm.trans hv
    exact tX12_toNumber_15 C K G  S v1 v2 v3 hv
  · have hv := (if_neg q2).symm.trans hv
    refine jr_lload_n C dX12_toNumber_5 rfl 3 rfl ?_
    refine jr_pcall (rest := []) C (pX12_isLost l v3) oX12_isLost kw_1203 rfl ⟨Nat.le_of_ble_eq_true rfl, Nat.le_of_ble_eq_true rfl⟩ rfl (Nat.le_of_ble_eq_true rfl) ⟨Nat.zero_le _, Nat.zero_le _⟩ dX12_toNumber_6 ?_
    refine jr_if_eq (tgt := 15) C dX12_toNumber_9 rfl (fun q9 => ?_) (fun q9 => ?_)
    · have hv := (if_pos q9).symm.trans hv
      exact tX12_toNumber_15 C K G  S v1 v2 v3 hv
    · have hv := (if_neg q9).symm.trans hv
      refine jr_bipush (v := 7) C dX12_toNumber_12 (by decide) ?_
      exact jm_iret C K dX12_toNumber_14 (Option.some.inj hv)
theorem pX12_toNumber (l : Launch) {g : MG} (G : mSep g) (S : MS) (v1 : Int32) (v2 : Int32) (v3 : Int64) {w : Int32} {S' : MS} (hw : fX12_toNumber S v1 v2 v3 = some (w, S')) : mC l yX12_toNumber cX12_toNumber 5 (some .int) 4 g [.ref (mo g), .int v1, .int v2, .long v3] S (some (.int w)) S' := mC_of (by decide +kernel) (Nat.le_of_ble_eq_true rfl) rfl (fun C K => tX12_toNumber_0 C K G S v1 v2 v3 hw)
/-! RobotCellModel.measures(IIII)I -/
def fX12_measures_356 (S : MS) : Option (Int32 × MS) :=
  some (0, S)
def fX12_measures_108 (S : MS) : Option (Int32 × MS) :=
  fX12_measures_356 S
def fX12_measures_124 (S : MS) : Option (Int32 × MS) :=
  fX12_measures_356 S
def fX12_measures_140 (S : MS) : Option (Int32 × MS) :=
  fX12_measures_356 S
def fX12_measures_157 (S : MS) : Option (Int32 × MS) :=
  fX12_measures_356 S
def fX12_measures_173 (S : MS) : Option (Int32 × MS) :=
  fX12_measures_356 S
def fX12_measures_189 (S : MS) : Option (Int32 × MS) :=
  fX12_measures_356 S
def fX12_measures_208 (S : MS) : Option (Int32 × MS) :=
  fX12_measures_356 S
def fX12_measures_243 (S : MS) : Option (Int32 × MS) :=
  fX12_measures_356 S
def fX12_measures_269 (S : MS) : Option (Int32 × MS) :=
  fX12_measures_356 S
def fX12_measures_268 (S : MS) (t0 : Nat) (t1 : Int32) (t2 : Int64) : Option (Int32 × MS) :=
  if inb t1 (mlB t0) = true then fX12_measures_269 (pB S t0 (ix t1) t2) else none
def fX12_measures_355 (S : MS) (t0 : Nat) (t1 : Int32) (t2 : Int64) : Option (Int32 × MS) :=
  if inb t1 (mlB t0) = true then fX12_measures_356 (pB S t0 (ix t1) t2) else none
def fX12_measures_296 (S : MS) (v2 : Int32) (v4 : Int32) (v10 : Int64) : Option (Int32 × MS) :=
  if (v4 &&& 3) = 0 then (Option.bind (fX12_number v10) (fun c310 => fX12_measures_355 S 4 v2 c310)) else (if (v4 &&& 3) = 1 then fX12_measures_355 S 4 v2 (fX12_one v10) else (if (v4 &&& 3) = 2 then (Option.bind (fX12_fromSmall v10.toInt32) (fun c343 => fX12_measures_355 S 4 v2 c343)) else (Option.bind (fX12_whole v10 1) (fun c352 => fX12_measures_355 S 4 v2 c352))))
def fX12_measures_32 (S : MS) (v1 : Int32) (v2 : Int32) (v3 : Int32) (v4 : Int32) (v5 : Int64) (v7 : Int64) (v9 : Int32) : Option (Int32 × MS) :=
  if v1 = 24 then (Option.bind (fX12_number v3.toInt64) (fun c95 => Option.bind (fX12_number v4.toInt64) (fun c101 => Option.bind (fX12_quotient c95 c101) (fun c104 => if inb v2 (mlB 4) = true then fX12_measures_108 (pB S 4 (ix v2) c104) else none)))) else if v1 = 25 then (Option.bind (fX12_sum v5 v7) (fun c120 => if inb v2 (mlB 4) = true then fX12_measures_124 (pB S 4 (ix v2) c120) else none)) else if v1 = 26 then (Option.bind (fX12_less v5 v7) (fun c136 => if inb v2 (mlB 4) = true then fX12_measures_140 (pB S 4 (ix v2) c136) else none)) else if v1 = 27 then (Option.bind (fX12_product S v5 v7) (fun c153 => if inb v2 (mlB 4) = true then fX12_measures_157 (pB c153.2 4 (ix v2) c153.1) else none)) else if v1 = 28 then (Option.bind (fX12_quotient v5 v7) (fun c169 => if inb v2 (mlB 4) = true then fX12_measures_173 (pB S 4 (ix v2) c169) else none)) else if v1 = 29 then (Option.bind (fX12_remainder v5 v7) (fun c185 => if inb v2 (mlB 4) = true then fX12_measures_189 (pB S 4 (ix v2) c185) else none)) else if v1 = 30 then (Option.bind (fX12_singled (v4 &&& 15) v5) (fun c204 => if inb v2 (mlB 4) = true then fX12_measures_208 (pB S 4 (ix v2) c204) else none)) else if v1 = 31 then (if inb v2 (mlB 4) = true then (if inb (v4 &&& 15) (mlB 3) = true then (Option.bind (fX12_paired S v9 v5 v7 (gB S 4 (ix v2)) (gB S 3 (ix (v4 &&& 15)))) (fun c239 => if inb v2 (mlB 4) = true then fX12_measures_243 (pB c239.2 4 (ix v2) c239.1) else none)) else none) else none) else if v1 = 32 then (if (fX12_test v9 v5 v7) = 0 then fX12_measures_268 S 3 v2 0 else fX12_measures_268 S 3 v2 1) else if v1 = 33 then (Option.bind (fX12_toNumber S v2 (v4 &&& 7) v5) (fun c281 => some (c281.1, c281.2))) else (if inb (v3 &&& 15) (mlB 3) = true then fX12_measures_296 S v2 v4 (gB S 3 (ix (v3 &&& 15))) else none)
def fX12_measures_23 (S : MS) (v1 : Int32) (v2 : Int32) (v3 : Int32) (v4 : Int32) (v5 : Int64) (v7 : Int64) : Option (Int32 × MS) :=
  fX12_measures_32 S v1 v2 v3 v4 v5 v7 ((v4 >>> (4 &&& 31)) &&& 7)
def fX12_measures_11 (S : MS) (v1 : Int32) (v2 : Int32) (v3 : Int32) (v4 : Int32) (v5 : Int64) : Option (Int32 × MS) :=
  if inb (v4 &&& 15) (mlB 4) = true then fX12_measures_23 S v1 v2 v3 v4 v5 (gB S 4 (ix (v4 &&& 15))) else none
def fX12_measures (S : MS) (v1 : Int32) (v2 : Int32) (v3 : Int32) (v4 : Int32) : Option (Int32 × MS) :=
  if inb (v3 &&& 15) (mlB 4) = true then fX12_measures_11 S v1 v2 v3 v4 (gB S 4 (ix (v3 &&& 15))) else none
theorem oX12_measures : ok_v yX12_measures cX12_measures 12 (some .int) 4 := ⟨kw_1212, kw_1211, kw_49, kw_73, by decide +kernel⟩
set_option maxRecDepth 100000 in
theorem tX12_measures_356 {p : Program} {l : Launch} {e : Env} {s : State} {m : MethodId} {args : Array Value} {below : List Frame} {meth : Method} {c : Code} {g : MG} (C : CC p s m args meth c yX12_measures cX12_measures 12 (some .int)) (K : mK g s) (G : mSep g)  (S : MS) {w : Int32 × MS} (hv : fX12_measures_356 S = some w) : MJ p l e s m args below meth c 12 5 g (some (.int w.1)) w.2 356 [] [] S := by
  unfold fX12_measures_356 at hv
  refine jr_iconst (v := 0) C dX12_measures_356 (by decide) ?_
  exact jm_iret C K dX12_measures_357 (Option.some.inj hv)
set_option maxRecDepth 100000 in
theorem tX12_measures_108 {p : Program} {l : Launch} {e : Env} {s : State} {m : MethodId} {args : Array Value} {below : List Frame} {meth : Method} {c : Code} {g : MG} (C : CC p s m args meth c yX12_measures cX12_measures 12 (some .int)) (K : mK g s) (G : mSep g)  (S : MS) {w : Int32 × MS} (hv : fX12_measures_108 S = some w) : MJ p l e s m args below meth c 12 5 g (some (.int w.1)) w.2 108 [] [] S := by
  unfold fX12_measures_108 at hv
  refine jr_goto (tgt := 356) C dX12_measures_108 rfl ?_
  exact tX12_measures_356 C K G  S hv
set_option maxRecDepth 100000 in
theorem tX12_measures_124 {p : Program} {l : Launch} {e : Env} {s : State} {m : MethodId} {args : Array Value} {below : List Frame} {meth : Method} {c : Code} {g : MG} (C : CC p s m args meth c yX12_measures cX12_measures 12 (some .int)) (K : mK g s) (G : mSep g)  (S : MS) {w : Int32 × MS} (hv : fX12_measures_124 S = some w) : MJ p l e s m args below meth c 12 5 g (some (.int w.1)) w.2 124 [] [] S := by
  unfold fX12_measures_124 at hv
  refine jr_goto (tgt := 356) C dX12_measures_124 rfl ?_
  exact tX12_measures_356 C K G  S hv
set_option maxRecDepth 100000 in
theorem tX12_measures_140 {p : Program} {l : Launch} {e : Env} {s : State} {m : MethodId} {args : Array Value} {below : List Frame} {meth : Method} {c : Code} {g : MG} (C : CC p s m args meth c yX12_measures cX12_measures 12 (some .int)) (K : mK g s) (G : mSep g)  (S : MS) {w : Int32 × MS} (hv : fX12_measures_140 S = some w) : MJ p l e s m args below meth c 12 5 g (some (.int w.1)) w.2 140 [] [] S := by
  unfold fX12_measures_140 at hv
  refine jr_goto (tgt := 356) C dX12_measures_140 rfl ?_
  exact tX12_measures_356 C K G  S hv
set_option maxRecDepth 100000 in
theorem tX12_measures_157 {p : Program} {l : Launch} {e : Env} {s : State} {m : MethodId} {args : Array Value} {below : List Frame} {meth : Method} {c : Code} {g : MG} (C : CC p s m args meth c yX12_measures cX12_measures 12 (some .int)) (K : mK g s) (G : mSep g)  (S : MS) {w : Int32 × MS} (hv : fX12_measures_157 S = some w) : MJ p l e s m args below meth c 12 5 g (some (.int w.1)) w.2 157 [] [] S := by
  unfold fX12_measures_157 at hv
  refine jr_goto (tgt := 356) C dX12_measures_157 rfl ?_
  exact tX12_measures_356 C K G  S hv
set_option maxRecDepth 100000 in
theorem tX12_measures_173 {p : Program} {l : Launch} {e : Env} {s : State} {m : MethodId} {args : Array Value} {below : List Frame} {meth : Method} {c : Code} {g : MG} (C : CC p s m args meth c yX12_measures cX12_measures 12 (some .int)) (K : mK g s) (G : mSep g)  (S : MS) {w : Int32 × MS} (hv : fX12_measures_173 S = some w) : MJ p l e s m args below meth c 12 5 g (some (.int w.1)) w.2 173 [] [] S := by
  unfold fX12_measures_173 at hv
  refine jr_goto (tgt := 356) C dX12_measures_173 rfl ?_
  exact tX12_measures_356 C K G  S hv
set_option maxRecDepth 100000 in
theorem tX12_measures_189 {p : Program} {l : Launch} {e : Env} {s : State} {m : MethodId} {args : Array Value} {below : List Frame} {meth : Method} {c : Code} {g : MG} (C : CC p s m args meth c yX12_measures cX12_measures 12 (some .int)) (K : mK g s) (G : mSep g)  (S : MS) {w : Int32 × MS} (hv : fX12_measures_189 S = some w) : MJ p l e s m args below meth c 12 5 g (some (.int w.1)) w.2 189 [] [] S := by
  unfold fX12_measures_189 at hv
  refine jr_goto (tgt := 356) C dX12_measures_189 rfl ?_
  exact tX12_measures_356 C K G  S hv
set_option maxRecDepth 100000 in
theorem tX12_measures_208 {p : Program} {l : Launch} {e : Env} {s : State} {m : MethodId} {args : Array Value} {below : List Frame} {meth : Method} {c : Code} {g : MG} (C : CC p s m args meth c yX12_measures cX12_measures 12 (some .int)) (K : mK g s) (G : mSep g)  (S : MS) {w : Int32 × MS} (hv : fX12_measures_208 S = some w) : MJ p l e s m args below meth c 12 5 g (some (.int w.1)) w.2 208 [] [] S := by
  unfold fX12_measures_208 at hv
  refine jr_goto (tgt := 356) C dX12_measures_208 rfl ?_
  exact tX12_measures_356 C K G  S hv
set_option maxRecDepth 100000 in
theorem tX12_measures_243 {p : Program} {l : Launch} {e : Env} {s : State} {m : MethodId} {args : Array Value} {below : List Frame} {meth : Method} {c : Code} {g : MG} (C : CC p s m args meth c yX12_measures cX12_measures 12 (some .int)) (K : mK g s) (G : mSep g)  (S : MS) {w : Int32 × MS} (hv : fX12_measures_243 S = some w) : MJ p l e s m args below meth c 12 5 g (some (.int w.1)) w.2 243 [] [] S := by
  unfold fX12_measures_243 at hv
  refine jr_goto (tgt := 356) C dX12_measures_243 rfl ?_
  exact tX12_measures_356 C K G  S hv
set_option maxRecDepth 100000 in
theorem tX12_measures_269 {p : Program} {l : Launch} {e : Env} {s : State} {m : MethodId} {args : Array Value} {below : List Frame} {meth : Method} {c : Code} {g : MG} (C : CC p s m args meth c yX12_measures cX12_measures 12 (some .int)) (K : mK g s) (G : mSep g)  (S : MS) {w : Int32 × MS} (hv : fX12_measures_269 S = some w) : MJ p l e s m args below meth c 12 5 g (some (.int w.1)) w.2 269 [] [] S := by
  unfold fX12_measures_269 at hv
  refine jr_goto (tgt := 356) C dX12_measures_269 rfl ?_
  exact tX12_measures_356 C K G  S hv
set_option maxRecDepth 100000 in
theorem tX12_measures_268 {p : Program} {l : Launch} {e : Env} {s : State} {m : MethodId} {args : Array Value} {below : List Frame} {meth : Method} {c : Code} {g : MG} (C : CC p s m args meth c yX12_measures cX12_measures 12 (some .int)) (K : mK g s) (G : mSep g)  (S : MS) (t0 : Nat) (t1 : Int32) (t2 : Int64) {w : Int32 × MS} (hv : fX12_measures_268 S t0 t1 t2 = some w) : MJ p l e s m args below meth c 12 5 g (some (.int w.1)) w.2 268 [] [.long t2, .int t1, .ref (mad g t0)] S := by
  unfold fX12_measures_268 at hv
  by_cases z268 : inb t1 (mlB t0) = true
  case neg => exact op_none ((if_neg z268).symm.trans hv)
  have hv := (if_pos z268).symm.trans hv
  refine jm_last C K G z268 dX12_measures_268 ?_
  exact tX12_measures_269 C K G  (pB S t0 (ix t1) t2) hv
set_option maxRecDepth 100000 in
theorem tX12_measures_355 {p : Program} {l : Launch} {e : Env} {s : State} {m : MethodId} {args : Array Value} {below : List Frame} {meth : Method} {c : Code} {g : MG} (C : CC p s m args meth c yX12_measures cX12_measures 12 (some .int)) (K : mK g s) (G : mSep g)  (S : MS) (t0 : Nat) (t1 : Int32) (t2 : Int64) {w : Int32 × MS} (hv : fX12_measures_355 S t0 t1 t2 = some w) : MJ p l e s m args below meth c 12 5 g (some (.int w.1)) w.2 355 [] [.long t2, .int t1, .ref (mad g t0)] S := by
  unfold fX12_measures_355 at hv
  by_cases z355 : inb t1 (mlB t0) = true
  case neg => exact op_none ((if_neg z355).symm.trans hv)
  have hv := (if_pos z355).symm.trans hv
  refine jm_last C K G z355 dX12_measures_355 ?_
  exact tX12_measures_356 C K G  (pB S t0 (ix t1) t2) hv
set_option maxRecDepth 100000 in
theorem tX12_measures_296 {p : Program} {l : Launch} {e : Env} {s : State} {m : MethodId} {args : Array Value} {below : List Frame} {meth : Method} {c : Code} {g : MG} (C : CC p s m args meth c yX12_measures cX12_measures 12 (some .int)) (K : mK g s) (G : mSep g)  (S : MS) (v2 : Int32) (v4 : Int32) (v10 : Int64) {w : Int32 × MS} (hv : fX12_measures_296 S v2 v4 v10 = some w) : MJ p l e s m args below meth c 12 5 g (some (.int w.1)) w.2 296 [(0, .ref (mo g)), (2, .int v2), (4, .int v4), (10, .long v10)] [] S := by
  unfold fX12_measures_296 at hv
  refine jr_aload_n C dX12_measures_296 rfl 0 rfl ?_
  refine jm_getA C K 4 (by decide) (by decide) kw_1439 rfl dX12_measures_297 ?_
  refine jr_iload_n C dX12_measures_300 rfl 1 rfl ?_
  refine jr_iload C dX12_measures_301 2 rfl ?_
  refine jr_iconst (v := 3) C dX12_measures_303 (by decide) ?_
  refine jr_iand C dX12_measures_304 ?_
  refine jr_if_ne (tgt := 316) C dX12_measures_305 rfl (fun q305 => ?_) (fun q305 => ?_)
  · have hv := (if_neg q305).symm.trans hv
    refine jr_iload C dX12_measures_316 2 rfl ?_
    refine jr_iconst (v := 3) C dX12_measures_318 (by decide) ?_
    refine jr_iand C dX12_measures_319 ?_
    refine jr_iconst (v := 1) C dX12_measures_320 (by decide) ?_
    refine jr_icmp_ne (tgt := 332) C dX12_measures_321 rfl (fun q321 => ?_) (fun q321 => ?_)
    · have hv := (if_neg q321).symm.trans hv
      refine jr_iload C dX12_measures_332 2 rfl ?_
      refine jr_iconst (v := 3) C dX12_measures_334 (by decide) ?_
      refine jr_iand C dX12_measures_335 ?_
      refine jr_iconst (v := 2) C dX12_measures_336 (by decide) ?_
      refine jr_icmp_ne (tgt := 349) C dX12_measures_337 rfl (fun q337 => ?_) (fun q337 => ?_)
      · have hv := (if_neg q337).symm.trans hv
        refine jr_lload C dX12_measures_349 3 rfl ?_
        refine jr_iconst (v := 1) C dX12_measures_351 (by decide) ?_
        obtain ⟨c352, hc352, hv⟩ := Option.bind_eq_some_iff.mp hv
        refine jr_pcall (rest := [.int v2, .ref (mad g 4)]) C (pX12_whole l v10 1 hc352) oX12_whole kw_1216 rfl ⟨Nat.le_of_ble_eq_true rfl, Nat.le_of_ble_eq_true rfl⟩ rfl (Nat.le_of_ble_eq_true rfl) ⟨Nat.zero_le _, Nat.zero_le _⟩ dX12_measures_352 ?_
        exact jr_sub [] rfl (tX12_measures_355 C K G  S 4 v2 c352 hv)
      · have hv := (if_pos q337).symm.trans hv
        refine jr_lload C dX12_measures_340 3 rfl ?_
        refine jr_l2i C dX12_measures_342 ?_
        obtain ⟨c343, hc343, hv⟩ := Option.bind_eq_some_iff.mp hv
        refine jr_pcall (rest := [.int v2, .ref (mad g 4)]) C (pX12_fromSmall l v10.toInt32 hc343) oX12_fromSmall kw_1333 rfl ⟨Nat.le_of_ble_eq_true rfl, Nat.le_of_ble_eq_true rfl⟩ rfl (Nat.le_of_ble_eq_true rfl) ⟨Nat.zero_le _, Nat.zero_le _⟩ dX12_measures_343 ?_
        refine jr_goto (tgt := 355) C dX12_measures_346 rfl ?_
        exact jr_sub [] rfl (tX12_measures_355 C K G  S 4 v2 c343 hv)
    · have hv := (if_pos q321).symm.trans hv
      refine jr_lload C dX12_measures_324 3 rfl ?_
      refine jr_pcall (rest := [.int v2, .ref (mad g 4)]) C (pX12_one l v10) oX12_one kw_1200 rfl ⟨Nat.le_of_ble_eq_true rfl, Nat.le_of_ble_eq_true rfl⟩ rfl (Nat.le_of_ble_eq_true rfl) ⟨Nat.zero_le _, Nat.zero_le _⟩ dX12_measures_326 ?_
      refine jr_goto (tgt := 355) C dX12_measures_329 rfl ?_
      exact jr_sub [] rfl (tX12_measures_355 C K G  S 4 v2 (fX12_one v10) hv)
  · have hv := (if_pos q305).symm.trans hv
    refine jr_lload C dX12_measures_308 3 rfl ?_
    obtain ⟨c310, hc310, hv⟩ := Option.bind_eq_some_iff.mp hv
    refine jr_pcall (rest := [.int v2, .ref (mad g 4)]) C (pX12_number l v10 hc310) oX12_number kw_1213 rfl ⟨Nat.le_of_ble_eq_true rfl, Nat.le_of_ble_eq_true rfl⟩ rfl (Nat.le_of_ble_eq_true rfl) ⟨Nat.zero_le _, Nat.zero_le _⟩ dX12_measures_310 ?_
    refine jr_goto (tgt := 355) C dX12_measures_313 rfl ?_
    exact jr_sub [] rfl (tX12_measures_355 C K G  S 4 v2 c310 hv)
set_option maxRecDepth 100000 in
theorem tX12_measures_32 {p : Program} {l : Launch} {e : Env} {s : State} {m : MethodId} {args : Array Value} {below : List Frame} {meth : Method} {c : Code} {g : MG} (C : CC p s m args meth c yX12_measures cX12_measures 12 (some .int)) (K : mK g s) (G : mSep g)  (S : MS) (v1 : Int32) (v2 : Int32) (v3 : Int32) (v4 : Int32) (v5 : Int64) (v7 : Int64) (v9 : Int32) {w : Int32 × MS} (hv : fX12_measures_32 S v1 v2 v3 v4 v5 v7 v9 = some w) : MJ p l e s m args below meth c 12 5 g (some (.int w.1)) w.2 32 [(0, .ref (mo g)), (1, .int v1), (2, .int v2), (3, .int v3), (4, .int v4), (5, .long v5), (7, .long v7), (9, .int v9)] [] S := by
  unfold fX12_measures_32 at hv
  refine jr_iload_n C dX12_measures_32 rfl 1 rfl ?_
  by_cases q33_0 : v1 = 24
  · have hv := (if_pos q33_0).symm.trans hv
    refine jr_tableIn (off := 55) (tgt := 88) C dX12_measures_33 (by rw [q33_0]; decide) (by rw [q33_0]; decide) (by rw [q33_0]; rfl) rfl ?_
    refine jr_aload_n C dX12_measures_88 rfl 0 rfl ?_
    refine jm_getA C K 4 (by decide) (by decide) kw_1439 rfl dX12_measures_89 ?_
    refine jr_iload_n C dX12_measures_92 rfl 2 rfl ?_
    refine jr_iload_n C dX12_measures_93 rfl 3 rfl ?_
    refine jr_i2l C dX12_measures_94 ?_
    obtain ⟨c95, hc95, hv⟩ := Option.bind_eq_some_iff.mp hv
    refine jr_pcall (rest := [.int v2, .ref (mad g 4)]) C (pX12_number l v3.toInt64 hc95) oX12_number kw_1213 rfl ⟨Nat.le_of_ble_eq_true rfl, Nat.le_of_ble_eq_true rfl⟩ rfl (Nat.le_of_ble_eq_true rfl) ⟨Nat.zero_le _, Nat.zero_le _⟩ dX12_measures_95 ?_
    refine jr_iload C dX12_measures_98 4 rfl ?_
    refine jr_i2l C dX12_measures_100 ?_
    obtain ⟨c101, hc101, hv⟩ := Option.bind_eq_some_iff.mp hv
    refine jr_pcall (rest := [.long c95, .int v2, .ref (mad g 4)]) C (pX12_number l v4.toInt64 hc101) oX12_number kw_1213 rfl ⟨Nat.le_of_ble_eq_true rfl, Nat.le_of_ble_eq_true rfl⟩ rfl (Nat.le_of_ble_eq_true rfl) ⟨Nat.zero_le _, Nat.zero_le _⟩ dX12_measures_101 ?_
    obtain ⟨c104, hc104, hv⟩ := Option.bind_eq_some_iff.mp hv
    refine jr_pcall (rest := [.int v2, .ref (mad g 4)]) C (pX12_quotient l c95 c101 hc104) oX12_quotient kw_1229 rfl ⟨Nat.le_of_ble_eq_true rfl, Nat.le_of_ble_eq_true rfl⟩ rfl (Nat.le_of_ble_eq_true rfl) ⟨Nat.zero_le _, Nat.zero_le _⟩ dX12_measures_104 ?_
    by_cases z107 : inb v2 (mlB 4) = true
    case neg => exact op_none ((if_neg z107).symm.trans hv)
    have hv := (if_pos z107).symm.trans hv
    refine jm_last C K G z107 dX12_measures_107 ?_
    exact jr_sub [] rfl (tX12_measures_108 C K G  (pB S 4 (ix v2) c104) hv)
  have hv := (if_neg q33_0).symm.trans hv
  by_cases q33_1 : v1 = 25
  · have hv := (if_pos q33_1).symm.trans hv
    refine jr_tableIn (off := 78) (tgt := 111) C dX12_measures_33 (by rw [q33_1]; decide) (by rw [q33_1]; decide) (by rw [q33_1]; rfl) rfl ?_
    refine jr_aload_n C dX12_measures_111 rfl 0 rfl ?_
    refine jm_getA C K 4 (by decide) (by decide) kw_1439 rfl dX12_measures_112 ?_
    refine jr_iload_n C dX12_measures_115 rfl 2 rfl ?_
    refine jr_lload C dX12_measures_116 5 rfl ?_
    refine jr_lload C dX12_measures_118 6 rfl ?_
    obtain ⟨c120, hc120, hv⟩ := Option.bind_eq_some_iff.mp hv
    refine jr_pcall (rest := [.int v2, .ref (mad g 4)]) C (pX12_sum l v5 v7 hc120) oX12_sum kw_1253 rfl ⟨Nat.le_of_ble_eq_true rfl, Nat.le_of_ble_eq_true rfl⟩ rfl (Nat.le_of_ble_eq_true rfl) ⟨Nat.zero_le _, Nat.zero_le _⟩ dX12_measures_120 ?_
    by_cases z123 : inb v2 (mlB 4) = true
    case neg => exact op_none ((if_neg z123).symm.trans hv)
    have hv := (if_pos z123).symm.trans hv
    refine jm_last C K G z123 dX12_measures_123 ?_
    exact jr_sub [] rfl (tX12_measures_124 C K G  (pB S 4 (ix v2) c120) hv)
  have hv := (if_neg q33_1).symm.trans hv
  by_cases q33_2 : v1 = 26
  · have hv := (if_pos q33_2).symm.trans hv
    refine jr_tableIn (off := 94) (tgt := 127) C dX12_measures_33 (by rw [q33_2]; decide) (by rw [q33_2]; decide) (by rw [q33_2]; rfl) rfl ?_
    refine jr_aload_n C dX12_measures_127 rfl 0 rfl ?_
    refine jm_getA C K 4 (by decide) (by decide) kw_1439 rfl dX12_measures_128 ?_
    refine jr_iload_n C dX12_measures_131 rfl 2 rfl ?_
    refine jr_lload C dX12_measures_132 5 rfl ?_
    refine jr_lload C dX12_measures_134 6 rfl ?_
    obtain ⟨c136, hc136, hv⟩ := Option.bind_eq_some_iff.mp hv
    refine jr_pcall (rest := [.int v2, .ref (mad g 4)]) C (pX12_less l v5 v7 hc136) oX12_less kw_1256 rfl ⟨Nat.le_of_ble_eq_true rfl, Nat.le_of_ble_eq_true rfl⟩ rfl (Nat.le_of_ble_eq_true rfl) ⟨Nat.zero_le _, Nat.zero_le _⟩ dX12_measures_136 ?_
    by_cases z139 : inb v2 (mlB 4) = true
    case neg => exact op_none ((if_neg z139).symm.trans hv)
    have hv := (if_pos z139).symm.trans hv
    refine jm_last C K G z139 dX12_measures_139 ?_
    exact jr_sub [] rfl (tX12_measures_140 C K G  (pB S 4 (ix v2) c136) hv)
  have hv := (if_neg q33_2).symm.trans hv
  by_cases q33_3 : v1 = 27
  · have hv := (if_pos q33_3).symm.trans hv
    refine jr_tableIn (off := 110) (tgt := 143) C dX12_measures_33 (by rw [q33_3]; decide) (by rw [q33_3]; decide) (by rw [q33_3]; rfl) rfl ?_
    refine jr_aload_n C dX12_measures_143 rfl 0 rfl ?_
    refine jm_getA C K 4 (by decide) (by decide) kw_1439 rfl dX12_measures_144 ?_
    refine jr_iload_n C dX12_measures_147 rfl 2 rfl ?_
    refine jr_aload_n C dX12_measures_148 rfl 0 rfl ?_
    refine jr_lload C dX12_measures_149 5 rfl ?_
    refine jr_lload C dX12_measures_151 6 rfl ?_
    obtain ⟨c153, hc153, hv⟩ := Option.bind_eq_some_iff.mp hv
    refine jm_call (rest := [.int v2, .ref (mad g 4)]) C K G (pX12_product l G S v5 v7 hc153) oX12_product rfl kw_1262 rfl ⟨Nat.le_of_ble_eq_true rfl, Nat.le_of_ble_eq_true rfl⟩ rfl (Nat.le_of_ble_eq_true rfl) ⟨Nat.zero_le _, Nat.zero_le _⟩ dX12_measures_153 ?_
    by_cases z156 : inb v2 (mlB 4) = true
    case neg => exact op_none ((if_neg z156).symm.trans hv)
    have hv := (if_pos z156).symm.trans hv
    refine jm_last C K G z156 dX12_measures_156 ?_
    exact jr_sub [] rfl (tX12_measures_157 C K G  (pB c153.2 4 (ix v2) c153.1) hv)
  have hv := (if_neg q33_3).symm.trans hv
  by_cases q33_4 : v1 = 28
  · have hv := (if_pos q33_4).symm.trans hv
    refine jr_tableIn (off := 127) (tgt := 160) C dX12_measures_33 (by rw [q33_4]; decide) (by rw [q33_4]; decide) (by rw [q33_4]; rfl) rfl ?_
    refine jr_aload_n C dX12_measures_160 rfl 0 rfl ?_
    refine jm_getA C K 4 (by decide) (by decide) kw_1439 rfl dX12_measures_161 ?_
    refine jr_iload_n C dX12_measures_164 rfl 2 rfl ?_
    refine jr_lload C dX12_measures_165 5 rfl ?_
    refine jr_lload C dX12_measures_167 6 rfl ?_
    obtain ⟨c169, hc169, hv⟩ := Option.bind_eq_some_iff.mp hv
    refine jr_pcall (rest := [.int v2, .ref (mad g 4)]) C (pX12_quotient l v5 v7 hc169) oX12_quotient kw_1229 rfl ⟨Nat.le_of_ble_eq_true rfl, Nat.le_of_ble_eq_true rfl⟩ rfl (Nat.le_of_ble_eq_true rfl) ⟨Nat.zero_le _, Nat.zero_le _⟩ dX12_measures_169 ?_
    by_cases z172 : inb v2 (mlB 4) = true
    case neg => exact op_none ((if_neg z172).symm.trans hv)
    have hv := (if_pos z172).symm.trans hv
    refine jm_last C K G z172 dX12_measures_172 ?_
    exact jr_sub [] rfl (tX12_measures_173 C K G  (pB S 4 (ix v2) c169) hv)
  have hv := (if_neg q33_4).symm.trans hv
  by_cases q33_5 : v1 = 29
  · have hv := (if_pos q33_5).symm.trans hv
    refine jr_tableIn (off := 143) (tgt := 176) C dX12_measures_33 (by rw [q33_5]; decide) (by rw [q33_5]; decide) (by rw [q33_5]; rfl) rfl ?_
    refine jr_aload_n C dX12_measures_176 rfl 0 rfl ?_
    refine jm_getA C K 4 (by decide) (by decide) kw_1439 rfl dX12_measures_177 ?_
    refine jr_iload_n C dX12_measures_180 rfl 2 rfl ?_
    refine jr_lload C dX12_measures_181 5 rfl ?_
    refine jr_lload C dX12_measures_183 6 rfl ?_
    obtain ⟨c185, hc185, hv⟩ := Option.bind_eq_some_iff.mp hv
    refine jr_pcall (rest := [.int v2, .ref (mad g 4)]) C (pX12_remainder l v5 v7 hc185) oX12_remainder kw_1273 rfl ⟨Nat.le_of_ble_eq_true rfl, Nat.le_of_ble_eq_true rfl⟩ rfl (Nat.le_of_ble_eq_true rfl) ⟨Nat.zero_le _, Nat.zero_le _⟩ dX12_measures_185 ?_
    by_cases z188 : inb v2 (mlB 4) = true
    case neg => exact op_none ((if_neg z188).symm.trans hv)
    have hv := (if_pos z188).symm.trans hv
    refine jm_last C K G z188 dX12_measures_188 ?_
    exact jr_sub [] rfl (tX12_measures_189 C K G  (pB S 4 (ix v2) c185) hv)
  have hv := (if_neg q33_5).symm.trans hv
  by_cases q33_6 : v1 = 30
  · have hv := (if_pos q33_6).symm.trans hv
    refine jr_tableIn (off := 159) (tgt := 192) C dX12_measures_33 (by rw [q33_6]; decide) (by rw [q33_6]; decide) (by rw [q33_6]; rfl) rfl ?_
    refine jr_aload_n C dX12_measures_192 rfl 0 rfl ?_
    refine jm_getA C K 4 (by decide) (by decide) kw_1439 rfl dX12_measures_193 ?_
    refine jr_iload_n C dX12_measures_196 rfl 2 rfl ?_
    refine jr_iload C dX12_measures_197 4 rfl ?_
    refine jr_bipush (v := 15) C dX12_measures_199 (by decide) ?_
    refine jr_iand C dX12_measures_201 ?_
    refine jr_lload C dX12_measures_202 5 rfl ?_
    obtain ⟨c204, hc204, hv⟩ := Option.bind_eq_some_iff.mp hv
    refine jr_pcall (rest := [.int v2, .ref (mad g 4)]) C (pX12_singled l (v4 &&& 15) v5 hc204) oX12_singled kw_1276 rfl ⟨Nat.le_of_ble_eq_true rfl, Nat.le_of_ble_eq_true rfl⟩ rfl (Nat.le_of_ble_eq_true rfl) ⟨Nat.zero_le _, Nat.zero_le _⟩ dX12_measures_204 ?_
    by_cases z207 : inb v2 (mlB 4) = true
    case neg => exact op_none ((if_neg z207).symm.trans hv)
    have hv := (if_pos z207).symm.trans hv
    refine jm_last C K G z207 dX12_measures_207 ?_
    exact jr_sub [] rfl (tX12_measures_208 C K G  (pB S 4 (ix v2) c204) hv)
  have hv := (if_neg q33_6).symm.trans hv
  by_cases q33_7 : v1 = 31
  · have hv := (if_pos q33_7).symm.trans hv
    refine jr_tableIn (off := 178) (tgt := 211) C dX12_measures_33 (by rw [q33_7]; decide) (by rw [q33_7]; decide) (by rw [q33_7]; rfl) rfl ?_
    refine jr_aload_n C dX12_measures_211 rfl 0 rfl ?_
    refine jm_getA C K 4 (by decide) (by decide) kw_1439 rfl dX12_measures_212 ?_
    refine jr_iload_n C dX12_measures_215 rfl 2 rfl ?_
    refine jr_aload_n C dX12_measures_216 rfl 0 rfl ?_
    refine jr_iload C dX12_measures_217 7 rfl ?_
    refine jr_lload C dX12_measures_219 5 rfl ?_
    refine jr_lload C dX12_measures_221 6 rfl ?_
    refine jr_aload_n C dX12_measures_223 rfl 0 rfl ?_
    refine jm_getA C K 4 (by decide) (by decide) kw_1439 rfl dX12_measures_224 ?_
    refine jr_iload_n C dX12_measures_227 rfl 2 rfl ?_
    by_cases z228 : inb v2 (mlB 4) = true
    case neg => exact op_none ((if_neg z228).symm.trans hv)
    have hv := (if_pos z228).symm.trans hv
    refine jm_lald C K z228 dX12_measures_228 ?_
    refine jr_aload_n C dX12_measures_229 rfl 0 rfl ?_
    refine jm_getA C K 3 (by decide) (by decide) kw_1438 rfl dX12_measures_230 ?_
    refine jr_iload C dX12_measures_233 4 rfl ?_
    refine jr_bipush (v := 15) C dX12_measures_235 (by decide) ?_
    refine jr_iand C dX12_measures_237 ?_
    by_cases z238 : inb (v4 &&& 15) (mlB 3) = true
    case neg => exact op_none ((if_neg z238).symm.trans hv)
    have hv := (if_pos z238).symm.trans hv
    refine jm_lald C K z238 dX12_measures_238 ?_
    obtain ⟨c239, hc239, hv⟩ := Option.bind_eq_some_iff.mp hv
    refine jm_call (rest := [.int v2, .ref (mad g 4)]) C K G (pX12_paired l G S v9 v5 v7 (gB S 4 (ix v2)) (gB S 3 (ix (v4 &&& 15))) hc239) oX12_paired rfl kw_1296 rfl ⟨Nat.le_of_ble_eq_true rfl, Nat.le_of_ble_eq_true rfl⟩ rfl (Nat.le_of_ble_eq_true rfl) ⟨Nat.zero_le _, Nat.zero_le _⟩ dX12_measures_239 ?_
    by_cases z242 : inb v2 (mlB 4) = true
    case neg => exact op_none ((if_neg z242).symm.trans hv)
    have hv := (if_pos z242).symm.trans hv
    refine jm_last C K G z242 dX12_measures_242 ?_
    exact jr_sub [] rfl (tX12_measures_243 C K G  (pB c239.2 4 (ix v2) c239.1) hv)
  have hv := (if_neg q33_7).symm.trans hv
  by_cases q33_8 : v1 = 32
  · have hv := (if_pos q33_8).symm.trans hv
    refine jr_tableIn (off := 213) (tgt := 246) C dX12_measures_33 (by rw [q33_8]; decide) (by rw [q33_8]; decide) (by rw [q33_8]; rfl) rfl ?_
    refine jr_aload_n C dX12_measures_246 rfl 0 rfl ?_
    refine jm_getA C K 3 (by decide) (by decide) kw_1438 rfl dX12_measures_247 ?_
    refine jr_iload_n C dX12_measures_250 rfl 2 rfl ?_
    refine jr_iload C dX12_measures_251 7 rfl ?_
    refine jr_lload C dX12_measures_253 5 rfl ?_
    refine jr_lload C dX12_measures_255 6 rfl ?_
    refine jr_pcall (rest := [.int v2, .ref (mad g 3)]) C (pX12_test l v9 v5 v7) oX12_test kw_1309 rfl ⟨Nat.le_of_ble_eq_true rfl, Nat.le_of_ble_eq_true rfl⟩ rfl (Nat.le_of_ble_eq_true rfl) ⟨Nat.zero_le _, Nat.zero_le _⟩ dX12_measures_257 ?_
    refine jr_if_eq (tgt := 267) C dX12_measures_260 rfl (fun q260 => ?_) (fun q260 => ?_)
    · have hv := (if_pos q260).symm.trans hv
      refine jr_lconst (v := 0) C dX12_measures_267 (by decide) ?_
      exact jr_sub [] rfl (tX12_measures_268 C K G  S 3 v2 0 hv)
    · have hv := (if_neg q260).symm.trans hv
      refine jr_lconst (v := 1) C dX12_measures_263 (by decide) ?_
      refine jr_goto (tgt := 268) C dX12_measures_264 rfl ?_
      exact jr_sub [] rfl (tX12_measures_268 C K G  S 3 v2 1 hv)
  have hv := (if_neg q33_8).symm.trans hv
  by_cases q33_9 : v1 = 33
  · have hv := (if_pos q33_9).symm.trans hv
    refine jr_tableIn (off := 239) (tgt := 272) C dX12_measures_33 (by rw [q33_9]; decide) (by rw [q33_9]; decide) (by rw [q33_9]; rfl) rfl ?_
    refine jr_aload_n C dX12_measures_272 rfl 0 rfl ?_
    refine jr_iload_n C dX12_measures_273 rfl 2 rfl ?_
    refine jr_iload C dX12_measures_274 4 rfl ?_
    refine jr_bipush (v := 7) C dX12_measures_276 (by decide) ?_
    refine jr_iand C dX12_measures_278 ?_
    refine jr_lload C dX12_measures_279 5 rfl ?_
    obtain ⟨c281, hc281, hv⟩ := Option.bind_eq_some_iff.mp hv
    refine jm_call (rest := []) C K G (pX12_toNumber l G S v2 (v4 &&& 7) v5 hc281) oX12_toNumber rfl kw_1315 rfl ⟨Nat.le_of_ble_eq_true rfl, Nat.le_of_ble_eq_true rfl⟩ rfl (Nat.le_of_ble_eq_true rfl) ⟨Nat.zero_le _, Nat.zero_le _⟩ dX12_measures_281 ?_
    exact jm_iret C K dX12_measures_284 (Option.some.inj hv)
  have hv := (if_neg q33_9).symm.trans hv
  refine jr_tableOut (tgt := 285) C dX12_measures_33 (by have := sw_ne (a := 24) q33_0 (by decide); have := sw_ne (a := 25) q33_1 (by decide); have := sw_ne (a := 26) q33_2 (by decide); have := sw_ne (a := 27) q33_3 (by decide); have := sw_ne (a := 28) q33_4 (by decide); have := sw_ne (a := 29) q33_5 (by decide); have := sw_ne (a := 30) q33_6 (by decide); have := sw_ne (a := 31) q33_7 (by decide); have := sw_ne (a := 32) q33_8 (by decide); have := sw_ne (a := 33) q33_9 (by decide); omega) rfl ?_
  refine jr_aload_n C dX12_measures_285 rfl 0 rfl ?_
  refine jm_getA C K 3 (by decide) (by decide) kw_1438 rfl dX12_measures_286 ?_
  refine jr_iload_n C dX12_measures_289 rfl 3 rfl ?_
  refine jr_bipush (v := 15) C dX12_measures_290 (by decide) ?_
  refine jr_iand C dX12_measures_292 ?_
  by_cases z293 : inb (v3 &&& 15) (mlB 3) = true
  case neg => exact op_none ((if_neg z293).symm.trans hv)
  have hv := (if_pos z293).symm.trans hv
  refine jm_lald C K z293 dX12_measures_293 ?_
  refine jr_lstore (lv' := [(10, .long (gB S 3 (ix (v3 &&& 15)))), (0, .ref (mo g)), (1, .int v1), (2, .int v2), (3, .int v3), (4, .int v4), (5, .long v5), (7, .long v7), (9, .int v9)]) C dX12_measures_294 (by decide) rfl ?_
  exact jr_sub [1, 3, 5, 0] rfl (tX12_measures_296 C K G  S v2 v4 (gB S 3 (ix (v3 &&& 15))) hv)
set_option maxRecDepth 100000 in
theorem tX12_measures_23 {p : Program} {l : Launch} {e : Env} {s : State} {m : MethodId} {args : Array Value} {below : List Frame} {meth : Method} {c : Code} {g : MG} (C : CC p s m args meth c yX12_measures cX12_measures 12 (some .int)) (K : mK g s) (G : mSep g)  (S : MS) (v1 : Int32) (v2 : Int32) (v3 : Int32) (v4 : Int32) (v5 : Int64) (v7 : Int64) {w : Int32 × MS} (hv : fX12_measures_23 S v1 v2 v3 v4 v5 v7 = some w) : MJ p l e s m args below meth c 12 5 g (some (.int w.1)) w.2 23 [(0, .ref (mo g)), (1, .int v1), (2, .int v2), (3, .int v3), (4, .int v4), (5, .long v5), (7, .long v7)] [] S := by
  unfold fX12_measures_23 at hv
  refine jr_iload C dX12_measures_23 4 rfl ?_
  refine jr_iconst (v := 4) C dX12_measures_25 (by decide) ?_
  refine jr_ishr C dX12_measures_26 ?_
  refine jr_bipush (v := 7) C dX12_measures_27 (by decide) ?_
  refine jr_iand C dX12_measures_29 ?_
  refine jr_istore (lv' := [(9, .int ((v4 >>> (4 &&& 31)) &&& 7)), (0, .ref (mo g)), (1, .int v1), (2, .int v2), (3, .int v3), (4, .int v4), (5, .long v5), (7, .long v7)]) C dX12_measures_30 (by decide) rfl ?_
  exact jr_sub [1, 2, 3, 4, 5, 6, 7, 0] rfl (tX12_measures_32 C K G  S v1 v2 v3 v4 v5 v7 ((v4 >>> (4 &&& 31)) &&& 7) hv)
set_option maxRecDepth 100000 in
theorem tX12_measures_11 {p : Program} {l : Launch} {e : Env} {s : State} {m : MethodId} {args : Array Value} {below : List Frame} {meth : Method} {c : Code} {g : MG} (C : CC p s m args meth c yX12_measures cX12_measures 12 (some .int)) (K : mK g s) (G : mSep g)  (S : MS) (v1 : Int32) (v2 : Int32) (v3 : Int32) (v4 : Int32) (v5 : Int64) {w : Int32 × MS} (hv : fX12_measures_11 S v1 v2 v3 v4 v5 = some w) : MJ p l e s m args below meth c 12 5 g (some (.int w.1)) w.2 11 [(0, .ref (mo g)), (1, .int v1), (2, .int v2), (3, .int v3), (4, .int v4), (5, .long v5)] [] S := by
  unfold fX12_measures_11 at hv
  refine jr_aload_n C dX12_measures_11 rfl 0 rfl ?_
  refine jm_getA C K 4 (by decide) (by decide) kw_1439 rfl dX12_measures_12 ?_
  refine jr_iload C dX12_measures_15 4 rfl ?_
  refine jr_bipush (v := 15) C dX12_measures_17 (by decide) ?_
  refine jr_iand C dX12_measures_19 ?_
  by_cases z20 : inb (v4 &&& 15) (mlB 4) = true
  case neg => exact op_none ((if_neg z20).symm.trans hv)
  have hv := (if_pos z20).symm.trans hv
  refine jm_lald C K z20 dX12_measures_20 ?_
  refine jr_lstore (lv' := [(7, .long (gB S 4 (ix (v4 &&& 15)))), (0, .ref (mo g)), (1, .int v1), (2, .int v2), (3, .int v3), (4, .int v4), (5, .long v5)]) C dX12_measures_21 (by decide) rfl ?_
  exact jr_sub [1, 2, 3, 4, 5, 6, 0] rfl (tX12_measures_23 C K G  S v1 v2 v3 v4 v5 (gB S 4 (ix (v4 &&& 15))) hv)
set_option maxRecDepth 100000 in
theorem tX12_measures_0 {p : Program} {l : Launch} {e : Env} {s : State} {m : MethodId} {args : Array Value} {below : List Frame} {meth : Method} {c : Code} {g : MG} (C : CC p s m args meth c yX12_measures cX12_measures 12 (some .int)) (K : mK g s) (G : mSep g)  (S : MS) (v1 : Int32) (v2 : Int32) (v3 : Int32) (v4 : Int32) {w : Int32 × MS} (hv : fX12_measures S v1 v2 v3 v4 = some w) : MJ p l e s m args below meth c 12 5 g (some (.int w.1)) w.2 0 [(0, .ref (mo g)), (1, .int v1), (2, .int v2), (3, .int v3), (4, .int v4)] [] S := by
  unfold fX12_measures at hv
  refine jr_aload_n C dX12_measures_0 rfl 0 rfl ?_
  refine jm_getA C K 4 (by decide) (by decide) kw_1439 rfl dX12_measures_1 ?_
  refine jr_iload_n C dX12_measures_4 rfl 3 rfl ?_
  refine jr_bipush (v := 15) C dX12_measures_5 (by decide) ?_
  refine jr_iand C dX12_measures_7 ?_
  by_cases z8 : inb (v3 &&& 15) (mlB 4) = true
  case neg => exact op_none ((if_neg z8).symm.trans hv)
  have hv := (if_pos z8).symm.trans hv
  refine jm_lald C K z8 dX12_measures_8 ?_
  refine jr_lstore (lv' := [(5, .long (gB S 4 (ix (v3 &&& 15)))), (0, .ref (mo g)), (1, .int v1), (2, .int v2), (3, .int v3), (4, .int v4)]) C dX12_measures_9 (by decide) rfl ?_
  exact jr_sub [1, 2, 3, 4, 5, 0] rfl (tX12_measures_11 C K G  S v1 v2 v3 v4 (gB S 4 (ix (v3 &&& 15))) hv)
theorem pX12_measures (l : Launch) {g : MG} (G : mSep g) (S : MS) (v1 : Int32) (v2 : Int32) (v3 : Int32) (v4 : Int32) {w : Int32} {S' : MS} (hw : fX12_measures S v1 v2 v3 v4 = some (w, S')) : mC l yX12_measures cX12_measures 12 (some .int) 5 g [.ref (mo g), .int v1, .int v2, .int v3, .int v4] S (some (.int w)) S' := mC_of (by decide +kernel) (Nat.le_of_ble_eq_true rfl) rfl (fun C K => tX12_measures_0 C K G S v1 v2 v3 v4 hw)
/-! RobotCellModel.belongs(II)Z -/
def fX12_belongs_55 (S : MS) : Option (Int32 × MS) :=
  some (1, S)
def fX12_belongs_59 (S : MS) : Option (Int32 × MS) :=
  some (0, S)
def fX12_belongs (S : MS) (v1 : Int32) (v2 : Int32) : Option (Int32 × MS) :=
  if v1 = 0 then fX12_belongs_55 S else (if v2 = 8 then (if inb v1 (mlA 6) = true then (if (fX12_isPose (gA S 6 (ix v1))) = 0 then fX12_belongs_59 S else fX12_belongs_55 S) else none) else (if v2 = 9 then (if inb v1 (mlA 6) = true then (if (gA S 6 (ix v1)) = 12 then fX12_belongs_55 S else fX12_belongs_59 S) else none) else (if inb v1 (mlA 6) = true then (if (gA S 6 (ix v1)) = 4 then fX12_belongs_55 S else fX12_belongs_59 S) else none)))
theorem oX12_belongs : ok_v yX12_belongs cX12_belongs 3 (some .boolean) 2 := ⟨kw_1374, kw_1373, kw_61, kw_73, by decide +kernel⟩
set_option maxRecDepth 100000 in
theorem tX12_belongs_55 {p : Program} {l : Launch} {e : Env} {s : State} {m : MethodId} {args : Array Value} {below : List Frame} {meth : Method} {c : Code} {g : MG} (C : CC p s m args meth c yX12_belongs cX12_belongs 3 (some .boolean)) (K : mK g s) (G : mSep g)  (S : MS) {w : Int32 × MS} (hv : fX12_belongs_55 S = some w) : MJ p l e s m args below meth c 3 1 g (some (.int w.1)) w.2 55 [] [] S := by
  unfold fX12_belongs_55 at hv
  refine jr_iconst (v := 1) C dX12_belongs_55 (by decide) ?_
  refine jr_goto (tgt := 60) C dX12_belongs_56 rfl ?_
  exact jm_zret C K dX12_belongs_60 rfl (Option.some.inj hv)
set_option maxRecDepth 100000 in
theorem tX12_belongs_59 {p : Program} {l : Launch} {e : Env} {s : State} {m : MethodId} {args : Array Value} {below : List Frame} {meth : Method} {c : Code} {g : MG} (C : CC p s m args meth c yX12_belongs cX12_belongs 3 (some .boolean)) (K : mK g s) (G : mSep g)  (S : MS) {w : Int32 × MS} (hv : fX12_belongs_59 S = some w) : MJ p l e s m args below meth c 3 1 g (some (.int w.1)) w.2 59 [] [] S := by
  unfold fX12_belongs_59 at hv
  refine jr_iconst (v := 0) C dX12_belongs_59 (by decide) ?_
  exact jm_zret C K dX12_belongs_60 rfl (Option.some.inj hv)
set_option maxRecDepth 100000 in
theorem tX12_belongs_0 {p : Program} {l : Launch} {e : Env} {s : State} {m : MethodId} {args : Array Value} {below : List Frame} {meth : Method} {c : Code} {g : MG} (C : CC p s m args meth c yX12_belongs cX12_belongs 3 (some .boolean)) (K : mK g s) (G : mSep g)  (S : MS) (v1 : Int32) (v2 : Int32) {w : Int32 × MS} (hv : fX12_belongs S v1 v2 = some w) : MJ p l e s m args below meth c 3 1 g (some (.int w.1)) w.2 0 [(0, .ref (mo g)), (1, .int v1), (2, .int v2)] [] S := by
  unfold fX12_belongs at hv
  refine jr_iload_n C dX12_belongs_0 rfl 1 rfl ?_
  refine jr_if_eq (tgt := 55) C dX12_belongs_1 rfl (fun q1 => ?_) (fun q1 => ?_)
  · have hv := (if_pos q1).symm.trans hv
    exact jr_sub [] rfl (tX12_belongs_55 C K G  S hv)
  · have hv := (if_neg q1).symm.trans hv
    refine jr_iload_n C dX12_belongs_4 rfl 2 rfl ?_
    refine jr_bipush (v := 8) C dX12_belongs_5 (by decide) ?_
    refine jr_icmp_ne (tgt := 25) C dX12_belongs_7 rfl (fun q7 => ?_) (fun q7 => ?_)
    · have hv := (if_neg q7).symm.trans hv
      refine jr_iload_n C dX12_belongs_25 rfl 2 rfl ?_
      refine jr_bipush (v := 9) C dX12_belongs_26 (by decide) ?_
      refine jr_icmp_ne (tgt := 45) C dX12_belongs_28 rfl (fun q28 => ?_) (fun q28 => ?_)
      · have hv := (if_neg q28).symm.trans hv
        refine jr_aload_n C dX12_belongs_45 rfl 0 rfl ?_
        refine jm_getA C K 6 (by decide) (by decide) kw_1441 rfl dX12_belongs_46 ?_
        refine jr_iload_n C dX12_belongs_49 rfl 1 rfl ?_
        by_cases z50 : inb v1 (mlA 6) = true
        case neg => exact op_none ((if_neg z50).symm.trans hv)
        have hv := (if_pos z50).symm.trans hv
        refine jm_iald C K z50 dX12_belongs_50 ?_
        refine jr_iconst (v := 4) C dX12_belongs_51 (by decide) ?_
        refine jr_icmp_ne (tgt := 59) C dX12_belongs_52 rfl (fun q52 => ?_) (fun q52 => ?_)
        · have hv := (if_neg q52).symm.trans hv
          exact jr_sub [] rfl (tX12_belongs_59 C K G  S hv)
        · have hv := (if_pos q52).symm.trans hv
          exact jr_sub [] rfl (tX12_belongs_55 C K G  S hv)
      · have hv := (if_pos q28).symm.trans hv
        refine jr_aload_n C dX12_belongs_31 rfl 0 rfl ?_
        refine jm_getA C K 6 (by decide) (by decide) kw_1441 rfl dX12_belongs_32 ?_
        refine jr_iload_n C dX12_belongs_35 rfl 1 rfl ?_
        by_cases z36 : inb v1 (mlA 6) = true
        case neg => exact op_none ((if_neg z36).symm.trans hv)
        have hv := (if_pos z36).symm.trans hv
        refine jm_iald C K z36 dX12_belongs_36 ?_
        refine jr_bipush (v := 12) C dX12_belongs_37 (by decide) ?_
        refine jr_icmp_ne (tgt := 59) C dX12_belongs_39 rfl (fun q39 => ?_) (fun q39 => ?_)
        · have hv := (if_neg q39).symm.trans hv
          exact jr_sub [] rfl (tX12_belongs_59 C K G  S hv)
        · have hv := (if_pos q39).symm.trans hv
          refine jr_goto (tgt := 55) C dX12_belongs_42 rfl ?_
          exact jr_sub [] rfl (tX12_belongs_55 C K G  S hv)
    · have hv := (if_pos q7).symm.trans hv
      refine jr_aload_n C dX12_belongs_10 rfl 0 rfl ?_
      refine jm_getA C K 6 (by decide) (by decide) kw_1441 rfl dX12_belongs_11 ?_
      refine jr_iload_n C dX12_belongs_14 rfl 1 rfl ?_
      by_cases z15 : inb v1 (mlA 6) = true
      case neg => exact op_none ((if_neg z15).symm.trans hv)
      have hv := (if_pos z15).symm.trans hv
      refine jm_iald C K z15 dX12_belongs_15 ?_
      refine jr_pcall (rest := []) C (pX12_isPose l (gA S 6 (ix v1))) oX12_isPose kw_1375 rfl ⟨Nat.le_of_ble_eq_true rfl, Nat.le_of_ble_eq_true rfl⟩ rfl (Nat.le_of_ble_eq_true rfl) ⟨Nat.zero_le _, Nat.zero_le _⟩ dX12_belongs_16 ?_
      refine jr_if_eq (tgt := 59) C dX12_belongs_19 rfl (fun q19 => ?_) (fun q19 => ?_)
      · have hv := (if_pos q19).symm.trans hv
        exact jr_sub [] rfl (tX12_belongs_59 C K G  S hv)
      · have hv := (if_neg q19).symm.trans hv
        refine jr_goto (tgt := 55) C dX12_belongs_22 rfl ?_
        exact jr_sub [] rfl (tX12_belongs_55 C K G  S hv)
theorem pX12_belongs (l : Launch) {g : MG} (G : mSep g) (S : MS) (v1 : Int32) (v2 : Int32) {w : Int32} {S' : MS} (hw : fX12_belongs S v1 v2 = some (w, S')) : mC l yX12_belongs cX12_belongs 3 (some .boolean) 1 g [.ref (mo g), .int v1, .int v2] S (some (.int w)) S' := mC_of (by decide +kernel) (Nat.le_of_ble_eq_true rfl) rfl (fun C K => tX12_belongs_0 C K G S v1 v2 hw)
/-! RobotCellModel.copies(IIIII)I -/
def fX12_copies_8 (S : MS) : Option (Int32 × MS) :=
  some (1, S)
def fX12_copies_83 (S : MS) : Option (Int32 × MS) :=
  some (5, S)
def fX12_copies_134 (S : MS) : Option (Int32 × MS) :=
  some (3, S)
def fX12_copies_252 (r157 : MS → Int32 → Int32 → Int32 → Int32 → Int32 → Int32 → Int32 → Option (Int32 × MS)) (S : MS) (v1 : Int32) (v2 : Int32) (v3 : Int32) (v4 : Int32) (v5 : Int32) (v7 : Int32) (v8 : Int32) : Option (Int32 × MS) :=
  r157 S v1 v2 v3 v4 v5 v7 v8
def fX12_copies_249 (r157 : MS → Int32 → Int32 → Int32 → Int32 → Int32 → Int32 → Int32 → Option (Int32 × MS)) (S : MS) (v1 : Int32) (v2 : Int32) (v3 : Int32) (v4 : Int32) (v5 : Int32) (v7 : Int32) (v8 : Int32) : Option (Int32 × MS) :=
  fX12_copies_252 r157 S v1 v2 v3 v4 v5 v7 (v8 + 1)
def fX12_copies_230 (r157 : MS → Int32 → Int32 → Int32 → Int32 → Int32 → Int32 → Int32 → Option (Int32 × MS)) (S : MS) (v1 : Int32) (v2 : Int32) (v3 : Int32) (v4 : Int32) (v5 : Int32) (v7 : Int32) (v8 : Int32) (v9 : Int32) (v10 : Int64) : Option (Int32 × MS) :=
  if inb v2 (mlA 8) = true then (if inb (((gA S 8 (ix v2)) + v4) + v9) (mlB 9) = true then fX12_copies_249 r157 (pB S 9 (ix (((gA S 8 (ix v2)) + v4) + v9)) v10) v1 v2 v3 v4 v5 v7 v8 else none) else none
def fX12_copies_201 (r157 : MS → Int32 → Int32 → Int32 → Int32 → Int32 → Int32 → Int32 → Option (Int32 × MS)) (S : MS) (v1 : Int32) (v2 : Int32) (v3 : Int32) (v4 : Int32) (v5 : Int32) (v7 : Int32) (v8 : Int32) (v9 : Int32) (v10 : Int64) : Option (Int32 × MS) :=
  if inb v2 (mlA 6) = true then (if (gA S 6 (ix v2)) < 8 then fX12_copies_230 r157 S v1 v2 v3 v4 v5 v7 v8 v9 v10 else (if inb v2 (mlA 6) = true then (Option.bind (fX12_belongs S v10.toInt32 (gA S 6 (ix v2))) (fun c222 => if c222.1 = 0 then some (5, c222.2) else fX12_copies_230 r157 c222.2 v1 v2 v3 v4 v5 v7 v8 v9 v10)) else none)) else none
def fX12_copies_181 (r157 : MS → Int32 → Int32 → Int32 → Int32 → Int32 → Int32 → Int32 → Option (Int32 × MS)) (S : MS) (v1 : Int32) (v2 : Int32) (v3 : Int32) (v4 : Int32) (v5 : Int32) (v7 : Int32) (v8 : Int32) (t0 : Int32) : Option (Int32 × MS) :=
  if inb v1 (mlA 8) = true then (if inb (((gA S 8 (ix v1)) + v3) + t0) (mlB 9) = true then fX12_copies_201 r157 S v1 v2 v3 v4 v5 v7 v8 t0 (gB S 9 (ix (((gA S 8 (ix v1)) + v3) + t0))) else none) else none
def fX12_copies_157  : Nat → MS → Int32 → Int32 → Int32 → Int32 → Int32 → Int32 → Int32 → Option (Int32 × MS)
  | 0, _, _, _, _, _, _, _, _ => none
  | q + 1, S, v1, v2, v3, v4, v5, v7, v8 => if v5 ≤ v8 then some (0, S) else (if v7 = 0 then fX12_copies_181 (fX12_copies_157  q) S v1 v2 v3 v4 v5 v7 v8 v8 else fX12_copies_181 (fX12_copies_157  q) S v1 v2 v3 v4 v5 v7 v8 ((v5 - 1) - v8))
def fX12_copies_152 (S : MS) (v1 : Int32) (v2 : Int32) (v3 : Int32) (v4 : Int32) (v5 : Int32) (t0 : Int32) : Option (Int32 × MS) :=
  fX12_copies_157 70 S v1 v2 v3 v4 v5 t0 0
def fX12_copies_151 (S : MS) (v1 : Int32) (v2 : Int32) (v3 : Int32) (v4 : Int32) (v5 : Int32) : Option (Int32 × MS) :=
  fX12_copies_152 S v1 v2 v3 v4 v5 0
def fX12_copies_52 (S : MS) (v1 : Int32) (v2 : Int32) (v3 : Int32) (v4 : Int32) (v5 : Int32) (t0 : Int32) : Option (Int32 × MS) :=
  if inb v1 (mlA 6) = true then (if (fX12_isRow (gA S 6 (ix v1))) = 0 then fX12_copies_83 S else (if inb v2 (mlA 6) = true then (if (fX12_isRow (gA S 6 (ix v2))) = 0 then fX12_copies_83 S else (if t0 = 0 then fX12_copies_83 S else (if v3 < 0 then fX12_copies_134 S else (if v4 < 0 then fX12_copies_134 S else (if v5 < 0 then fX12_copies_134 S else (if inb v1 (mlA 7) = true then (if ((gA S 7 (ix v1)).toInt64) < (v3.toInt64 + v5.toInt64) then fX12_copies_134 S else (if inb v2 (mlA 7) = true then (if (v4.toInt64 + v5.toInt64) ≤ ((gA S 7 (ix v2)).toInt64) then (if v1 = v2 then (if v4 ≤ v3 then fX12_copies_151 S v1 v2 v3 v4 v5 else fX12_copies_152 S v1 v2 v3 v4 v5 1) else fX12_copies_151 S v1 v2 v3 v4 v5) else fX12_copies_134 S) else none)) else none)))))) else none)) else none
def fX12_copies_47 (S : MS) (v1 : Int32) (v2 : Int32) (v3 : Int32) (v4 : Int32) (v5 : Int32) : Option (Int32 × MS) :=
  fX12_copies_52 S v1 v2 v3 v4 v5 1
def fX12_copies_51 (S : MS) (v1 : Int32) (v2 : Int32) (v3 : Int32) (v4 : Int32) (v5 : Int32) : Option (Int32 × MS) :=
  fX12_copies_52 S v1 v2 v3 v4 v5 0
def fX12_copies (S : MS) (v1 : Int32) (v2 : Int32) (v3 : Int32) (v4 : Int32) (v5 : Int32) : Option (Int32 × MS) :=
  if v1 = 0 then fX12_copies_8 S else (if v2 = 0 then fX12_copies_8 S else (if inb v1 (mlA 6) = true then (if inb v2 (mlA 6) = true then (if (gA S 6 (ix v1)) = (gA S 6 (ix v2)) then fX12_copies_47 S v1 v2 v3 v4 v5 else (if inb v1 (mlA 6) = true then (if (gA S 6 (ix v1)) < 8 then fX12_copies_51 S v1 v2 v3 v4 v5 else (if inb v2 (mlA 6) = true then (if (gA S 6 (ix v2)) < 8 then fX12_copies_51 S v1 v2 v3 v4 v5 else fX12_copies_47 S v1 v2 v3 v4 v5) else none)) else none)) else none) else none))
theorem oX12_copies : ok_v yX12_copies cX12_copies 12 (some .int) 5 := ⟨kw_1370, kw_1369, kw_60, kw_73, by decide +kernel⟩
set_option maxRecDepth 100000 in
theorem tX12_copies_8 {p : Program} {l : Launch} {e : Env} {s : State} {m : MethodId} {args : Array Value} {below : List Frame} {meth : Method} {c : Code} {g : MG} (C : CC p s m args meth c yX12_copies cX12_copies 12 (some .int)) (K : mK g s) (G : mSep g)  (S : MS) {w : Int32 × MS} (hv : fX12_copies_8 S = some w) : MJ p l e s m args below meth c 12 2 g (some (.int w.1)) w.2 8 [] [] S := by
  unfold fX12_copies_8 at hv
  refine jr_iconst (v := 1) C dX12_copies_8 (by decide) ?_
  exact jm_iret C K dX12_copies_9 (Option.some.inj hv)
set_option maxRecDepth 100000 in
theorem tX12_copies_83 {p : Program} {l : Launch} {e : Env} {s : State} {m : MethodId} {args : Array Value} {below : List Frame} {meth : Method} {c : Code} {g : MG} (C : CC p s m args meth c yX12_copies cX12_copies 12 (some .int)) (K : mK g s) (G : mSep g)  (S : MS) {w : Int32 × MS} (hv : fX12_copies_83 S = some w) : MJ p l e s m args below meth c 12 2 g (some (.int w.1)) w.2 83 [] [] S := by
  unfold fX12_copies_83 at hv
  refine jr_iconst (v := 5) C dX12_copies_83 (by decide) ?_
  exact jm_iret C K dX12_copies_84 (Option.some.inj hv)
set_option maxRecDepth 100000 in
theorem tX12_copies_134 {p : Program} {l : Launch} {e : Env} {s : State} {m : MethodId} {args : Array Value} {below : List Frame} {meth : Method} {c : Code} {g : MG} (C : CC p s m args meth c yX12_copies cX12_copies 12 (some .int)) (K : mK g s) (G : mSep g)  (S : MS) {w : Int32 × MS} (hv : fX12_copies_134 S = some w) : MJ p l e s m args below meth c 12 2 g (some (.int w.1)) w.2 134 [] [] S := by
  unfold fX12_copies_134 at hv
  refine jr_iconst (v := 3) C dX12_copies_134 (by decide) ?_
  exact jm_iret C K dX12_copies_135 (Option.some.inj hv)
set_option maxRecDepth 100000 in
theorem tX12_copies_252 {p : Program} {l : Launch} {e : Env} {s : State} {m : MethodId} {args : Array Value} {below : List Frame} {meth : Method} {c : Code} {g : MG} (C : CC p s m args meth c yX12_copies cX12_copies 12 (some .int)) (K : mK g s) (G : mSep g) (r157 : MS → Int32 → Int32 → Int32 → Int32 → Int32 → Int32 → Int32 → Option (Int32 × MS)) (h157 : ∀ (S : MS) (v1 : Int32) (v2 : Int32) (v3 : Int32) (v4 : Int32) (v5 : Int32) (v7 : Int32) (v8 : Int32) (w : Int32 × MS), r157 S v1 v2 v3 v4 v5 v7 v8 = some w → MJ p l e s m args below meth c 12 2 g (some (.int w.1)) w.2 157 [(0, .ref (mo g)), (1, .int v1), (2, .int v2), (3, .int v3), (4, .int v4), (5, .int v5), (7, .int v7), (8, .int v8)] [] S) (S : MS) (v1 : Int32) (v2 : Int32) (v3 : Int32) (v4 : Int32) (v5 : Int32) (v7 : Int32) (v8 : Int32) {w : Int32 × MS} (hv : fX12_copies_252 r157 S v1 v2 v3 v4 v5 v7 v8 = some w) : MJ p l e s m args below meth c 12 2 g (some (.int w.1)) w.2 252 [(0, .ref (mo g)), (1, .int v1), (2, .int v2), (3, .int v3), (4, .int v4), (5, .int v5), (7, .int v7), (8, .int v8)] [] S := by
  unfold fX12_copies_252 at hv
  refine jr_goto (tgt := 157) C dX12_copies_252 rfl ?_
  exact h157 S v1 v2 v3 v4 v5 v7 v8 _ hv
set_option maxRecDepth 100000 in
theorem tX12_copies_249 {p : Program} {l : Launch} {e : Env} {s : State} {m : MethodId} {args : Array Value} {below : List Frame} {meth : Method} {c : Code} {g : MG} (C : CC p s m args meth c yX12_copies cX12_copies 12 (some .int)) (K : mK g s) (G : mSep g) (r157 : MS → Int32 → Int32 → Int32 → Int32 → Int32 → Int32 → Int32 → Option (Int32 × MS)) (h157 : ∀ (S : MS) (v1 : Int32) (v2 : Int32) (v3 : Int32) (v4 : Int32) (v5 : Int32) (v7 : Int32) (v8 : Int32) (w : Int32 × MS), r157 S v1 v2 v3 v4 v5 v7 v8 = some w → MJ p l e s m args below meth c 12 2 g (some (.int w.1)) w.2 157 [(0, .ref (mo g)), (1, .int v1), (2, .int v2), (3, .int v3), (4, .int v4), (5, .int v5), (7, .int v7), (8, .int v8)] [] S) (S : MS) (v1 : Int32) (v2 : Int32) (v3 : Int32) (v4 : Int32) (v5 : Int32) (v7 : Int32) (v8 : Int32) {w : Int32 × MS} (hv : fX12_copies_249 r157 S v1 v2 v3 v4 v5 v7 v8 = some w) : MJ p l e s m args below meth c 12 2 g (some (.int w.1)) w.2 249 [(0, .ref (mo g)), (1, .int v1), (2, .int v2), (3, .int v3), (4, .int v4), (5, .int v5), (7, .int v7), (8, .int v8)] [] S := by
  unfold fX12_copies_249 at hv
  refine jr_iinc (v := (v8 + 1)) (lv' := [(8, .int (v8 + 1)), (0, .ref (mo g)), (1, .int v1), (2, .int v2), (3, .int v3), (4, .int v4), (5, .int v5), (7, .int v7)]) C dX12_copies_249 7 rfl rfl (by decide) rfl ?_
  exact jr_sub [1, 2, 3, 4, 5, 6, 7, 0] rfl (tX12_copies_252 C K G r157 h157 S v1 v2 v3 v4 v5 v7 (v8 + 1) hv)
set_option maxRecDepth 100000 in
theorem tX12_copies_230 {p : Program} {l : Launch} {e : Env} {s : State} {m : MethodId} {args : Array Value} {below : List Frame} {meth : Method} {c : Code} {g : MG} (C : CC p s m args meth c yX12_copies cX12_copies 12 (some .int)) (K : mK g s) (G : mSep g) (r157 : MS → Int32 → Int32 → Int32 → Int32 → Int32 → Int32 → Int32 → Option (Int32 × MS)) (h157 : ∀ (S : MS) (v1 : Int32) (v2 : Int32) (v3 : Int32) (v4 : Int32) (v5 : Int32) (v7 : Int32) (v8 : Int32) (w : Int32 × MS), r157 S v1 v2 v3 v4 v5 v7 v8 = some w → MJ p l e s m args below meth c 12 2 g (some (.int w.1)) w.2 157 [(0, .ref (mo g)), (1, .int v1), (2, .int v2), (3, .int v3), (4, .int v4), (5, .int v5), (7, .int v7), (8, .int v8)] [] S) (S : MS) (v1 : Int32) (v2 : Int32) (v3 : Int32) (v4 : Int32) (v5 : Int32) (v7 : Int32) (v8 : Int32) (v9 : Int32) (v10 : Int64) {w : Int32 × MS} (hv : fX12_copies_230 r157 S v1 v2 v3 v4 v5 v7 v8 v9 v10 = some w) : MJ p l e s m args below meth c 12 2 g (some (.int w.1)) w.2 230 [(0, .ref (mo g)), (1, .int v1), (2, .int v2), (3, .int v3), (4, .int v4), (5, .int v5), (7, .int v7), (8, .int v8), (9, .int v9), (10, .long v10)] [] S := by
  unfold fX12_copies_230 at hv
  refine jr_aload_n C dX12_copies_230 rfl 0 rfl ?_
  refine jm_getA C K 9 (by decide) (by decide) kw_1444 rfl dX12_copies_231 ?_
  refine jr_aload_n C dX12_copies_234 rfl 0 rfl ?_
  refine jm_getA C K 8 (by decide) (by decide) kw_1443 rfl dX12_copies_235 ?_
  refine jr_iload_n C dX12_copies_238 rfl 2 rfl ?_
  by_cases z239 : inb v2 (mlA 8) = true
  case neg => exact op_none ((if_neg z239).symm.trans hv)
  have hv := (if_pos z239).symm.trans hv
  refine jm_iald C K z239 dX12_copies_239 ?_
  refine jr_iload C dX12_copies_240 4 rfl ?_
  refine jr_iadd C dX12_copies_242 ?_
  refine jr_iload C dX12_copies_243 8 rfl ?_
  refine jr_iadd C dX12_copies_245 ?_
  refine jr_lload C dX12_copies_246 9 rfl ?_
  by_cases z248 : inb (((gA S 8 (ix v2)) + v4) + v9) (mlB 9) = true
  case neg => exact op_none ((if_neg z248).symm.trans hv)
  have hv := (if_pos z248).symm.trans hv
  refine jm_last C K G z248 dX12_copies_248 ?_
  exact jr_sub [0, 1, 2, 3, 4, 5, 6, 7] rfl (tX12_copies_249 C K G r157 h157 (pB S 9 (ix (((gA S 8 (ix v2)) + v4) + v9)) v10) v1 v2 v3 v4 v5 v7 v8 hv)
set_option maxRecDepth 100000 in
theorem tX12_copies_201 {p : Program} {l : Launch} {e : Env} {s : State} {m : MethodId} {args : Array Value} {below : List Frame} {meth : Method} {c : Code} {g : MG} (C : CC p s m args meth c yX12_copies cX12_copies 12 (some .int)) (K : mK g s) (G : mSep g) (r157 : MS → Int32 → Int32 → Int32 → Int32 → Int32 → Int32 → Int32 → Option (Int32 × MS)) (h157 : ∀ (S : MS) (v1 : Int32) (v2 : Int32) (v3 : Int32) (v4 : Int32) (v5 : Int32) (v7 : Int32) (v8 : Int32) (w : Int32 × MS), r157 S v1 v2 v3 v4 v5 v7 v8 = some w → MJ p l e s m args below meth c 12 2 g (some (.int w.1)) w.2 157 [(0, .ref (mo g)), (1, .int v1), (2, .int v2), (3, .int v3), (4, .int v4), (5, .int v5), (7, .int v7), (8, .int v8)] [] S) (S : MS) (v1 : Int32) (v2 : Int32) (v3 : Int32) (v4 : Int32) (v5 : Int32) (v7 : Int32) (v8 : Int32) (v9 : Int32) (v10 : Int64) {w : Int32 × MS} (hv : fX12_copies_201 r157 S v1 v2 v3 v4 v5 v7 v8 v9 v10 = some w) : MJ p l e s m args below meth c 12 2 g (some (.int w.1)) w.2 201 [(0, .ref (mo g)), (1, .int v1), (2, .int v2), (3, .int v3), (4, .int v4), (5, .int v5), (7, .int v7), (8, .int v8), (9, .int v9), (10, .long v10)] [] S := by
  unfold fX12_copies_201 at hv
  refine jr_aload_n C dX12_copies_201 rfl 0 rfl ?_
  refine jm_getA C K 6 (by decide) (by decide) kw_1441 rfl dX12_copies_202 ?_
  refine jr_iload_n C dX12_copies_205 rfl 2 rfl ?_
  by_cases z206 : inb v2 (mlA 6) = true
  case neg => exact op_none ((if_neg z206).symm.trans hv)
  have hv := (if_pos z206).symm.trans hv
  refine jm_iald C K z206 dX12_copies_206 ?_
  refine jr_bipush (v := 8) C dX12_copies_207 (by decide) ?_
  refine jr_icmp_lt (tgt := 230) C dX12_copies_209 rfl (fun q209 => ?_) (fun q209 => ?_)
  · have hv := (if_pos q209).symm.trans hv
    exact tX12_copies_230 C K G r157 h157 S v1 v2 v3 v4 v5 v7 v8 v9 v10 hv
  · have hv := (if_neg q209).symm.trans hv
    refine jr_aload_n C dX12_copies_212 rfl 0 rfl ?_
    refine jr_lload C dX12_copies_213 9 rfl ?_
    refine jr_l2i C dX12_copies_215 ?_
    refine jr_aload_n C dX12_copies_216 rfl 0 rfl ?_
    refine jm_getA C K 6 (by decide) (by decide) kw_1441 rfl dX12_copies_217 ?_
    refine jr_iload_n C dX12_copies_220 rfl 2 rfl ?_
    by_cases z221 : inb v2 (mlA 6) = true
    case neg => exact op_none ((if_neg z221).symm.trans hv)
    have hv := (if_pos z221).symm.trans hv
    refine jm_iald C K z221 dX12_copies_221 ?_
    obtain ⟨c222, hc222, hv⟩ := Option.bind_eq_some_iff.mp hv
    refine jm_call (rest := []) C K G (pX12_belongs l G S v10.toInt32 (gA S 6 (ix v2)) hc222) oX12_belongs rfl kw_1371 rfl ⟨Nat.le_of_ble_eq_true rfl, Nat.le_of_ble_eq_true rfl⟩ rfl (Nat.le_of_ble_eq_true rfl) ⟨Nat.zero_le _, Nat.zero_le _⟩ dX12_copies_222 ?_
    refine jr_if_ne (tgt := 230) C dX12_copies_225 rfl (fun q225 => ?_) (fun q225 => ?_)
    · have hv := (if_neg q225).symm.trans hv
      exact tX12_copies_230 C K G r157 h157 c222.2 v1 v2 v3 v4 v5 v7 v8 v9 v10 hv
    · have hv := (if_pos q225).symm.trans hv
      refine jr_iconst (v := 5) C dX12_copies_228 (by decide) ?_
      exact jm_iret C K dX12_copies_229 (Option.some.inj hv)
set_option maxRecDepth 100000 in
theorem tX12_copies_181 {p : Program} {l : Launch} {e : Env} {s : State} {m : MethodId} {args : Array Value} {below : List Frame} {meth : Method} {c : Code} {g : MG} (C : CC p s m args meth c yX12_copies cX12_copies 12 (some .int)) (K : mK g s) (G : mSep g) (r157 : MS → Int32 → Int32 → Int32 → Int32 → Int32 → Int32 → Int32 → Option (Int32 × MS)) (h157 : ∀ (S : MS) (v1 : Int32) (v2 : Int32) (v3 : Int32) (v4 : Int32) (v5 : Int32) (v7 : Int32) (v8 : Int32) (w : Int32 × MS), r157 S v1 v2 v3 v4 v5 v7 v8 = some w → MJ p l e s m args below meth c 12 2 g (some (.int w.1)) w.2 157 [(0, .ref (mo g)), (1, .int v1), (2, .int v2), (3, .int v3), (4, .int v4), (5, .int v5), (7, .int v7), (8, .int v8)] [] S) (S : MS) (v1 : Int32) (v2 : Int32) (v3 : Int32) (v4 : Int32) (v5 : Int32) (v7 : Int32) (v8 : Int32) (t0 : Int32) {w : Int32 × MS} (hv : fX12_copies_181 r157 S v1 v2 v3 v4 v5 v7 v8 t0 = some w) : MJ p l e s m args below meth c 12 2 g (some (.int w.1)) w.2 181 [(0, .ref (mo g)), (1, .int v1), (2, .int v2), (3, .int v3), (4, .int v4), (5, .int v5), (7, .int v7), (8, .int v8)] [.int t0] S := by
  unfold fX12_copies_181 at hv
  refine jr_istore (lv' := [(9, .int t0), (0, .ref (mo g)), (1, .int v1), (2, .int v2), (3, .int v3), (4, .int v4), (5, .int v5), (7, .int v7), (8, .int v8)]) C dX12_copies_181 (by decide) rfl ?_
  refine jr_aload_n C dX12_copies_183 rfl 1 rfl ?_
  refine jm_getA C K 9 (by decide) (by decide) kw_1444 rfl dX12_copies_184 ?_
  refine jr_aload_n C dX12_copies_187 rfl 1 rfl ?_
  refine jm_getA C K 8 (by decide) (by decide) kw_1443 rfl dX12_copies_188 ?_
  refine jr_iload_n C dX12_copies_191 rfl 2 rfl ?_
  by_cases z192 : inb v1 (mlA 8) = true
  case neg => exact op_none ((if_neg z192).symm.trans hv)
  have hv := (if_pos z192).symm.trans hv
  refine jm_iald C K z192 dX12_copies_192 ?_
  refine jr_iload_n C dX12_copies_193 rfl 4 rfl ?_
  refine jr_iadd C dX12_copies_194 ?_
  refine jr_iload C dX12_copies_195 0 rfl ?_
  refine jr_iadd C dX12_copies_197 ?_
  by_cases z198 : inb (((gA S 8 (ix v1)) + v3) + t0) (mlB 9) = true
  case neg => exact op_none ((if_neg z198).symm.trans hv)
  have hv := (if_pos z198).symm.trans hv
  refine jm_lald C K z198 dX12_copies_198 ?_
  refine jr_lstore (lv' := [(10, .long (gB S 9 (ix (((gA S 8 (ix v1)) + v3) + t0)))), (9, .int t0), (0, .ref (mo g)), (1, .int v1), (2, .int v2), (3, .int v3), (4, .int v4), (5, .int v5), (7, .int v7), (8, .int v8)]) C dX12_copies_199 (by decide) rfl ?_
  exact jr_sub [2, 3, 4, 5, 6, 7, 8, 9, 1, 0] rfl (tX12_copies_201 C K G r157 h157 S v1 v2 v3 v4 v5 v7 v8 t0 (gB S 9 (ix (((gA S 8 (ix v1)) + v3) + t0))) hv)
set_option maxRecDepth 100000 in
theorem tX12_copies_157 {p : Program} {l : Launch} {e : Env} {s : State} {m : MethodId} {args : Array Value} {below : List Frame} {meth : Method} {c : Code} {g : MG} (C : CC p s m args meth c yX12_copies cX12_copies 12 (some .int)) (K : mK g s) (G : mSep g)  : ∀ (q : Nat) (S : MS) (v1 : Int32) (v2 : Int32) (v3 : Int32) (v4 : Int32) (v5 : Int32) (v7 : Int32) (v8 : Int32) (w : Int32 × MS), fX12_copies_157  q S v1 v2 v3 v4 v5 v7 v8 = some w → MJ p l e s m args below meth c 12 2 g (some (.int w.1)) w.2 157 [(0, .ref (mo g)), (1, .int v1), (2, .int v2), (3, .int v3), (4, .int v4), (5, .int v5), (7, .int v7), (8, .int v8)] [] S := by
  intro q
  induction q with
  | zero => intro S v1 v2 v3 v4 v5 v7 v8 w hv; exact absurd hv (by simp [fX12_copies_157])
  | succ q ih =>
    intro S v1 v2 v3 v4 v5 v7 v8 w hv
    unfold fX12_copies_157 at hv
    refine jr_iload C dX12_copies_157 7 rfl ?_
    refine jr_iload C dX12_copies_159 5 rfl ?_
    refine jr_icmp_ge (tgt := 255) C dX12_copies_161 rfl (fun q161 => ?_) (fun q161 => ?_)
    · have hv := (if_pos q161).symm.trans hv
      refine jr_iconst (v := 0) C dX12_copies_255 (by decide) ?_
      exact jm_iret C K dX12_copies_256 (Option.some.inj hv)
    · have hv := (if_neg q161).symm.trans hv
      refine jr_iload C dX12_copies_164 6 rfl ?_
      refine jr_if_eq (tgt := 179) C dX12_copies_166 rfl (fun q166 => ?_) (fun q166 => ?_)
      · have hv := (if_pos q166).symm.trans hv
        refine jr_iload C dX12_copies_179 7 rfl ?_
        exact tX12_copies_181 C K G (fX12_copies_157  q) ih S v1 v2 v3 v4 v5 v7 v8 v8 hv
      · have hv := (if_neg q166).symm.trans hv
        refine jr_iload C dX12_copies_169 5 rfl ?_
        refine jr_iconst (v := 1) C dX12_copies_171 (by decide) ?_
        refine jr_isub C dX12_copies_172 ?_
        refine jr_iload C dX12_copies_173 7 rfl ?_
        refine jr_isub C dX12_copies_175 ?_
        refine jr_goto (tgt := 181) C dX12_copies_176 rfl ?_
        exact tX12_copies_181 C K G (fX12_copies_157  q) ih S v1 v2 v3 v4 v5 v7 v8 ((v5 - 1) - v8) hv
set_option maxRecDepth 100000 in
theorem tX12_copies_152 {p : Program} {l : Launch} {e : Env} {s : State} {m : MethodId} {args : Array Value} {below : List Frame} {meth : Method} {c : Code} {g : MG} (C : CC p s m args meth c yX12_copies cX12_copies 12 (some .int)) (K : mK g s) (G : mSep g)  (S : MS) (v1 : Int32) (v2 : Int32) (v3 : Int32) (v4 : Int32) (v5 : Int32) (t0 : Int32) {w : Int32 × MS} (hv : fX12_copies_152 S v1 v2 v3 v4 v5 t0 = some w) : MJ p l e s m args below meth c 12 2 g (some (.int w.1)) w.2 152 [(0, .ref (mo g)), (1, .int v1), (2, .int v2), (3, .int v3), (4, .int v4), (5, .int v5)] [.int t0] S := by
  unfold fX12_copies_152 at hv
  refine jr_istore (lv' := [(7, .int t0), (0, .ref (mo g)), (1, .int v1), (2, .int v2), (3, .int v3), (4, .int v4), (5, .int v5)]) C dX12_copies_152 (by decide) rfl ?_
  refine jr_iconst (v := 0) C dX12_copies_154 (by decide) ?_
  refine jr_istore (lv' := [(8, .int 0), (7, .int t0), (0, .ref (mo g)), (1, .int v1), (2, .int v2), (3, .int v3), (4, .int v4), (5, .int v5)]) C dX12_copies_155 (by decide) rfl ?_
  exact jr_sub [2, 3, 4, 5, 6, 7, 1, 0] rfl (tX12_copies_157 C K G  70 S v1 v2 v3 v4 v5 t0 0 _ hv)
set_option maxRecDepth 100000 in
theorem tX12_copies_151 {p : Program} {l : Launch} {e : Env} {s : State} {m : MethodId} {args : Array Value} {below : List Frame} {meth : Method} {c : Code} {g : MG} (C : CC p s m args meth c yX12_copies cX12_copies 12 (some .int)) (K : mK g s) (G : mSep g)  (S : MS) (v1 : Int32) (v2 : Int32) (v3 : Int32) (v4 : Int32) (v5 : Int32) {w : Int32 × MS} (hv : fX12_copies_151 S v1 v2 v3 v4 v5 = some w) : MJ p l e s m args below meth c 12 2 g (some (.int w.1)) w.2 151 [(0, .ref (mo g)), (1, .int v1), (2, .int v2), (3, .int v3), (4, .int v4), (5, .int v5)] [] S := by
  unfold fX12_copies_151 at hv
  refine jr_iconst (v := 0) C dX12_copies_151 (by decide) ?_
  exact tX12_copies_152 C K G  S v1 v2 v3 v4 v5 0 hv
set_option maxRecDepth 100000 in
theorem tX12_copies_52 {p : Program} {l : Launch} {e : Env} {s : State} {m : MethodId} {args : Array Value} {below : List Frame} {meth : Method} {c : Code} {g : MG} (C : CC p s m args meth c yX12_copies cX12_copies 12 (some .int)) (K : mK g s) (G : mSep g)  (S : MS) (v1 : Int32) (v2 : Int32) (v3 : Int32) (v4 : Int32) (v5 : Int32) (t0 : Int32) {w : Int32 × MS} (hv : fX12_copies_52 S v1 v2 v3 v4 v5 t0 = some w) : MJ p l e s m args below meth c 12 2 g (some (.int w.1)) w.2 52 [(0, .ref (mo g)), (1, .int v1), (2, .int v2), (3, .int v3), (4, .int v4), (5, .int v5)] [.int t0] S := by
  unfold fX12_copies_52 at hv
  refine jr_istore (lv' := [(6, .int t0), (0, .ref (mo g)), (1, .int v1), (2, .int v2), (3, .int v3), (4, .int v4), (5, .int v5)]) C dX12_copies_52 (by decide) rfl ?_
  refine jr_aload_n C dX12_copies_54 rfl 1 rfl ?_
  refine jm_getA C K 6 (by decide) (by decide) kw_1441 rfl dX12_copies_55 ?_
  refine jr_iload_n C dX12_copies_58 rfl 2 rfl ?_
  by_cases z59 : inb v1 (mlA 6) = true
  case neg => exact op_none ((if_neg z59).symm.trans hv)
  have hv := (if_pos z59).symm.trans hv
  refine jm_iald C K z59 dX12_copies_59 ?_
  refine jr_pcall (rest := []) C (pX12_isRow l (gA S 6 (ix v1))) oX12_isRow kw_1364 rfl ⟨Nat.le_of_ble_eq_true rfl, Nat.le_of_ble_eq_true rfl⟩ rfl (Nat.le_of_ble_eq_true rfl) ⟨Nat.zero_le _, Nat.zero_le _⟩ dX12_copies_60 ?_
  refine jr_if_eq (tgt := 83) C dX12_copies_63 rfl (fun q63 => ?_) (fun q63 => ?_)
  · have hv := (if_pos q63).symm.trans hv
    exact jr_sub [] rfl (tX12_copies_83 C K G  S hv)
  · have hv := (if_neg q63).symm.trans hv
    refine jr_aload_n C dX12_copies_66 rfl 1 rfl ?_
    refine jm_getA C K 6 (by decide) (by decide) kw_1441 rfl dX12_copies_67 ?_
    refine jr_iload_n C dX12_copies_70 rfl 3 rfl ?_
    by_cases z71 : inb v2 (mlA 6) = true
    case neg => exact op_none ((if_neg z71).symm.trans hv)
    have hv := (if_pos z71).symm.trans hv
    refine jm_iald C K z71 dX12_copies_71 ?_
    refine jr_pcall (rest := []) C (pX12_isRow l (gA S 6 (ix v2))) oX12_isRow kw_1364 rfl ⟨Nat.le_of_ble_eq_true rfl, Nat.le_of_ble_eq_true rfl⟩ rfl (Nat.le_of_ble_eq_true rfl) ⟨Nat.zero_le _, Nat.zero_le _⟩ dX12_copies_72 ?_
    refine jr_if_eq (tgt := 83) C dX12_copies_75 rfl (fun q75 => ?_) (fun q75 => ?_)
    · have hv := (if_pos q75).symm.trans hv
      exact jr_sub [] rfl (tX12_copies_83 C K G  S hv)
    · have hv := (if_neg q75).symm.trans hv
      refine jr_iload C dX12_copies_78 0 rfl ?_
      refine jr_if_ne (tgt := 85) C dX12_copies_80 rfl (fun q80 => ?_) (fun q80 => ?_)
      · have hv := (if_neg q80).symm.trans hv
        refine jr_iload_n C dX12_copies_85 rfl 4 rfl ?_
        refine jr_if_lt (tgt := 134) C dX12_copies_86 rfl (fun q86 => ?_) (fun q86 => ?_)
        · have hv := (if_pos q86).symm.trans hv
          exact jr_sub [] rfl (tX12_copies_134 C K G  S hv)
        · have hv := (if_neg q86).symm.trans hv
          refine jr_iload C dX12_copies_89 5 rfl ?_
          refine jr_if_lt (tgt := 134) C dX12_copies_91 rfl (fun q91 => ?_) (fun q91 => ?_)
          · have hv := (if_pos q91).symm.trans hv
            exact jr_sub [] rfl (tX12_copies_134 C K G  S hv)
          · have hv := (if_neg q91).symm.trans hv
            refine jr_iload C dX12_copies_94 6 rfl ?_
            refine jr_if_lt (tgt := 134) C dX12_copies_96 rfl (fun q96 => ?_) (fun q96 => ?_)
            · have hv := (if_pos q96).symm.trans hv
              exact jr_sub [] rfl (tX12_copies_134 C K G  S hv)
            · have hv := (if_neg q96).symm.trans hv
              refine jr_iload_n C dX12_copies_99 rfl 4 rfl ?_
              refine jr_i2l C dX12_copies_100 ?_
              refine jr_iload C dX12_copies_101 6 rfl ?_
              refine jr_i2l C dX12_copies_103 ?_
              refine jr_ladd C dX12_copies_104 ?_
              refine jr_aload_n C dX12_copies_105 rfl 1 rfl ?_
              refine jm_getA C K 7 (by decide) (by decide) kw_1442 rfl dX12_copies_106 ?_
              refine jr_iload_n C dX12_copies_109 rfl 2 rfl ?_
              by_cases z110 : inb v1 (mlA 7) = true
              case neg => exact op_none ((if_neg z110).symm.trans hv)
              have hv := (if_pos z110).symm.trans hv
              refine jm_iald C K z110 dX12_copies_110 ?_
              refine jr_i2l C dX12_copies_111 ?_
              refine jr_lcmp_gt (tgt := 134) C dX12_copies_112 dX12_copies_113 rfl (fun q112 => ?_) (fun q112 => ?_)
              · have hv := (if_pos q112).symm.trans hv
                exact jr_sub [] rfl (tX12_copies_134 C K G  S hv)
              · have hv := (if_neg q112).symm.trans hv
                refine jr_iload C dX12_copies_116 5 rfl ?_
                refine jr_i2l C dX12_copies_118 ?_
                refine jr_iload C dX12_copies_119 6 rfl ?_
                refine jr_i2l C dX12_copies_121 ?_
                refine jr_ladd C dX12_copies_122 ?_
                refine jr_aload_n C dX12_copies_123 rfl 1 rfl ?_
                refine jm_getA C K 7 (by decide) (by decide) kw_1442 rfl dX12_copies_124 ?_
                refine jr_iload_n C dX12_copies_127 rfl 3 rfl ?_
                by_cases z128 : inb v2 (mlA 7) = true
                case neg => exact op_none ((if_neg z128).symm.trans hv)
                have hv := (if_pos z128).symm.trans hv
                refine jm_iald C K z128 dX12_copies_128 ?_
                refine jr_i2l C dX12_copies_129 ?_
                refine jr_lcmp_le (tgt := 136) C dX12_copies_130 dX12_copies_131 rfl (fun q130 => ?_) (fun q130 => ?_)
                · have hv := (if_pos q130).symm.trans hv
                  refine jr_iload_n C dX12_copies_136 rfl 2 rfl ?_
                  refine jr_iload_n C dX12_copies_137 rfl 3 rfl ?_
                  refine jr_icmp_ne (tgt := 151) C dX12_copies_138 rfl (fun q138 => ?_) (fun q138 => ?_)
                  · have hv := (if_neg q138).symm.trans hv
                    exact jr_sub [1, 2, 3, 4, 5, 6] rfl (tX12_copies_151 C K G  S v1 v2 v3 v4 v5 hv)
                  · have hv := (if_pos q138).symm.trans hv
                    refine jr_iload_n C dX12_copies_141 rfl 4 rfl ?_
                    refine jr_iload C dX12_copies_142 5 rfl ?_
                    refine jr_icmp_ge (tgt := 151) C dX12_copies_144 rfl (fun q144 => ?_) (fun q144 => ?_)
                    · have hv := (if_pos q144).symm.trans hv
                      exact jr_sub [1, 2, 3, 4, 5, 6] rfl (tX12_copies_151 C K G  S v1 v2 v3 v4 v5 hv)
                    · have hv := (if_neg q144).symm.trans hv
                      refine jr_iconst (v := 1) C dX12_copies_147 (by decide) ?_
                      refine jr_goto (tgt := 152) C dX12_copies_148 rfl ?_
                      exact jr_sub [1, 2, 3, 4, 5, 6] rfl (tX12_copies_152 C K G  S v1 v2 v3 v4 v5 1 hv)
                · have hv := (if_neg q130).symm.trans hv
                  exact jr_sub [] rfl (tX12_copies_134 C K G  S hv)
      · have hv := (if_pos q80).symm.trans hv
        exact jr_sub [] rfl (tX12_copies_83 C K G  S hv)
set_option maxRecDepth 100000 in
theorem tX12_copies_47 {p : Program} {l : Launch} {e : Env} {s : State} {m : MethodId} {args : Array Value} {below : List Frame} {meth : Method} {c : Code} {g : MG} (C : CC p s m args meth c yX12_copies cX12_copies 12 (some .int)) (K : mK g s) (G : mSep g)  (S : MS) (v1 : Int32) (v2 : Int32) (v3 : Int32) (v4 : Int32) (v5 : Int32) {w : Int32 × MS} (hv : fX12_copies_47 S v1 v2 v3 v4 v5 = some w) : MJ p l e s m args below meth c 12 2 g (some (.int w.1)) w.2 47 [(0, .ref (mo g)), (1, .int v1), (2, .int v2), (3, .int v3), (4, .int v4), (5, .int v5)] [] S := by
  unfold fX12_copies_47 at hv
  refine jr_iconst (v := 1) C dX12_copies_47 (by decide) ?_
  refine jr_goto (tgt := 52) C dX12_copies_48 rfl ?_
  exact tX12_copies_52 C K G  S v1 v2 v3 v4 v5 1 hv
set_option maxRecDepth 100000 in
theorem tX12_copies_51 {p : Program} {l : Launch} {e : Env} {s : State} {m : MethodId} {args : Array Value} {below : List Frame} {meth : Method} {c : Code} {g : MG} (C : CC p s m args meth c yX12_copies cX12_copies 12 (some .int)) (K : mK g s) (G : mSep g)  (S : MS) (v1 : Int32) (v2 : Int32) (v3 : Int32) (v4 : Int32) (v5 : Int32) {w : Int32 × MS} (hv : fX12_copies_51 S v1 v2 v3 v4 v5 = some w) : MJ p l e s m args below meth c 12 2 g (some (.int w.1)) w.2 51 [(0, .ref (mo g)), (1, .int v1), (2, .int v2), (3, .int v3), (4, .int v4), (5, .int v5)] [] S := by
  unfold fX12_copies_51 at hv
  refine jr_iconst (v := 0) C dX12_copies_51 (by decide) ?_
  exact tX12_copies_52 C K G  S v1 v2 v3 v4 v5 0 hv
set_option maxRecDepth 100000 in
theorem tX12_copies_0 {p : Program} {l : Launch} {e : Env} {s : State} {m : MethodId} {args : Array Value} {below : List Frame} {meth : Method} {c : Code} {g : MG} (C : CC p s m args meth c yX12_copies cX12_copies 12 (some .int)) (K : mK g s) (G : mSep g)  (S : MS) (v1 : Int32) (v2 : Int32) (v3 : Int32) (v4 : Int32) (v5 : Int32) {w : Int32 × MS} (hv : fX12_copies S v1 v2 v3 v4 v5 = some w) : MJ p l e s m args below meth c 12 2 g (some (.int w.1)) w.2 0 [(0, .ref (mo g)), (1, .int v1), (2, .int v2), (3, .int v3), (4, .int v4), (5, .int v5)] [] S := by
  unfold fX12_copies at hv
  refine jr_iload_n C dX12_copies_0 rfl 1 rfl ?_
  refine jr_if_eq (tgt := 8) C dX12_copies_1 rfl (fun q1 => ?_) (fun q1 => ?_)
  · have hv := (if_pos q1).symm.trans hv
    exact jr_sub [] rfl (tX12_copies_8 C K G  S hv)
  · have hv := (if_neg q1).symm.trans hv
    refine jr_iload_n C dX12_copies_4 rfl 2 rfl ?_
    refine jr_if_ne (tgt := 10) C dX12_copies_5 rfl (fun q5 => ?_) (fun q5 => ?_)
    · have hv := (if_neg q5).symm.trans hv
      refine jr_aload_n C dX12_copies_10 rfl 0 rfl ?_
      refine jm_getA C K 6 (by decide) (by decide) kw_1441 rfl dX12_copies_11 ?_
      refine jr_iload_n C dX12_copies_14 rfl 1 rfl ?_
      by_cases z15 : inb v1 (mlA 6) = true
      case neg => exact op_none ((if_neg z15).symm.trans hv)
      have hv := (if_pos z15).symm.trans hv
      refine jm_iald C K z15 dX12_copies_15 ?_
      refine jr_aload_n C dX12_copies_16 rfl 0 rfl ?_
      refine jm_getA C K 6 (by decide) (by decide) kw_1441 rfl dX12_copies_17 ?_
      refine jr_iload_n C dX12_copies_20 rfl 2 rfl ?_
      by_cases z21 : inb v2 (mlA 6) = true
      case neg => exact op_none ((if_neg z21).symm.trans hv)
      have hv := (if_pos z21).symm.trans hv
      refine jm_iald C K z21 dX12_copies_21 ?_
      refine jr_icmp_eq (tgt := 47) C dX12_copies_22 rfl (fun q22 => ?_) (fun q22 => ?_)
      · have hv := (if_pos q22).symm.trans hv
        exact tX12_copies_47 C K G  S v1 v2 v3 v4 v5 hv
      · have hv := (if_neg q22).symm.trans hv
        refine jr_aload_n C dX12_copies_25 rfl 0 rfl ?_
        refine jm_getA C K 6 (by decide) (by decide) kw_1441 rfl dX12_copies_26 ?_
        refine jr_iload_n C dX12_copies_29 rfl 1 rfl ?_
        by_cases z30 : inb v1 (mlA 6) = true
        case neg => exact op_none ((if_neg z30).symm.trans hv)
        have hv := (if_pos z30).symm.trans hv
        refine jm_iald C K z30 dX12_copies_30 ?_
        refine jr_bipush (v := 8) C dX12_copies_31 (by decide) ?_
        refine jr_icmp_lt (tgt := 51) C dX12_copies_33 rfl (fun q33 => ?_) (fun q33 => ?_)
        · have hv := (if_pos q33).symm.trans hv
          exact tX12_copies_51 C K G  S v1 v2 v3 v4 v5 hv
        · have hv := (if_neg q33).symm.trans hv
          refine jr_aload_n C dX12_copies_36 rfl 0 rfl ?_
          refine jm_getA C K 6 (by decide) (by decide) kw_1441 rfl dX12_copies_37 ?_
          refine jr_iload_n C dX12_copies_40 rfl 2 rfl ?_
          by_cases z41 : inb v2 (mlA 6) = true
          case neg => exact op_none ((if_neg z41).symm.trans hv)
          have hv := (if_pos z41).symm.trans hv
          refine jm_iald C K z41 dX12_copies_41 ?_
          refine jr_bipush (v := 8) C dX12_copies_42 (by decide) ?_
          refine jr_icmp_lt (tgt := 51) C dX12_copies_44 rfl (fun q44 => ?_) (fun q44 => ?_)
          · have hv := (if_pos q44).symm.trans hv
            exact tX12_copies_51 C K G  S v1 v2 v3 v4 v5 hv
          · have hv := (if_neg q44).symm.trans hv
            exact tX12_copies_47 C K G  S v1 v2 v3 v4 v5 hv
    · have hv := (if_pos q5).symm.trans hv
      exact jr_sub [] rfl (tX12_copies_8 C K G  S hv)
theorem pX12_copies (l : Launch) {g : MG} (G : mSep g) (S : MS) (v1 : Int32) (v2 : Int32) (v3 : Int32) (v4 : Int32) (v5 : Int32) {w : Int32} {S' : MS} (hw : fX12_copies S v1 v2 v3 v4 v5 = some (w, S')) : mC l yX12_copies cX12_copies 12 (some .int) 2 g [.ref (mo g), .int v1, .int v2, .int v3, .int v4, .int v5] S (some (.int w)) S' := mC_of (by decide +kernel) (Nat.le_of_ble_eq_true rfl) rfl (fun C K => tX12_copies_0 C K G S v1 v2 v3 v4 v5 hw)
