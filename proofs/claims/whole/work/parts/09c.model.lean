/-! RobotCellModel.devices(IIII)I -/
def fX12_devices_426 (S : MS) : Option (Int32 × MS) :=
  some (0, S)
def fX12_devices_405 (S : MS) : Option (Int32 × MS) :=
  fX12_devices_426 S
def fX12_devices_390 (S : MS) (v6 : Int32) (v8 : Int32) : Option (Int32 × MS) :=
  if v6 = 15 then (if inb v8 (mlB 13) = true then fX12_devices_405 (pB S 13 (ix v8) 0) else none) else fX12_devices_426 S
def fX12_devices_372 (S : MS) (v6 : Int32) (v8 : Int32) : Option (Int32 × MS) :=
  if v6 = 14 then (if inb v8 (mlA 18) = true then (if inb v8 (mlA 18) = true then fX12_devices_390 (pA S 18 (ix v8) ((gA S 18 (ix v8)) + 1)) v6 v8 else none) else none) else fX12_devices_390 S v6 v8
def fX12_devices_355 (S : MS) : Option (Int32 × MS) :=
  fX12_devices_426 S
def fX12_devices_354 (S : MS) (t0 : Nat) (t1 : Int32) (t2 : Int64) : Option (Int32 × MS) :=
  if inb t1 (mlB t0) = true then fX12_devices_355 (pB S t0 (ix t1) t2) else none
def fX12_devices_351 (S : MS) (t0 : Nat) (t1 : Int32) (t2 : Int64) : Option (Int32 × MS) :=
  Option.bind (fX12_number t2) (fun c351 => fX12_devices_354 S t0 t1 c351)
def fX12_devices_249 (S : MS) (v2 : Int32) (v6 : Int32) (v8 : Int32) (v9 : Int32) : Option (Int32 × MS) :=
  if v9 = 0 then (if inb v8 (mlB 12) = true then fX12_devices_354 S 4 (v2 &&& 15) (gB S 12 (ix v8)) else none) else (if v9 = 3 then (if inb v8 (mlB 13) = true then fX12_devices_354 S 4 (v2 &&& 15) (gB S 13 (ix v8)) else none) else (if v9 = 1 then fX12_devices_351 S 4 (v2 &&& 15) ((fX12_spanOf v6).toInt64) else (if v9 = 2 then fX12_devices_351 S 4 (v2 &&& 15) ((fX12_rankOf v6).toInt64) else (if v9 = 4 then (if inb v8 (mlA 18) = true then fX12_devices_351 S 4 (v2 &&& 15) ((gA S 18 (ix v8)).toInt64) else none) else (if v9 = 5 then fX12_devices_351 S 4 (v2 &&& 15) ((fX12_speedOf v6).toInt64) else fX12_devices_351 S 4 (v2 &&& 15) 0)))))
def fX12_devices_209 (S : MS) (v1 : Int32) (v2 : Int32) (v3 : Int32) (v4 : Int32) (v6 : Int32) (v8 : Int32) : Option (Int32 × MS) :=
  if v1 = 89 then (if inb (v4 &&& 15) (mlB 4) = true then (Option.bind (fX12_goes S v8 (v2 &&& 15) (gB S 4 (ix (v4 &&& 15)))) (fun c232 => some (c232.1, c232.2))) else none) else (if v1 = 90 then fX12_devices_249 S v2 v6 v8 (v4 &&& 7) else (if v1 = 91 then (if inb v8 (mlB 12) = true then fX12_devices_372 (pB S 12 (ix v8) 0) v6 v8 else none) else (if inb (v3 &&& 15) (mlB 4) = true then (Option.bind (fX12_small (gB S 4 (ix (v3 &&& 15)))) (fun c420 => Option.bind (fX12_senses S v8 c420) (fun c423 => fX12_devices_426 c423))) else none)))
def fX12_devices_189 (S : MS) (v1 : Int32) (v2 : Int32) (v3 : Int32) (v4 : Int32) (v5 : Int32) (v6 : Int32) : Option (Int32 × MS) :=
  if v6 = (-1) then some (1, S) else (if inb (v5 &&& 15) (mlA 5) = true then fX12_devices_209 S v1 v2 v3 v4 v6 (gA S 5 (ix (v5 &&& 15))) else none)
def fX12_devices_174 (S : MS) (v1 : Int32) (v2 : Int32) (v3 : Int32) (v4 : Int32) (v5 : Int32) (v6 : Int32) (t0 : Int32) : Option (Int32 × MS) :=
  if v6 = (-1) then fX12_devices_189 S v1 v2 v3 v4 v5 v6 else (if t0 = 0 then some (2, S) else fX12_devices_189 S v1 v2 v3 v4 v5 v6)
def fX12_devices_144 (S : MS) (v1 : Int32) (v2 : Int32) (v3 : Int32) (v4 : Int32) (v5 : Int32) (v6 : Int32) : Option (Int32 × MS) :=
  fX12_devices_174 S v1 v2 v3 v4 v5 v6 0
def fX12_devices_110 (S : MS) (v1 : Int32) (v2 : Int32) (v3 : Int32) (v4 : Int32) (t0 : Int32) : Option (Int32 × MS) :=
  Option.bind (fX12_kindOf S t0) (fun c115 => if v1 = 91 then (if c115.1 < 13 then fX12_devices_144 c115.2 v1 v2 v3 v4 t0 c115.1 else (if 15 < c115.1 then fX12_devices_144 c115.2 v1 v2 v3 v4 t0 c115.1 else fX12_devices_174 c115.2 v1 v2 v3 v4 t0 c115.1 1)) else (if v1 = 92 then (if c115.1 = 16 then fX12_devices_174 c115.2 v1 v2 v3 v4 t0 c115.1 1 else fX12_devices_174 c115.2 v1 v2 v3 v4 t0 c115.1 0) else fX12_devices_174 c115.2 v1 v2 v3 v4 t0 c115.1 (fX12_isDevice c115.1)))
def fX12_devices_105 (S : MS) (v1 : Int32) (v2 : Int32) (v3 : Int32) (v4 : Int32) : Option (Int32 × MS) :=
  fX12_devices_110 S v1 v2 v3 v4 v2
def fX12_devices_91 (S : MS) : Option (Int32 × MS) :=
  some (0, S)
def fX12_devices_80 (S : MS) (v2 : Int32) (v5 : Int32) : Option (Int32 × MS) :=
  if inb (v2 &&& 15) (mlA 5) = true then fX12_devices_91 (pA S 5 (ix (v2 &&& 15)) v5) else none
def fX12_devices_72 (S : MS) (v2 : Int32) (v5 : Int32) : Option (Int32 × MS) :=
  if inb v5 (mlA 20) = true then fX12_devices_80 (pA S 20 (ix v5) 0) v2 v5 else none
def fX12_devices_64 (S : MS) (v2 : Int32) (v5 : Int32) : Option (Int32 × MS) :=
  if inb v5 (mlA 18) = true then fX12_devices_72 (pA S 18 (ix v5) 0) v2 v5 else none
def fX12_devices_56 (S : MS) (v2 : Int32) (v5 : Int32) : Option (Int32 × MS) :=
  if inb v5 (mlB 13) = true then fX12_devices_64 (pB S 13 (ix v5) 0) v2 v5 else none
def fX12_devices_55 (S : MS) (v2 : Int32) (v5 : Int32) (t0 : Nat) (t1 : Int32) (t2 : Int64) : Option (Int32 × MS) :=
  if inb t1 (mlB t0) = true then fX12_devices_56 (pB S t0 (ix t1) t2) v2 v5 else none
def fX12_devices (S : MS) (v1 : Int32) (v2 : Int32) (v3 : Int32) (v4 : Int32) : Option (Int32 × MS) :=
  if v1 = 88 then (Option.bind (fX12_hasRoom S 1) (fun c8 => if c8.1 = 0 then some (8, c8.2) else (Option.bind (fX12_newThing c8.2 (13 + (v4 &&& 3))) (fun c25 => if inb c25.1 (mlA 6) = true then (if (gA c25.2 6 (ix c25.1)) = 16 then fX12_devices_55 c25.2 v2 c25.1 12 c25.1 9221120237041090560 else fX12_devices_55 c25.2 v2 c25.1 12 c25.1 0) else none)))) else (if v1 = 91 then fX12_devices_105 S v1 v2 v3 v4 else (if v1 = 92 then fX12_devices_105 S v1 v2 v3 v4 else fX12_devices_110 S v1 v2 v3 v4 v3))
theorem oX12_devices : ok_v yX12_devices cX12_devices 10 (some .int) 4 := ⟨kw_1398, kw_1397, kw_66, kw_73, by decide +kernel⟩
set_option maxRecDepth 100000 in
theorem tX12_devices_426 {p : Program} {l : Launch} {e : Env} {s : State} {m : MethodId} {args : Array Value} {below : List Frame} {meth : Method} {c : Code} {g : MG} (C : CC p s m args meth c yX12_devices cX12_devices 10 (some .int)) (K : mK g s) (G : mSep g)  (S : MS) {w : Int32 × MS} (hv : fX12_devices_426 S = some w) : MJ p l e s m args below meth c 10 6 g (some (.int w.1)) w.2 426 [] [] S := by
  unfold fX12_devices_426 at hv
  refine jr_iconst (v := 0) C dX12_devices_426 (by decide) ?_
  exact jm_iret C K dX12_devices_427 (Option.some.inj hv)
set_option maxRecDepth 100000 in
theorem tX12_devices_405 {p : Program} {l : Launch} {e : Env} {s : State} {m : MethodId} {args : Array Value} {below : List Frame} {meth : Method} {c : Code} {g : MG} (C : CC p s m args meth c yX12_devices cX12_devices 10 (some .int)) (K : mK g s) (G : mSep g)  (S : MS) {w : Int32 × MS} (hv : fX12_devices_405 S = some w) : MJ p l e s m args below meth c 10 6 g (some (.int w.1)) w.2 405 [] [] S := by
  unfold fX12_devices_405 at hv
  refine jr_goto (tgt := 426) C dX12_devices_405 rfl ?_
  exact tX12_devices_426 C K G  S hv
set_option maxRecDepth 100000 in
theorem tX12_devices_390 {p : Program} {l : Launch} {e : Env} {s : State} {m : MethodId} {args : Array Value} {below : List Frame} {meth : Method} {c : Code} {g : MG} (C : CC p s m args meth c yX12_devices cX12_devices 10 (some .int)) (K : mK g s) (G : mSep g)  (S : MS) (v6 : Int32) (v8 : Int32) {w : Int32 × MS} (hv : fX12_devices_390 S v6 v8 = some w) : MJ p l e s m args below meth c 10 6 g (some (.int w.1)) w.2 390 [(0, .ref (mo g)), (6, .int v6), (8, .int v8)] [] S := by
  unfold fX12_devices_390 at hv
  refine jr_iload C dX12_devices_390 1 rfl ?_
  refine jr_bipush (v := 15) C dX12_devices_392 (by decide) ?_
  refine jr_icmp_ne (tgt := 426) C dX12_devices_394 rfl (fun q394 => ?_) (fun q394 => ?_)
  · have hv := (if_neg q394).symm.trans hv
    exact jr_sub [] rfl (tX12_devices_426 C K G  S hv)
  · have hv := (if_pos q394).symm.trans hv
    refine jr_aload_n C dX12_devices_397 rfl 0 rfl ?_
    refine jm_getA C K 13 (by decide) (by decide) kw_1448 rfl dX12_devices_398 ?_
    refine jr_iload C dX12_devices_401 2 rfl ?_
    refine jr_lconst (v := 0) C dX12_devices_403 (by decide) ?_
    by_cases z404 : inb v8 (mlB 13) = true
    case neg => exact op_none ((if_neg z404).symm.trans hv)
    have hv := (if_pos z404).symm.trans hv
    refine jm_last C K G z404 dX12_devices_404 ?_
    exact jr_sub [] rfl (tX12_devices_405 C K G  (pB S 13 (ix v8) 0) hv)
set_option maxRecDepth 100000 in
theorem tX12_devices_372 {p : Program} {l : Launch} {e : Env} {s : State} {m : MethodId} {args : Array Value} {below : List Frame} {meth : Method} {c : Code} {g : MG} (C : CC p s m args meth c yX12_devices cX12_devices 10 (some .int)) (K : mK g s) (G : mSep g)  (S : MS) (v6 : Int32) (v8 : Int32) {w : Int32 × MS} (hv : fX12_devices_372 S v6 v8 = some w) : MJ p l e s m args below meth c 10 6 g (some (.int w.1)) w.2 372 [(0, .ref (mo g)), (6, .int v6), (8, .int v8)] [] S := by
  unfold fX12_devices_372 at hv
  refine jr_iload C dX12_devices_372 1 rfl ?_
  refine jr_bipush (v := 14) C dX12_devices_374 (by decide) ?_
  refine jr_icmp_ne (tgt := 390) C dX12_devices_376 rfl (fun q376 => ?_) (fun q376 => ?_)
  · have hv := (if_neg q376).symm.trans hv
    exact tX12_devices_390 C K G  S v6 v8 hv
  · have hv := (if_pos q376).symm.trans hv
    refine jr_aload_n C dX12_devices_379 rfl 0 rfl ?_
    refine jm_getA C K 18 (by decide) (by decide) kw_1453 rfl dX12_devices_380 ?_
    refine jr_iload C dX12_devices_383 2 rfl ?_
    refine jr_dup2_11 C dX12_devices_385 rfl rfl ?_
    by_cases z386 : inb v8 (mlA 18) = true
    case neg => exact op_none ((if_neg z386).symm.trans hv)
    have hv := (if_pos z386).symm.trans hv
    refine jm_iald C K z386 dX12_devices_386 ?_
    refine jr_iconst (v := 1) C dX12_devices_387 (by decide) ?_
    refine jr_iadd C dX12_devices_388 ?_
    by_cases z389 : inb v8 (mlA 18) = true
    case neg => exact op_none ((if_neg z389).symm.trans hv)
    have hv := (if_pos z389).symm.trans hv
    refine jm_iast C K G z389 dX12_devices_389 ?_
    exact tX12_devices_390 C K G  (pA S 18 (ix v8) ((gA S 18 (ix v8)) + 1)) v6 v8 hv
set_option maxRecDepth 100000 in
theorem tX12_devices_355 {p : Program} {l : Launch} {e : Env} {s : State} {m : MethodId} {args : Array Value} {below : List Frame} {meth : Method} {c : Code} {g : MG} (C : CC p s m args meth c yX12_devices cX12_devices 10 (some .int)) (K : mK g s) (G : mSep g)  (S : MS) {w : Int32 × MS} (hv : fX12_devices_355 S = some w) : MJ p l e s m args below meth c 10 6 g (some (.int w.1)) w.2 355 [] [] S := by
  unfold fX12_devices_355 at hv
  refine jr_goto (tgt := 426) C dX12_devices_355 rfl ?_
  exact tX12_devices_426 C K G  S hv
set_option maxRecDepth 100000 in
theorem tX12_devices_354 {p : Program} {l : Launch} {e : Env} {s : State} {m : MethodId} {args : Array Value} {below : List Frame} {meth : Method} {c : Code} {g : MG} (C : CC p s m args meth c yX12_devices cX12_devices 10 (some .int)) (K : mK g s) (G : mSep g)  (S : MS) (t0 : Nat) (t1 : Int32) (t2 : Int64) {w : Int32 × MS} (hv : fX12_devices_354 S t0 t1 t2 = some w) : MJ p l e s m args below meth c 10 6 g (some (.int w.1)) w.2 354 [] [.long t2, .int t1, .ref (mad g t0)] S := by
  unfold fX12_devices_354 at hv
  by_cases z354 : inb t1 (mlB t0) = true
  case neg => exact op_none ((if_neg z354).symm.trans hv)
  have hv := (if_pos z354).symm.trans hv
  refine jm_last C K G z354 dX12_devices_354 ?_
  exact tX12_devices_355 C K G  (pB S t0 (ix t1) t2) hv
set_option maxRecDepth 100000 in
theorem tX12_devices_351 {p : Program} {l : Launch} {e : Env} {s : State} {m : MethodId} {args : Array Value} {below : List Frame} {meth : Method} {c : Code} {g : MG} (C : CC p s m args meth c yX12_devices cX12_devices 10 (some .int)) (K : mK g s) (G : mSep g)  (S : MS) (t0 : Nat) (t1 : Int32) (t2 : Int64) {w : Int32 × MS} (hv : fX12_devices_351 S t0 t1 t2 = some w) : MJ p l e s m args below meth c 10 6 g (some (.int w.1)) w.2 351 [] [.long t2, .int t1, .ref (mad g t0)] S := by
  unfold fX12_devices_351 at hv
  obtain ⟨c351, hc351, hv⟩ := Option.bind_eq_some_iff.mp hv
  refine jr_pcall (rest := [.int t1, .ref (mad g t0)]) C (pX12_number l t2 hc351) oX12_number kw_1213 rfl ⟨Nat.le_of_ble_eq_true rfl, Nat.le_of_ble_eq_true rfl⟩ rfl (Nat.le_of_ble_eq_true rfl) ⟨Nat.zero_le _, Nat.zero_le _⟩ dX12_devices_351 ?_
  exact tX12_devices_354 C K G  S t0 t1 c351 hv
set_option maxRecDepth 100000 in
theorem tX12_devices_249 {p : Program} {l : Launch} {e : Env} {s : State} {m : MethodId} {args : Array Value} {below : List Frame} {meth : Method} {c : Code} {g : MG} (C : CC p s m args meth c yX12_devices cX12_devices 10 (some .int)) (K : mK g s) (G : mSep g)  (S : MS) (v2 : Int32) (v6 : Int32) (v8 : Int32) (v9 : Int32) {w : Int32 × MS} (hv : fX12_devices_249 S v2 v6 v8 v9 = some w) : MJ p l e s m args below meth c 10 6 g (some (.int w.1)) w.2 249 [(0, .ref (mo g)), (2, .int v2), (6, .int v6), (8, .int v8), (9, .int v9)] [] S := by
  unfold fX12_devices_249 at hv
  refine jr_aload_n C dX12_devices_249 rfl 0 rfl ?_
  refine jm_getA C K 4 (by decide) (by decide) kw_1439 rfl dX12_devices_250 ?_
  refine jr_iload_n C dX12_devices_253 rfl 1 rfl ?_
  refine jr_bipush (v := 15) C dX12_devices_254 (by decide) ?_
  refine jr_iand C dX12_devices_256 ?_
  refine jr_iload C dX12_devices_257 4 rfl ?_
  refine jr_if_ne (tgt := 272) C dX12_devices_259 rfl (fun q259 => ?_) (fun q259 => ?_)
  · have hv := (if_neg q259).symm.trans hv
    refine jr_iload C dX12_devices_272 4 rfl ?_
    refine jr_iconst (v := 3) C dX12_devices_274 (by decide) ?_
    refine jr_icmp_ne (tgt := 288) C dX12_devices_275 rfl (fun q275 => ?_) (fun q275 => ?_)
    · have hv := (if_neg q275).symm.trans hv
      refine jr_iload C dX12_devices_288 4 rfl ?_
      refine jr_iconst (v := 1) C dX12_devices_290 (by decide) ?_
      refine jr_icmp_ne (tgt := 303) C dX12_devices_291 rfl (fun q291 => ?_) (fun q291 => ?_)
      · have hv := (if_neg q291).symm.trans hv
        refine jr_iload C dX12_devices_303 4 rfl ?_
        refine jr_iconst (v := 2) C dX12_devices_305 (by decide) ?_
        refine jr_icmp_ne (tgt := 318) C dX12_devices_306 rfl (fun q306 => ?_) (fun q306 => ?_)
        · have hv := (if_neg q306).symm.trans hv
          refine jr_iload C dX12_devices_318 4 rfl ?_
          refine jr_iconst (v := 4) C dX12_devices_320 (by decide) ?_
          refine jr_icmp_ne (tgt := 335) C dX12_devices_321 rfl (fun q321 => ?_) (fun q321 => ?_)
          · have hv := (if_neg q321).symm.trans hv
            refine jr_iload C dX12_devices_335 4 rfl ?_
            refine jr_iconst (v := 5) C dX12_devices_337 (by decide) ?_
            refine jr_icmp_ne (tgt := 350) C dX12_devices_338 rfl (fun q338 => ?_) (fun q338 => ?_)
            · have hv := (if_neg q338).symm.trans hv
              refine jr_lconst (v := 0) C dX12_devices_350 (by decide) ?_
              exact jr_sub [] rfl (tX12_devices_351 C K G  S 4 (v2 &&& 15) 0 hv)
            · have hv := (if_pos q338).symm.trans hv
              refine jr_iload C dX12_devices_341 2 rfl ?_
              refine jr_pcall (rest := [.int (v2 &&& 15), .ref (mad g 4)]) C (pX12_speedOf l v6) oX12_speedOf kw_1414 rfl ⟨Nat.le_of_ble_eq_true rfl, Nat.le_of_ble_eq_true rfl⟩ rfl (Nat.le_of_ble_eq_true rfl) ⟨Nat.zero_le _, Nat.zero_le _⟩ dX12_devices_343 ?_
              refine jr_i2l C dX12_devices_346 ?_
              refine jr_goto (tgt := 351) C dX12_devices_347 rfl ?_
              exact jr_sub [] rfl (tX12_devices_351 C K G  S 4 (v2 &&& 15) ((fX12_speedOf v6).toInt64) hv)
          · have hv := (if_pos q321).symm.trans hv
            refine jr_aload_n C dX12_devices_324 rfl 0 rfl ?_
            refine jm_getA C K 18 (by decide) (by decide) kw_1453 rfl dX12_devices_325 ?_
            refine jr_iload C dX12_devices_328 3 rfl ?_
            by_cases z330 : inb v8 (mlA 18) = true
            case neg => exact op_none ((if_neg z330).symm.trans hv)
            have hv := (if_pos z330).symm.trans hv
            refine jm_iald C K z330 dX12_devices_330 ?_
            refine jr_i2l C dX12_devices_331 ?_
            refine jr_goto (tgt := 351) C dX12_devices_332 rfl ?_
            exact jr_sub [] rfl (tX12_devices_351 C K G  S 4 (v2 &&& 15) ((gA S 18 (ix v8)).toInt64) hv)
        · have hv := (if_pos q306).symm.trans hv
          refine jr_iload C dX12_devices_309 2 rfl ?_
          refine jr_pcall (rest := [.int (v2 &&& 15), .ref (mad g 4)]) C (pX12_rankOf l v6) oX12_rankOf kw_1418 rfl ⟨Nat.le_of_ble_eq_true rfl, Nat.le_of_ble_eq_true rfl⟩ rfl (Nat.le_of_ble_eq_true rfl) ⟨Nat.zero_le _, Nat.zero_le _⟩ dX12_devices_311 ?_
          refine jr_i2l C dX12_devices_314 ?_
          refine jr_goto (tgt := 351) C dX12_devices_315 rfl ?_
          exact jr_sub [] rfl (tX12_devices_351 C K G  S 4 (v2 &&& 15) ((fX12_rankOf v6).toInt64) hv)
      · have hv := (if_pos q291).symm.trans hv
        refine jr_iload C dX12_devices_294 2 rfl ?_
        refine jr_pcall (rest := [.int (v2 &&& 15), .ref (mad g 4)]) C (pX12_spanOf l v6) oX12_spanOf kw_1408 rfl ⟨Nat.le_of_ble_eq_true rfl, Nat.le_of_ble_eq_true rfl⟩ rfl (Nat.le_of_ble_eq_true rfl) ⟨Nat.zero_le _, Nat.zero_le _⟩ dX12_devices_296 ?_
        refine jr_i2l C dX12_devices_299 ?_
        refine jr_goto (tgt := 351) C dX12_devices_300 rfl ?_
        exact jr_sub [] rfl (tX12_devices_351 C K G  S 4 (v2 &&& 15) ((fX12_spanOf v6).toInt64) hv)
    · have hv := (if_pos q275).symm.trans hv
      refine jr_aload_n C dX12_devices_278 rfl 0 rfl ?_
      refine jm_getA C K 13 (by decide) (by decide) kw_1448 rfl dX12_devices_279 ?_
      refine jr_iload C dX12_devices_282 3 rfl ?_
      by_cases z284 : inb v8 (mlB 13) = true
      case neg => exact op_none ((if_neg z284).symm.trans hv)
      have hv := (if_pos z284).symm.trans hv
      refine jm_lald C K z284 dX12_devices_284 ?_
      refine jr_goto (tgt := 354) C dX12_devices_285 rfl ?_
      exact jr_sub [] rfl (tX12_devices_354 C K G  S 4 (v2 &&& 15) (gB S 13 (ix v8)) hv)
  · have hv := (if_pos q259).symm.trans hv
    refine jr_aload_n C dX12_devices_262 rfl 0 rfl ?_
    refine jm_getA C K 12 (by decide) (by decide) kw_1447 rfl dX12_devices_263 ?_
    refine jr_iload C dX12_devices_266 3 rfl ?_
    by_cases z268 : inb v8 (mlB 12) = true
    case neg => exact op_none ((if_neg z268).symm.trans hv)
    have hv := (if_pos z268).symm.trans hv
    refine jm_lald C K z268 dX12_devices_268 ?_
    refine jr_goto (tgt := 354) C dX12_devices_269 rfl ?_
    exact jr_sub [] rfl (tX12_devices_354 C K G  S 4 (v2 &&& 15) (gB S 12 (ix v8)) hv)
set_option maxRecDepth 100000 in
theorem tX12_devices_209 {p : Program} {l : Launch} {e : Env} {s : State} {m : MethodId} {args : Array Value} {below : List Frame} {meth : Method} {c : Code} {g : MG} (C : CC p s m args meth c yX12_devices cX12_devices 10 (some .int)) (K : mK g s) (G : mSep g)  (S : MS) (v1 : Int32) (v2 : Int32) (v3 : Int32) (v4 : Int32) (v6 : Int32) (v8 : Int32) {w : Int32 × MS} (hv : fX12_devices_209 S v1 v2 v3 v4 v6 v8 = some w) : MJ p l e s m args below meth c 10 6 g (some (.int w.1)) w.2 209 [(0, .ref (mo g)), (1, .int v1), (2, .int v2), (3, .int v3), (4, .int v4), (6, .int v6), (8, .int v8)] [] S := by
  unfold fX12_devices_209 at hv
  refine jr_iload_n C dX12_devices_209 rfl 1 rfl ?_
  refine jr_bipush (v := 89) C dX12_devices_210 (by decide) ?_
  refine jr_icmp_ne (tgt := 236) C dX12_devices_212 rfl (fun q212 => ?_) (fun q212 => ?_)
  · have hv := (if_neg q212).symm.trans hv
    refine jr_iload_n C dX12_devices_236 rfl 1 rfl ?_
    refine jr_bipush (v := 90) C dX12_devices_237 (by decide) ?_
    refine jr_icmp_ne (tgt := 358) C dX12_devices_239 rfl (fun q239 => ?_) (fun q239 => ?_)
    · have hv := (if_neg q239).symm.trans hv
      refine jr_iload_n C dX12_devices_358 rfl 1 rfl ?_
      refine jr_bipush (v := 91) C dX12_devices_359 (by decide) ?_
      refine jr_icmp_ne (tgt := 408) C dX12_devices_361 rfl (fun q361 => ?_) (fun q361 => ?_)
      · have hv := (if_neg q361).symm.trans hv
        refine jr_aload_n C dX12_devices_408 rfl 0 rfl ?_
        refine jr_iload C dX12_devices_409 6 rfl ?_
        refine jr_aload_n C dX12_devices_411 rfl 0 rfl ?_
        refine jm_getA C K 4 (by decide) (by decide) kw_1439 rfl dX12_devices_412 ?_
        refine jr_iload_n C dX12_devices_415 rfl 3 rfl ?_
        refine jr_bipush (v := 15) C dX12_devices_416 (by decide) ?_
        refine jr_iand C dX12_devices_418 ?_
        by_cases z419 : inb (v3 &&& 15) (mlB 4) = true
        case neg => exact op_none ((if_neg z419).symm.trans hv)
        have hv := (if_pos z419).symm.trans hv
        refine jm_lald C K z419 dX12_devices_419 ?_
        obtain ⟨c420, hc420, hv⟩ := Option.bind_eq_some_iff.mp hv
        refine jr_pcall (rest := [.int v8, .ref (mo g)]) C (pX12_small l (gB S 4 (ix (v3 &&& 15))) hc420) oX12_small kw_1293 rfl ⟨Nat.le_of_ble_eq_true rfl, Nat.le_of_ble_eq_true rfl⟩ rfl (Nat.le_of_ble_eq_true rfl) ⟨Nat.zero_le _, Nat.zero_le _⟩ dX12_devices_420 ?_
        obtain ⟨c423, hc423, hv⟩ := Option.bind_eq_some_iff.mp hv
        refine jm_call (rest := []) C K G (pX12_senses l G S v8 c420 hc423) oX12_senses rfl kw_1421 rfl ⟨Nat.le_of_ble_eq_true rfl, Nat.le_of_ble_eq_true rfl⟩ rfl (Nat.le_of_ble_eq_true rfl) ⟨Nat.zero_le _, Nat.zero_le _⟩ dX12_devices_423 ?_
        exact jr_sub [] rfl (tX12_devices_426 C K G  c423 hv)
      · have hv := (if_pos q361).symm.trans hv
        refine jr_aload_n C dX12_devices_364 rfl 0 rfl ?_
        refine jm_getA C K 12 (by decide) (by decide) kw_1447 rfl dX12_devices_365 ?_
        refine jr_iload C dX12_devices_368 6 rfl ?_
        refine jr_lconst (v := 0) C dX12_devices_370 (by decide) ?_
        by_cases z371 : inb v8 (mlB 12) = true
        case neg => exact op_none ((if_neg z371).symm.trans hv)
        have hv := (if_pos z371).symm.trans hv
        refine jm_last C K G z371 dX12_devices_371 ?_
        exact jr_sub [0, 5, 6] rfl (tX12_devices_372 C K G  (pB S 12 (ix v8) 0) v6 v8 hv)
    · have hv := (if_pos q239).symm.trans hv
      refine jr_iload C dX12_devices_242 4 rfl ?_
      refine jr_bipush (v := 7) C dX12_devices_244 (by decide) ?_
      refine jr_iand C dX12_devices_246 ?_
      refine jr_istore (lv' := [(9, .int (v4 &&& 7)), (0, .ref (mo g)), (1, .int v1), (2, .int v2), (3, .int v3), (4, .int v4), (6, .int v6), (8, .int v8)]) C dX12_devices_247 (by decide) rfl ?_
      exact jr_sub [1, 3, 6, 7, 0] rfl (tX12_devices_249 C K G  S v2 v6 v8 (v4 &&& 7) hv)
  · have hv := (if_pos q212).symm.trans hv
    refine jr_aload_n C dX12_devices_215 rfl 0 rfl ?_
    refine jr_iload C dX12_devices_216 6 rfl ?_
    refine jr_iload_n C dX12_devices_218 rfl 2 rfl ?_
    refine jr_bipush (v := 15) C dX12_devices_219 (by decide) ?_
    refine jr_iand C dX12_devices_221 ?_
    refine jr_aload_n C dX12_devices_222 rfl 0 rfl ?_
    refine jm_getA C K 4 (by decide) (by decide) kw_1439 rfl dX12_devices_223 ?_
    refine jr_iload C dX12_devices_226 4 rfl ?_
    refine jr_bipush (v := 15) C dX12_devices_228 (by decide) ?_
    refine jr_iand C dX12_devices_230 ?_
    by_cases z231 : inb (v4 &&& 15) (mlB 4) = true
    case neg => exact op_none ((if_neg z231).symm.trans hv)
    have hv := (if_pos z231).symm.trans hv
    refine jm_lald C K z231 dX12_devices_231 ?_
    obtain ⟨c232, hc232, hv⟩ := Option.bind_eq_some_iff.mp hv
    refine jm_call (rest := []) C K G (pX12_goes l G S v8 (v2 &&& 15) (gB S 4 (ix (v4 &&& 15))) hc232) oX12_goes rfl kw_1402 rfl ⟨Nat.le_of_ble_eq_true rfl, Nat.le_of_ble_eq_true rfl⟩ rfl (Nat.le_of_ble_eq_true rfl) ⟨Nat.zero_le _, Nat.zero_le _⟩ dX12_devices_232 ?_
    exact jm_iret C K dX12_devices_235 (Option.some.inj hv)
set_option maxRecDepth 100000 in
theorem tX12_devices_189 {p : Program} {l : Launch} {e : Env} {s : State} {m : MethodId} {args : Array Value} {below : List Frame} {meth : Method} {c : Code} {g : MG} (C : CC p s m args meth c yX12_devices cX12_devices 10 (some .int)) (K : mK g s) (G : mSep g)  (S : MS) (v1 : Int32) (v2 : Int32) (v3 : Int32) (v4 : Int32) (v5 : Int32) (v6 : Int32) {w : Int32 × MS} (hv : fX12_devices_189 S v1 v2 v3 v4 v5 v6 = some w) : MJ p l e s m args below meth c 10 6 g (some (.int w.1)) w.2 189 [(0, .ref (mo g)), (1, .int v1), (2, .int v2), (3, .int v3), (4, .int v4), (5, .int v5), (6, .int v6)] [] S := by
  unfold fX12_devices_189 at hv
  refine jr_iload C dX12_devices_189 6 rfl ?_
  refine jr_iconst (v := (-1)) C dX12_devices_191 (by decide) ?_
  refine jr_icmp_ne (tgt := 197) C dX12_devices_192 rfl (fun q192 => ?_) (fun q192 => ?_)
  · have hv := (if_neg q192).symm.trans hv
    refine jr_aload_n C dX12_devices_197 rfl 0 rfl ?_
    refine jm_getA C K 5 (by decide) (by decide) kw_1440 rfl dX12_devices_198 ?_
    refine jr_iload C dX12_devices_201 5 rfl ?_
    refine jr_bipush (v := 15) C dX12_devices_203 (by decide) ?_
    refine jr_iand C dX12_devices_205 ?_
    by_cases z206 : inb (v5 &&& 15) (mlA 5) = true
    case neg => exact op_none ((if_neg z206).symm.trans hv)
    have hv := (if_pos z206).symm.trans hv
    refine jm_iald C K z206 dX12_devices_206 ?_
    refine jr_istore (lv' := [(8, .int (gA S 5 (ix (v5 &&& 15)))), (0, .ref (mo g)), (1, .int v1), (2, .int v2), (3, .int v3), (4, .int v4), (5, .int v5), (6, .int v6)]) C dX12_devices_207 (by decide) rfl ?_
    exact jr_sub [1, 2, 3, 4, 5, 7, 0] rfl (tX12_devices_209 C K G  S v1 v2 v3 v4 v6 (gA S 5 (ix (v5 &&& 15))) hv)
  · have hv := (if_pos q192).symm.trans hv
    refine jr_iconst (v := 1) C dX12_devices_195 (by decide) ?_
    exact jm_iret C K dX12_devices_196 (Option.some.inj hv)
set_option maxRecDepth 100000 in
theorem tX12_devices_174 {p : Program} {l : Launch} {e : Env} {s : State} {m : MethodId} {args : Array Value} {below : List Frame} {meth : Method} {c : Code} {g : MG} (C : CC p s m args meth c yX12_devices cX12_devices 10 (some .int)) (K : mK g s) (G : mSep g)  (S : MS) (v1 : Int32) (v2 : Int32) (v3 : Int32) (v4 : Int32) (v5 : Int32) (v6 : Int32) (t0 : Int32) {w : Int32 × MS} (hv : fX12_devices_174 S v1 v2 v3 v4 v5 v6 t0 = some w) : MJ p l e s m args below meth c 10 6 g (some (.int w.1)) w.2 174 [(0, .ref (mo g)), (1, .int v1), (2, .int v2), (3, .int v3), (4, .int v4), (5, .int v5), (6, .int v6)] [.int t0] S := by
  unfold fX12_devices_174 at hv
  refine jr_istore (lv' := [(7, .int t0), (0, .ref (mo g)), (1, .int v1), (2, .int v2), (3, .int v3), (4, .int v4), (5, .int v5), (6, .int v6)]) C dX12_devices_174 (by decide) rfl ?_
  refine jr_iload C dX12_devices_176 7 rfl ?_
  refine jr_iconst (v := (-1)) C dX12_devices_178 (by decide) ?_
  refine jr_icmp_eq (tgt := 189) C dX12_devices_179 rfl (fun q179 => ?_) (fun q179 => ?_)
  · have hv := (if_pos q179).symm.trans hv
    exact jr_sub [1, 2, 3, 4, 5, 6, 7] rfl (tX12_devices_189 C K G  S v1 v2 v3 v4 v5 v6 hv)
  · have hv := (if_neg q179).symm.trans hv
    refine jr_iload C dX12_devices_182 0 rfl ?_
    refine jr_if_ne (tgt := 189) C dX12_devices_184 rfl (fun q184 => ?_) (fun q184 => ?_)
    · have hv := (if_neg q184).symm.trans hv
      exact jr_sub [1, 2, 3, 4, 5, 6, 7] rfl (tX12_devices_189 C K G  S v1 v2 v3 v4 v5 v6 hv)
    · have hv := (if_pos q184).symm.trans hv
      refine jr_iconst (v := 2) C dX12_devices_187 (by decide) ?_
      exact jm_iret C K dX12_devices_188 (Option.some.inj hv)
set_option maxRecDepth 100000 in
theorem tX12_devices_144 {p : Program} {l : Launch} {e : Env} {s : State} {m : MethodId} {args : Array Value} {below : List Frame} {meth : Method} {c : Code} {g : MG} (C : CC p s m args meth c yX12_devices cX12_devices 10 (some .int)) (K : mK g s) (G : mSep g)  (S : MS) (v1 : Int32) (v2 : Int32) (v3 : Int32) (v4 : Int32) (v5 : Int32) (v6 : Int32) {w : Int32 × MS} (hv : fX12_devices_144 S v1 v2 v3 v4 v5 v6 = some w) : MJ p l e s m args below meth c 10 6 g (some (.int w.1)) w.2 144 [(0, .ref (mo g)), (1, .int v1), (2, .int v2), (3, .int v3), (4, .int v4), (5, .int v5), (6, .int v6)] [] S := by
  unfold fX12_devices_144 at hv
  refine jr_iconst (v := 0) C dX12_devices_144 (by decide) ?_
  refine jr_goto (tgt := 174) C dX12_devices_145 rfl ?_
  exact tX12_devices_174 C K G  S v1 v2 v3 v4 v5 v6 0 hv
set_option maxRecDepth 100000 in
theorem tX12_devices_110 {p : Program} {l : Launch} {e : Env} {s : State} {m : MethodId} {args : Array Value} {below : List Frame} {meth : Method} {c : Code} {g : MG} (C : CC p s m args meth c yX12_devices cX12_devices 10 (some .int)) (K : mK g s) (G : mSep g)  (S : MS) (v1 : Int32) (v2 : Int32) (v3 : Int32) (v4 : Int32) (t0 : Int32) {w : Int32 × MS} (hv : fX12_devices_110 S v1 v2 v3 v4 t0 = some w) : MJ p l e s m args below meth c 10 6 g (some (.int w.1)) w.2 110 [(0, .ref (mo g)), (1, .int v1), (2, .int v2), (3, .int v3), (4, .int v4)] [.int t0] S := by
  unfold fX12_devices_110 at hv
  refine jr_istore (lv' := [(5, .int t0), (0, .ref (mo g)), (1, .int v1), (2, .int v2), (3, .int v3), (4, .int v4)]) C dX12_devices_110 (by decide) rfl ?_
  refine jr_aload_n C dX12_devices_112 rfl 1 rfl ?_
  refine jr_iload C dX12_devices_113 0 rfl ?_
  obtain ⟨c115, hc115, hv⟩ := Option.bind_eq_some_iff.mp hv
  refine jm_call (rest := []) C K G (pX12_kindOf l G S t0 hc115) oX12_kindOf rfl kw_1360 rfl ⟨Nat.le_of_ble_eq_true rfl, Nat.le_of_ble_eq_true rfl⟩ rfl (Nat.le_of_ble_eq_true rfl) ⟨Nat.zero_le _, Nat.zero_le _⟩ dX12_devices_115 ?_
  refine jr_istore (lv' := [(6, .int c115.1), (5, .int t0), (0, .ref (mo g)), (1, .int v1), (2, .int v2), (3, .int v3), (4, .int v4)]) C dX12_devices_118 (by decide) rfl ?_
  refine jr_iload_n C dX12_devices_120 rfl 3 rfl ?_
  refine jr_bipush (v := 91) C dX12_devices_121 (by decide) ?_
  refine jr_icmp_ne (tgt := 148) C dX12_devices_123 rfl (fun q123 => ?_) (fun q123 => ?_)
  · have hv := (if_neg q123).symm.trans hv
    refine jr_iload_n C dX12_devices_148 rfl 3 rfl ?_
    refine jr_bipush (v := 92) C dX12_devices_149 (by decide) ?_
    refine jr_icmp_ne (tgt := 169) C dX12_devices_151 rfl (fun q151 => ?_) (fun q151 => ?_)
    · have hv := (if_neg q151).symm.trans hv
      refine jr_iload C dX12_devices_169 0 rfl ?_
      refine jr_pcall (rest := []) C (pX12_isDevice l c115.1) oX12_isDevice kw_1399 rfl ⟨Nat.le_of_ble_eq_true rfl, Nat.le_of_ble_eq_true rfl⟩ rfl (Nat.le_of_ble_eq_true rfl) ⟨Nat.zero_le _, Nat.zero_le _⟩ dX12_devices_171 ?_
      exact jr_sub [2, 3, 4, 5, 6, 1, 0] rfl (tX12_devices_174 C K G  c115.2 v1 v2 v3 v4 t0 c115.1 (fX12_isDevice c115.1) hv)
    · have hv := (if_pos q151).symm.trans hv
      refine jr_iload C dX12_devices_154 0 rfl ?_
      refine jr_bipush (v := 16) C dX12_devices_156 (by decide) ?_
      refine jr_icmp_ne (tgt := 165) C dX12_devices_158 rfl (fun q158 => ?_) (fun q158 => ?_)
      · have hv := (if_neg q158).symm.trans hv
        refine jr_iconst (v := 0) C dX12_devices_165 (by decide) ?_
        refine jr_goto (tgt := 174) C dX12_devices_166 rfl ?_
        exact jr_sub [2, 3, 4, 5, 6, 1, 0] rfl (tX12_devices_174 C K G  c115.2 v1 v2 v3 v4 t0 c115.1 0 hv)
      · have hv := (if_pos q158).symm.trans hv
        refine jr_iconst (v := 1) C dX12_devices_161 (by decide) ?_
        refine jr_goto (tgt := 174) C dX12_devices_162 rfl ?_
        exact jr_sub [2, 3, 4, 5, 6, 1, 0] rfl (tX12_devices_174 C K G  c115.2 v1 v2 v3 v4 t0 c115.1 1 hv)
  · have hv := (if_pos q123).symm.trans hv
    refine jr_iload C dX12_devices_126 0 rfl ?_
    refine jr_bipush (v := 13) C dX12_devices_128 (by decide) ?_
    refine jr_icmp_lt (tgt := 144) C dX12_devices_130 rfl (fun q130 => ?_) (fun q130 => ?_)
    · have hv := (if_pos q130).symm.trans hv
      exact jr_sub [2, 3, 4, 5, 6, 1, 0] rfl (tX12_devices_144 C K G  c115.2 v1 v2 v3 v4 t0 c115.1 hv)
    · have hv := (if_neg q130).symm.trans hv
      refine jr_iload C dX12_devices_133 0 rfl ?_
      refine jr_bipush (v := 15) C dX12_devices_135 (by decide) ?_
      refine jr_icmp_gt (tgt := 144) C dX12_devices_137 rfl (fun q137 => ?_) (fun q137 => ?_)
      · have hv := (if_pos q137).symm.trans hv
        exact jr_sub [2, 3, 4, 5, 6, 1, 0] rfl (tX12_devices_144 C K G  c115.2 v1 v2 v3 v4 t0 c115.1 hv)
      · have hv := (if_neg q137).symm.trans hv
        refine jr_iconst (v := 1) C dX12_devices_140 (by decide) ?_
        refine jr_goto (tgt := 174) C dX12_devices_141 rfl ?_
        exact jr_sub [2, 3, 4, 5, 6, 1, 0] rfl (tX12_devices_174 C K G  c115.2 v1 v2 v3 v4 t0 c115.1 1 hv)
set_option maxRecDepth 100000 in
theorem tX12_devices_105 {p : Program} {l : Launch} {e : Env} {s : State} {m : MethodId} {args : Array Value} {below : List Frame} {meth : Method} {c : Code} {g : MG} (C : CC p s m args meth c yX12_devices cX12_devices 10 (some .int)) (K : mK g s) (G : mSep g)  (S : MS) (v1 : Int32) (v2 : Int32) (v3 : Int32) (v4 : Int32) {w : Int32 × MS} (hv : fX12_devices_105 S v1 v2 v3 v4 = some w) : MJ p l e s m args below meth c 10 6 g (some (.int w.1)) w.2 105 [(0, .ref (mo g)), (1, .int v1), (2, .int v2), (3, .int v3), (4, .int v4)] [] S := by
  unfold fX12_devices_105 at hv
  refine jr_iload_n C dX12_devices_105 rfl 2 rfl ?_
  refine jr_goto (tgt := 110) C dX12_devices_106 rfl ?_
  exact tX12_devices_110 C K G  S v1 v2 v3 v4 v2 hv
set_option maxRecDepth 100000 in
theorem tX12_devices_91 {p : Program} {l : Launch} {e : Env} {s : State} {m : MethodId} {args : Array Value} {below : List Frame} {meth : Method} {c : Code} {g : MG} (C : CC p s m args meth c yX12_devices cX12_devices 10 (some .int)) (K : mK g s) (G : mSep g)  (S : MS) {w : Int32 × MS} (hv : fX12_devices_91 S = some w) : MJ p l e s m args below meth c 10 6 g (some (.int w.1)) w.2 91 [] [] S := by
  unfold fX12_devices_91 at hv
  refine jr_iconst (v := 0) C dX12_devices_91 (by decide) ?_
  exact jm_iret C K dX12_devices_92 (Option.some.inj hv)
set_option maxRecDepth 100000 in
theorem tX12_devices_80 {p : Program} {l : Launch} {e : Env} {s : State} {m : MethodId} {args : Array Value} {below : List Frame} {meth : Method} {c : Code} {g : MG} (C : CC p s m args meth c yX12_devices cX12_devices 10 (some .int)) (K : mK g s) (G : mSep g)  (S : MS) (v2 : Int32) (v5 : Int32) {w : Int32 × MS} (hv : fX12_devices_80 S v2 v5 = some w) : MJ p l e s m args below meth c 10 6 g (some (.int w.1)) w.2 80 [(0, .ref (mo g)), (2, .int v2), (5, .int v5)] [] S := by
  unfold fX12_devices_80 at hv
  refine jr_aload_n C dX12_devices_80 rfl 0 rfl ?_
  refine jm_getA C K 5 (by decide) (by decide) kw_1440 rfl dX12_devices_81 ?_
  refine jr_iload_n C dX12_devices_84 rfl 1 rfl ?_
  refine jr_bipush (v := 15) C dX12_devices_85 (by decide) ?_
  refine jr_iand C dX12_devices_87 ?_
  refine jr_iload C dX12_devices_88 2 rfl ?_
  by_cases z90 : inb (v2 &&& 15) (mlA 5) = true
  case neg => exact op_none ((if_neg z90).symm.trans hv)
  have hv := (if_pos z90).symm.trans hv
  refine jm_iast C K G z90 dX12_devices_90 ?_
  exact jr_sub [] rfl (tX12_devices_91 C K G  (pA S 5 (ix (v2 &&& 15)) v5) hv)
set_option maxRecDepth 100000 in
theorem tX12_devices_72 {p : Program} {l : Launch} {e : Env} {s : State} {m : MethodId} {args : Array Value} {below : List Frame} {meth : Method} {c : Code} {g : MG} (C : CC p s m args meth c yX12_devices cX12_devices 10 (some .int)) (K : mK g s) (G : mSep g)  (S : MS) (v2 : Int32) (v5 : Int32) {w : Int32 × MS} (hv : fX12_devices_72 S v2 v5 = some w) : MJ p l e s m args below meth c 10 6 g (some (.int w.1)) w.2 72 [(0, .ref (mo g)), (2, .int v2), (5, .int v5)] [] S := by
  unfold fX12_devices_72 at hv
  refine jr_aload_n C dX12_devices_72 rfl 0 rfl ?_
  refine jm_getA C K 20 (by decide) (by decide) kw_1455 rfl dX12_devices_73 ?_
  refine jr_iload C dX12_devices_76 2 rfl ?_
  refine jr_iconst (v := 0) C dX12_devices_78 (by decide) ?_
  by_cases z79 : inb v5 (mlA 20) = true
  case neg => exact op_none ((if_neg z79).symm.trans hv)
  have hv := (if_pos z79).symm.trans hv
  refine jm_iast C K G z79 dX12_devices_79 ?_
  exact tX12_devices_80 C K G  (pA S 20 (ix v5) 0) v2 v5 hv
set_option maxRecDepth 100000 in
theorem tX12_devices_64 {p : Program} {l : Launch} {e : Env} {s : State} {m : MethodId} {args : Array Value} {below : List Frame} {meth : Method} {c : Code} {g : MG} (C : CC p s m args meth c yX12_devices cX12_devices 10 (some .int)) (K : mK g s) (G : mSep g)  (S : MS) (v2 : Int32) (v5 : Int32) {w : Int32 × MS} (hv : fX12_devices_64 S v2 v5 = some w) : MJ p l e s m args below meth c 10 6 g (some (.int w.1)) w.2 64 [(0, .ref (mo g)), (2, .int v2), (5, .int v5)] [] S := by
  unfold fX12_devices_64 at hv
  refine jr_aload_n C dX12_devices_64 rfl 0 rfl ?_
  refine jm_getA C K 18 (by decide) (by decide) kw_1453 rfl dX12_devices_65 ?_
  refine jr_iload C dX12_devices_68 2 rfl ?_
  refine jr_iconst (v := 0) C dX12_devices_70 (by decide) ?_
  by_cases z71 : inb v5 (mlA 18) = true
  case neg => exact op_none ((if_neg z71).symm.trans hv)
  have hv := (if_pos z71).symm.trans hv
  refine jm_iast C K G z71 dX12_devices_71 ?_
  exact tX12_devices_72 C K G  (pA S 18 (ix v5) 0) v2 v5 hv
set_option maxRecDepth 100000 in
theorem tX12_devices_56 {p : Program} {l : Launch} {e : Env} {s : State} {m : MethodId} {args : Array Value} {below : List Frame} {meth : Method} {c : Code} {g : MG} (C : CC p s m args meth c yX12_devices cX12_devices 10 (some .int)) (K : mK g s) (G : mSep g)  (S : MS) (v2 : Int32) (v5 : Int32) {w : Int32 × MS} (hv : fX12_devices_56 S v2 v5 = some w) : MJ p l e s m args below meth c 10 6 g (some (.int w.1)) w.2 56 [(0, .ref (mo g)), (2, .int v2), (5, .int v5)] [] S := by
  unfold fX12_devices_56 at hv
  refine jr_aload_n C dX12_devices_56 rfl 0 rfl ?_
  refine jm_getA C K 13 (by decide) (by decide) kw_1448 rfl dX12_devices_57 ?_
  refine jr_iload C dX12_devices_60 2 rfl ?_
  refine jr_lconst (v := 0) C dX12_devices_62 (by decide) ?_
  by_cases z63 : inb v5 (mlB 13) = true
  case neg => exact op_none ((if_neg z63).symm.trans hv)
  have hv := (if_pos z63).symm.trans hv
  refine jm_last C K G z63 dX12_devices_63 ?_
  exact tX12_devices_64 C K G  (pB S 13 (ix v5) 0) v2 v5 hv
set_option maxRecDepth 100000 in
theorem tX12_devices_55 {p : Program} {l : Launch} {e : Env} {s : State} {m : MethodId} {args : Array Value} {below : List Frame} {meth : Method} {c : Code} {g : MG} (C : CC p s m args meth c yX12_devices cX12_devices 10 (some .int)) (K : mK g s) (G : mSep g)  (S : MS) (v2 : Int32) (v5 : Int32) (t0 : Nat) (t1 : Int32) (t2 : Int64) {w : Int32 × MS} (hv : fX12_devices_55 S v2 v5 t0 t1 t2 = some w) : MJ p l e s m args below meth c 10 6 g (some (.int w.1)) w.2 55 [(0, .ref (mo g)), (2, .int v2), (5, .int v5)] [.long t2, .int t1, .ref (mad g t0)] S := by
  unfold fX12_devices_55 at hv
  by_cases z55 : inb t1 (mlB t0) = true
  case neg => exact op_none ((if_neg z55).symm.trans hv)
  have hv := (if_pos z55).symm.trans hv
  refine jm_last C K G z55 dX12_devices_55 ?_
  exact tX12_devices_56 C K G  (pB S t0 (ix t1) t2) v2 v5 hv
set_option maxRecDepth 100000 in
theorem tX12_devices_0 {p : Program} {l : Launch} {e : Env} {s : State} {m : MethodId} {args : Array Value} {below : List Frame} {meth : Method} {c : Code} {g : MG} (C : CC p s m args meth c yX12_devices cX12_devices 10 (some .int)) (K : mK g s) (G : mSep g)  (S : MS) (v1 : Int32) (v2 : Int32) (v3 : Int32) (v4 : Int32) {w : Int32 × MS} (hv : fX12_devices S v1 v2 v3 v4 = some w) : MJ p l e s m args below meth c 10 6 g (some (.int w.1)) w.2 0 [(0, .ref (mo g)), (1, .int v1), (2, .int v2), (3, .int v3), (4, .int v4)] [] S := by
  unfold fX12_devices at hv
  refine jr_iload_n C dX12_devices_0 rfl 1 rfl ?_
  refine jr_bipush (v := 88) C dX12_devices_1 (by decide) ?_
  refine jr_icmp_ne (tgt := 93) C dX12_devices_3 rfl (fun q3 => ?_) (fun q3 => ?_)
  · have hv := (if_neg q3).symm.trans hv
    refine jr_iload_n C dX12_devices_93 rfl 1 rfl ?_
    refine jr_bipush (v := 91) C dX12_devices_94 (by decide) ?_
    refine jr_icmp_eq (tgt := 105) C dX12_devices_96 rfl (fun q96 => ?_) (fun q96 => ?_)
    · have hv := (if_pos q96).symm.trans hv
      exact tX12_devices_105 C K G  S v1 v2 v3 v4 hv
    · have hv := (if_neg q96).symm.trans hv
      refine jr_iload_n C dX12_devices_99 rfl 1 rfl ?_
      refine jr_bipush (v := 92) C dX12_devices_100 (by decide) ?_
      refine jr_icmp_ne (tgt := 109) C dX12_devices_102 rfl (fun q102 => ?_) (fun q102 => ?_)
      · have hv := (if_neg q102).symm.trans hv
        refine jr_iload_n C dX12_devices_109 rfl 3 rfl ?_
        exact tX12_devices_110 C K G  S v1 v2 v3 v4 v3 hv
      · have hv := (if_pos q102).symm.trans hv
        exact tX12_devices_105 C K G  S v1 v2 v3 v4 hv
  · have hv := (if_pos q3).symm.trans hv
    refine jr_aload_n C dX12_devices_6 rfl 0 rfl ?_
    refine jr_lconst (v := 1) C dX12_devices_7 (by decide) ?_
    obtain ⟨c8, hc8, hv⟩ := Option.bind_eq_some_iff.mp hv
    refine jm_call (rest := []) C K G (pX12_hasRoom l G S 1 hc8) oX12_hasRoom rfl kw_1346 rfl ⟨Nat.le_of_ble_eq_true rfl, Nat.le_of_ble_eq_true rfl⟩ rfl (Nat.le_of_ble_eq_true rfl) ⟨Nat.zero_le _, Nat.zero_le _⟩ dX12_devices_8 ?_
    refine jr_if_ne (tgt := 17) C dX12_devices_11 rfl (fun q11 => ?_) (fun q11 => ?_)
    · have hv := (if_neg q11).symm.trans hv
      refine jr_aload_n C dX12_devices_17 rfl 0 rfl ?_
      refine jr_bipush (v := 13) C dX12_devices_18 (by decide) ?_
      refine jr_iload C dX12_devices_20 4 rfl ?_
      refine jr_iconst (v := 3) C dX12_devices_22 (by decide) ?_
      refine jr_iand C dX12_devices_23 ?_
      refine jr_iadd C dX12_devices_24 ?_
      obtain ⟨c25, hc25, hv⟩ := Option.bind_eq_some_iff.mp hv
      refine jm_call (rest := []) C K G (pX12_newThing l G c8.2 (13 + (v4 &&& 3)) hc25) oX12_newThing rfl kw_1355 rfl ⟨Nat.le_of_ble_eq_true rfl, Nat.le_of_ble_eq_true rfl⟩ rfl (Nat.le_of_ble_eq_true rfl) ⟨Nat.zero_le _, Nat.zero_le _⟩ dX12_devices_25 ?_
      refine jr_istore (lv' := [(5, .int c25.1), (0, .ref (mo g)), (1, .int v1), (2, .int v2), (3, .int v3), (4, .int v4)]) C dX12_devices_28 (by decide) rfl ?_
      refine jr_aload_n C dX12_devices_30 rfl 1 rfl ?_
      refine jm_getA C K 12 (by decide) (by decide) kw_1447 rfl dX12_devices_31 ?_
      refine jr_iload C dX12_devices_34 0 rfl ?_
      refine jr_aload_n C dX12_devices_36 rfl 1 rfl ?_
      refine jm_getA C K 6 (by decide) (by decide) kw_1441 rfl dX12_devices_37 ?_
      refine jr_iload C dX12_devices_40 0 rfl ?_
      by_cases z42 : inb c25.1 (mlA 6) = true
      case neg => exact op_none ((if_neg z42).symm.trans hv)
      have hv := (if_pos z42).symm.trans hv
      refine jm_iald C K z42 dX12_devices_42 ?_
      refine jr_bipush (v := 16) C dX12_devices_43 (by decide) ?_
      refine jr_icmp_ne (tgt := 54) C dX12_devices_45 rfl (fun q45 => ?_) (fun q45 => ?_)
      · have hv := (if_neg q45).symm.trans hv
        refine jr_lconst (v := 0) C dX12_devices_54 (by decide) ?_
        exact jr_sub [1, 3, 0] rfl (tX12_devices_55 C K G  c25.2 v2 c25.1 12 c25.1 0 hv)
      · have hv := (if_pos q45).symm.trans hv
        refine jr_ldc2 C kw_1208 dX12_devices_48 ?_
        refine jr_goto (tgt := 55) C dX12_devices_51 rfl ?_
        exact jr_sub [1, 3, 0] rfl (tX12_devices_55 C K G  c25.2 v2 c25.1 12 c25.1 9221120237041090560 hv)
    · have hv := (if_pos q11).symm.trans hv
      refine jr_bipush (v := 8) C dX12_devices_14 (by decide) ?_
      exact jm_iret C K dX12_devices_16 (Option.some.inj hv)
theorem pX12_devices (l : Launch) {g : MG} (G : mSep g) (S : MS) (v1 : Int32) (v2 : Int32) (v3 : Int32) (v4 : Int32) {w : Int32} {S' : MS} (hw : fX12_devices S v1 v2 v3 v4 = some (w, S')) : mC l yX12_devices cX12_devices 10 (some .int) 6 g [.ref (mo g), .int v1, .int v2, .int v3, .int v4] S (some (.int w)) S' := mC_of (by decide +kernel) (Nat.le_of_ble_eq_true rfl) rfl (fun C K => tX12_devices_0 C K G S v1 v2 v3 v4 hw)
/-! RobotCellModel.does(I)I -/
def fX12_does_236 (S : MS) : Option (Int32 × MS) :=
  some (2, S)
def fX12_does_211 (S : MS) (v2 : Int32) (v3 : Int32) (v4 : Int32) (v5 : Int32) : Option (Int32 × MS) :=
  if v2 < 88 then fX12_does_236 S else (if 92 < v2 then fX12_does_236 S else (Option.bind (fX12_devices S v2 v3 v4 v5) (fun c230 => some (c230.1, c230.2))))
def fX12_does_188 (S : MS) (v2 : Int32) (v3 : Int32) (v4 : Int32) (v5 : Int32) : Option (Int32 × MS) :=
  if v2 < 80 then fX12_does_211 S v2 v3 v4 v5 else (if 84 < v2 then fX12_does_211 S v2 v3 v4 v5 else (Option.bind (fX12_poses S v2 v3 v4 v5) (fun c207 => some (c207.1, c207.2))))
def fX12_does_159 (S : MS) (v2 : Int32) (v3 : Int32) (v4 : Int32) (v5 : Int32) : Option (Int32 × MS) :=
  if v2 < 64 then fX12_does_188 S v2 v3 v4 v5 else (if 74 < v2 then fX12_does_188 S v2 v3 v4 v5 else (Option.bind (fX12_stores S (v2 - 64) (v3 &&& 15) v4 v5) (fun c184 => some (c184.1, c184.2))))
def fX12_does_130 (S : MS) (v2 : Int32) (v3 : Int32) (v4 : Int32) (v5 : Int32) : Option (Int32 × MS) :=
  if v2 < 48 then fX12_does_159 S v2 v3 v4 v5 else (if 58 < v2 then fX12_does_159 S v2 v3 v4 v5 else (Option.bind (fX12_loads S (v2 - 48) (v3 &&& 15) v4 v5) (fun c155 => some (c155.1, c155.2))))
def fX12_does_107 (S : MS) (v2 : Int32) (v3 : Int32) (v4 : Int32) (v5 : Int32) : Option (Int32 × MS) :=
  if v2 < 40 then fX12_does_130 S v2 v3 v4 v5 else (if 47 < v2 then fX12_does_130 S v2 v3 v4 v5 else (Option.bind (fX12_rows S v2 v3 v4 v5) (fun c126 => some (c126.1, c126.2))))
def fX12_does_81 (S : MS) (v2 : Int32) (v3 : Int32) (v4 : Int32) (v5 : Int32) : Option (Int32 × MS) :=
  if v2 < 24 then fX12_does_107 S v2 v3 v4 v5 else (if 34 < v2 then fX12_does_107 S v2 v3 v4 v5 else (Option.bind (fX12_measures S v2 (v3 &&& 15) v4 v5) (fun c103 => some (c103.1, c103.2))))
def fX12_does_54 (S : MS) (v1 : Int32) (v2 : Int32) (v3 : Int32) (v4 : Int32) (v5 : Int32) : Option (Int32 × MS) :=
  if v2 ≤ 12 then fX12_does_81 S v2 v3 v4 v5 else (if 22 ≤ v2 then fX12_does_81 S v2 v3 v4 v5 else (Option.bind (fX12_controls S v2 (v3 &&& 15) v4 v5 v1) (fun c77 => some (c77.1, c77.2))))
def fX12_does_30 (S : MS) (v1 : Int32) (v2 : Int32) (v3 : Int32) (v4 : Int32) (v5 : Int32) : Option (Int32 × MS) :=
  if v2 ≤ 0 then fX12_does_54 S v1 v2 v3 v4 v5 else (if 13 ≤ v2 then fX12_does_54 S v1 v2 v3 v4 v5 else (Option.bind (fX12_reckons S v2 (v3 &&& 15) v4 v5) (fun c50 => some (c50.1, c50.2))))
def fX12_does_22 (S : MS) (v1 : Int32) (v2 : Int32) (v3 : Int32) (v4 : Int32) : Option (Int32 × MS) :=
  if inb v1 (mlA 24) = true then fX12_does_30 S v1 v2 v3 v4 (gA S 24 (ix v1)) else none
def fX12_does_14 (S : MS) (v1 : Int32) (v2 : Int32) (v3 : Int32) : Option (Int32 × MS) :=
  if inb v1 (mlA 23) = true then fX12_does_22 S v1 v2 v3 (gA S 23 (ix v1)) else none
def fX12_does_7 (S : MS) (v1 : Int32) (v2 : Int32) : Option (Int32 × MS) :=
  if inb v1 (mlA 22) = true then fX12_does_14 S v1 v2 (gA S 22 (ix v1)) else none
def fX12_does (S : MS) (v1 : Int32) : Option (Int32 × MS) :=
  if inb v1 (mlA 21) = true then fX12_does_7 S v1 (gA S 21 (ix v1)) else none
theorem oX12_does : ok_v yX12_does cX12_does 6 (some .int) 1 := ⟨kw_1188, kw_1187, kw_46, kw_73, by decide +kernel⟩
set_option maxRecDepth 100000 in
theorem tX12_does_236 {p : Program} {l : Launch} {e : Env} {s : State} {m : MethodId} {args : Array Value} {below : List Frame} {meth : Method} {c : Code} {g : MG} (C : CC p s m args meth c yX12_does cX12_does 6 (some .int)) (K : mK g s) (G : mSep g)  (S : MS) {w : Int32 × MS} (hv : fX12_does_236 S = some w) : MJ p l e s m args below meth c 6 7 g (some (.int w.1)) w.2 236 [] [] S := by
  unfold fX12_does_236 at hv
  refine jr_iconst (v := 2) C dX12_does_236 (by decide) ?_
  exact jm_iret C K dX12_does_237 (Option.some.inj hv)
set_option maxRecDepth 100000 in
theorem tX12_does_211 {p : Program} {l : Launch} {e : Env} {s : State} {m : MethodId} {args : Array Value} {below : List Frame} {meth : Method} {c : Code} {g : MG} (C : CC p s m args meth c yX12_does cX12_does 6 (some .int)) (K : mK g s) (G : mSep g)  (S : MS) (v2 : Int32) (v3 : Int32) (v4 : Int32) (v5 : Int32) {w : Int32 × MS} (hv : fX12_does_211 S v2 v3 v4 v5 = some w) : MJ p l e s m args below meth c 6 7 g (some (.int w.1)) w.2 211 [(0, .ref (mo g)), (2, .int v2), (3, .int v3), (4, .int v4), (5, .int v5)] [] S := by
  unfold fX12_does_211 at hv
  refine jr_iload_n C dX12_does_211 rfl 1 rfl ?_
  refine jr_bipush (v := 88) C dX12_does_212 (by decide) ?_
  refine jr_icmp_lt (tgt := 236) C dX12_does_214 rfl (fun q214 => ?_) (fun q214 => ?_)
  · have hv := (if_pos q214).symm.trans hv
    exact jr_sub [] rfl (tX12_does_236 C K G  S hv)
  · have hv := (if_neg q214).symm.trans hv
    refine jr_iload_n C dX12_does_217 rfl 1 rfl ?_
    refine jr_bipush (v := 92) C dX12_does_218 (by decide) ?_
    refine jr_icmp_gt (tgt := 236) C dX12_does_220 rfl (fun q220 => ?_) (fun q220 => ?_)
    · have hv := (if_pos q220).symm.trans hv
      exact jr_sub [] rfl (tX12_does_236 C K G  S hv)
    · have hv := (if_neg q220).symm.trans hv
      refine jr_aload_n C dX12_does_223 rfl 0 rfl ?_
      refine jr_iload_n C dX12_does_224 rfl 1 rfl ?_
      refine jr_iload_n C dX12_does_225 rfl 2 rfl ?_
      refine jr_iload C dX12_does_226 3 rfl ?_
      refine jr_iload C dX12_does_228 4 rfl ?_
      obtain ⟨c230, hc230, hv⟩ := Option.bind_eq_some_iff.mp hv
      refine jm_call (rest := []) C K G (pX12_devices l G S v2 v3 v4 v5 hc230) oX12_devices rfl kw_1395 rfl ⟨Nat.le_of_ble_eq_true rfl, Nat.le_of_ble_eq_true rfl⟩ rfl (Nat.le_of_ble_eq_true rfl) ⟨Nat.zero_le _, Nat.zero_le _⟩ dX12_does_230 ?_
      refine jr_goto (tgt := 237) C dX12_does_233 rfl ?_
      exact jm_iret C K dX12_does_237 (Option.some.inj hv)
set_option maxRecDepth 100000 in
theorem tX12_does_188 {p : Program} {l : Launch} {e : Env} {s : State} {m : MethodId} {args : Array Value} {below : List Frame} {meth : Method} {c : Code} {g : MG} (C : CC p s m args meth c yX12_does cX12_does 6 (some .int)) (K : mK g s) (G : mSep g)  (S : MS) (v2 : Int32) (v3 : Int32) (v4 : Int32) (v5 : Int32) {w : Int32 × MS} (hv : fX12_does_188 S v2 v3 v4 v5 = some w) : MJ p l e s m args below meth c 6 7 g (some (.int w.1)) w.2 188 [(0, .ref (mo g)), (2, .int v2), (3, .int v3), (4, .int v4), (5, .int v5)] [] S := by
  unfold fX12_does_188 at hv
  refine jr_iload_n C dX12_does_188 rfl 1 rfl ?_
  refine jr_bipush (v := 80) C dX12_does_189 (by decide) ?_
  refine jr_icmp_lt (tgt := 211) C dX12_does_191 rfl (fun q191 => ?_) (fun q191 => ?_)
  · have hv := (if_pos q191).symm.trans hv
    exact tX12_does_211 C K G  S v2 v3 v4 v5 hv
  · have hv := (if_neg q191).symm.trans hv
    refine jr_iload_n C dX12_does_194 rfl 1 rfl ?_
    refine jr_bipush (v := 84) C dX12_does_195 (by decide) ?_
    refine jr_icmp_gt (tgt := 211) C dX12_does_197 rfl (fun q197 => ?_) (fun q197 => ?_)
    · have hv := (if_pos q197).symm.trans hv
      exact tX12_does_211 C K G  S v2 v3 v4 v5 hv
    · have hv := (if_neg q197).symm.trans hv
      refine jr_aload_n C dX12_does_200 rfl 0 rfl ?_
      refine jr_iload_n C dX12_does_201 rfl 1 rfl ?_
      refine jr_iload_n C dX12_does_202 rfl 2 rfl ?_
      refine jr_iload C dX12_does_203 3 rfl ?_
      refine jr_iload C dX12_does_205 4 rfl ?_
      obtain ⟨c207, hc207, hv⟩ := Option.bind_eq_some_iff.mp hv
      refine jm_call (rest := []) C K G (pX12_poses l G S v2 v3 v4 v5 hc207) oX12_poses rfl kw_1387 rfl ⟨Nat.le_of_ble_eq_true rfl, Nat.le_of_ble_eq_true rfl⟩ rfl (Nat.le_of_ble_eq_true rfl) ⟨Nat.zero_le _, Nat.zero_le _⟩ dX12_does_207 ?_
      exact jm_iret C K dX12_does_210 (Option.some.inj hv)
set_option maxRecDepth 100000 in
theorem tX12_does_159 {p : Program} {l : Launch} {e : Env} {s : State} {m : MethodId} {args : Array Value} {below : List Frame} {meth : Method} {c : Code} {g : MG} (C : CC p s m args meth c yX12_does cX12_does 6 (some .int)) (K : mK g s) (G : mSep g)  (S : MS) (v2 : Int32) (v3 : Int32) (v4 : Int32) (v5 : Int32) {w : Int32 × MS} (hv : fX12_does_159 S v2 v3 v4 v5 = some w) : MJ p l e s m args below meth c 6 7 g (some (.int w.1)) w.2 159 [(0, .ref (mo g)), (2, .int v2), (3, .int v3), (4, .int v4), (5, .int v5)] [] S := by
  unfold fX12_does_159 at hv
  refine jr_iload_n C dX12_does_159 rfl 1 rfl ?_
  refine jr_bipush (v := 64) C dX12_does_160 (by decide) ?_
  refine jr_icmp_lt (tgt := 188) C dX12_does_162 rfl (fun q162 => ?_) (fun q162 => ?_)
  · have hv := (if_pos q162).symm.trans hv
    exact tX12_does_188 C K G  S v2 v3 v4 v5 hv
  · have hv := (if_neg q162).symm.trans hv
    refine jr_iload_n C dX12_does_165 rfl 1 rfl ?_
    refine jr_bipush (v := 74) C dX12_does_166 (by decide) ?_
    refine jr_icmp_gt (tgt := 188) C dX12_does_168 rfl (fun q168 => ?_) (fun q168 => ?_)
    · have hv := (if_pos q168).symm.trans hv
      exact tX12_does_188 C K G  S v2 v3 v4 v5 hv
    · have hv := (if_neg q168).symm.trans hv
      refine jr_aload_n C dX12_does_171 rfl 0 rfl ?_
      refine jr_iload_n C dX12_does_172 rfl 1 rfl ?_
      refine jr_bipush (v := 64) C dX12_does_173 (by decide) ?_
      refine jr_isub C dX12_does_175 ?_
      refine jr_iload_n C dX12_does_176 rfl 2 rfl ?_
      refine jr_bipush (v := 15) C dX12_does_177 (by decide) ?_
      refine jr_iand C dX12_does_179 ?_
      refine jr_iload C dX12_does_180 3 rfl ?_
      refine jr_iload C dX12_does_182 4 rfl ?_
      obtain ⟨c184, hc184, hv⟩ := Option.bind_eq_some_iff.mp hv
      refine jm_call (rest := []) C K G (pX12_stores l G S (v2 - 64) (v3 &&& 15) v4 v5 hc184) oX12_stores rfl kw_1382 rfl ⟨Nat.le_of_ble_eq_true rfl, Nat.le_of_ble_eq_true rfl⟩ rfl (Nat.le_of_ble_eq_true rfl) ⟨Nat.zero_le _, Nat.zero_le _⟩ dX12_does_184 ?_
      exact jm_iret C K dX12_does_187 (Option.some.inj hv)
set_option maxRecDepth 100000 in
theorem tX12_does_130 {p : Program} {l : Launch} {e : Env} {s : State} {m : MethodId} {args : Array Value} {below : List Frame} {meth : Method} {c : Code} {g : MG} (C : CC p s m args meth c yX12_does cX12_does 6 (some .int)) (K : mK g s) (G : mSep g)  (S : MS) (v2 : Int32) (v3 : Int32) (v4 : Int32) (v5 : Int32) {w : Int32 × MS} (hv : fX12_does_130 S v2 v3 v4 v5 = some w) : MJ p l e s m args below meth c 6 7 g (some (.int w.1)) w.2 130 [(0, .ref (mo g)), (2, .int v2), (3, .int v3), (4, .int v4), (5, .int v5)] [] S := by
  unfold fX12_does_130 at hv
  refine jr_iload_n C dX12_does_130 rfl 1 rfl ?_
  refine jr_bipush (v := 48) C dX12_does_131 (by decide) ?_
  refine jr_icmp_lt (tgt := 159) C dX12_does_133 rfl (fun q133 => ?_) (fun q133 => ?_)
  · have hv := (if_pos q133).symm.trans hv
    exact tX12_does_159 C K G  S v2 v3 v4 v5 hv
  · have hv := (if_neg q133).symm.trans hv
    refine jr_iload_n C dX12_does_136 rfl 1 rfl ?_
    refine jr_bipush (v := 58) C dX12_does_137 (by decide) ?_
    refine jr_icmp_gt (tgt := 159) C dX12_does_139 rfl (fun q139 => ?_) (fun q139 => ?_)
    · have hv := (if_pos q139).symm.trans hv
      exact tX12_does_159 C K G  S v2 v3 v4 v5 hv
    · have hv := (if_neg q139).symm.trans hv
      refine jr_aload_n C dX12_does_142 rfl 0 rfl ?_
      refine jr_iload_n C dX12_does_143 rfl 1 rfl ?_
      refine jr_bipush (v := 48) C dX12_does_144 (by decide) ?_
      refine jr_isub C dX12_does_146 ?_
      refine jr_iload_n C dX12_does_147 rfl 2 rfl ?_
      refine jr_bipush (v := 15) C dX12_does_148 (by decide) ?_
      refine jr_iand C dX12_does_150 ?_
      refine jr_iload C dX12_does_151 3 rfl ?_
      refine jr_iload C dX12_does_153 4 rfl ?_
      obtain ⟨c155, hc155, hv⟩ := Option.bind_eq_some_iff.mp hv
      refine jm_call (rest := []) C K G (pX12_loads l G S (v2 - 48) (v3 &&& 15) v4 v5 hc155) oX12_loads rfl kw_1378 rfl ⟨Nat.le_of_ble_eq_true rfl, Nat.le_of_ble_eq_true rfl⟩ rfl (Nat.le_of_ble_eq_true rfl) ⟨Nat.zero_le _, Nat.zero_le _⟩ dX12_does_155 ?_
      exact jm_iret C K dX12_does_158 (Option.some.inj hv)
set_option maxRecDepth 100000 in
theorem tX12_does_107 {p : Program} {l : Launch} {e : Env} {s : State} {m : MethodId} {args : Array Value} {below : List Frame} {meth : Method} {c : Code} {g : MG} (C : CC p s m args meth c yX12_does cX12_does 6 (some .int)) (K : mK g s) (G : mSep g)  (S : MS) (v2 : Int32) (v3 : Int32) (v4 : Int32) (v5 : Int32) {w : Int32 × MS} (hv : fX12_does_107 S v2 v3 v4 v5 = some w) : MJ p l e s m args below meth c 6 7 g (some (.int w.1)) w.2 107 [(0, .ref (mo g)), (2, .int v2), (3, .int v3), (4, .int v4), (5, .int v5)] [] S := by
  unfold fX12_does_107 at hv
  refine jr_iload_n C dX12_does_107 rfl 1 rfl ?_
  refine jr_bipush (v := 40) C dX12_does_108 (by decide) ?_
  refine jr_icmp_lt (tgt := 130) C dX12_does_110 rfl (fun q110 => ?_) (fun q110 => ?_)
  · have hv := (if_pos q110).symm.trans hv
    exact tX12_does_130 C K G  S v2 v3 v4 v5 hv
  · have hv := (if_neg q110).symm.trans hv
    refine jr_iload_n C dX12_does_113 rfl 1 rfl ?_
    refine jr_bipush (v := 47) C dX12_does_114 (by decide) ?_
    refine jr_icmp_gt (tgt := 130) C dX12_does_116 rfl (fun q116 => ?_) (fun q116 => ?_)
    · have hv := (if_pos q116).symm.trans hv
      exact tX12_does_130 C K G  S v2 v3 v4 v5 hv
    · have hv := (if_neg q116).symm.trans hv
      refine jr_aload_n C dX12_does_119 rfl 0 rfl ?_
      refine jr_iload_n C dX12_does_120 rfl 1 rfl ?_
      refine jr_iload_n C dX12_does_121 rfl 2 rfl ?_
      refine jr_iload C dX12_does_122 3 rfl ?_
      refine jr_iload C dX12_does_124 4 rfl ?_
      obtain ⟨c126, hc126, hv⟩ := Option.bind_eq_some_iff.mp hv
      refine jm_call (rest := []) C K G (pX12_rows l G S v2 v3 v4 v5 hc126) oX12_rows rfl kw_1337 rfl ⟨Nat.le_of_ble_eq_true rfl, Nat.le_of_ble_eq_true rfl⟩ rfl (Nat.le_of_ble_eq_true rfl) ⟨Nat.zero_le _, Nat.zero_le _⟩ dX12_does_126 ?_
      exact jm_iret C K dX12_does_129 (Option.some.inj hv)
set_option maxRecDepth 100000 in
theorem tX12_does_81 {p : Program} {l : Launch} {e : Env} {s : State} {m : MethodId} {args : Array Value} {below : List Frame} {meth : Method} {c : Code} {g : MG} (C : CC p s m args meth c yX12_does cX12_does 6 (some .int)) (K : mK g s) (G : mSep g)  (S : MS) (v2 : Int32) (v3 : Int32) (v4 : Int32) (v5 : Int32) {w : Int32 × MS} (hv : fX12_does_81 S v2 v3 v4 v5 = some w) : MJ p l e s m args below meth c 6 7 g (some (.int w.1)) w.2 81 [(0, .ref (mo g)), (2, .int v2), (3, .int v3), (4, .int v4), (5, .int v5)] [] S := by
  unfold fX12_does_81 at hv
  refine jr_iload_n C dX12_does_81 rfl 1 rfl ?_
  refine jr_bipush (v := 24) C dX12_does_82 (by decide) ?_
  refine jr_icmp_lt (tgt := 107) C dX12_does_84 rfl (fun q84 => ?_) (fun q84 => ?_)
  · have hv := (if_pos q84).symm.trans hv
    exact tX12_does_107 C K G  S v2 v3 v4 v5 hv
  · have hv := (if_neg q84).symm.trans hv
    refine jr_iload_n C dX12_does_87 rfl 1 rfl ?_
    refine jr_bipush (v := 34) C dX12_does_88 (by decide) ?_
    refine jr_icmp_gt (tgt := 107) C dX12_does_90 rfl (fun q90 => ?_) (fun q90 => ?_)
    · have hv := (if_pos q90).symm.trans hv
      exact tX12_does_107 C K G  S v2 v3 v4 v5 hv
    · have hv := (if_neg q90).symm.trans hv
      refine jr_aload_n C dX12_does_93 rfl 0 rfl ?_
      refine jr_iload_n C dX12_does_94 rfl 1 rfl ?_
      refine jr_iload_n C dX12_does_95 rfl 2 rfl ?_
      refine jr_bipush (v := 15) C dX12_does_96 (by decide) ?_
      refine jr_iand C dX12_does_98 ?_
      refine jr_iload C dX12_does_99 3 rfl ?_
      refine jr_iload C dX12_does_101 4 rfl ?_
      obtain ⟨c103, hc103, hv⟩ := Option.bind_eq_some_iff.mp hv
      refine jm_call (rest := []) C K G (pX12_measures l G S v2 (v3 &&& 15) v4 v5 hc103) oX12_measures rfl kw_1209 rfl ⟨Nat.le_of_ble_eq_true rfl, Nat.le_of_ble_eq_true rfl⟩ rfl (Nat.le_of_ble_eq_true rfl) ⟨Nat.zero_le _, Nat.zero_le _⟩ dX12_does_103 ?_
      exact jm_iret C K dX12_does_106 (Option.some.inj hv)
set_option maxRecDepth 100000 in
theorem tX12_does_54 {p : Program} {l : Launch} {e : Env} {s : State} {m : MethodId} {args : Array Value} {below : List Frame} {meth : Method} {c : Code} {g : MG} (C : CC p s m args meth c yX12_does cX12_does 6 (some .int)) (K : mK g s) (G : mSep g)  (S : MS) (v1 : Int32) (v2 : Int32) (v3 : Int32) (v4 : Int32) (v5 : Int32) {w : Int32 × MS} (hv : fX12_does_54 S v1 v2 v3 v4 v5 = some w) : MJ p l e s m args below meth c 6 7 g (some (.int w.1)) w.2 54 [(0, .ref (mo g)), (1, .int v1), (2, .int v2), (3, .int v3), (4, .int v4), (5, .int v5)] [] S := by
  unfold fX12_does_54 at hv
  refine jr_iload_n C dX12_does_54 rfl 2 rfl ?_
  refine jr_bipush (v := 12) C dX12_does_55 (by decide) ?_
  refine jr_icmp_le (tgt := 81) C dX12_does_57 rfl (fun q57 => ?_) (fun q57 => ?_)
  · have hv := (if_pos q57).symm.trans hv
    exact jr_sub [0, 2, 3, 4, 5] rfl (tX12_does_81 C K G  S v2 v3 v4 v5 hv)
  · have hv := (if_neg q57).symm.trans hv
    refine jr_iload_n C dX12_does_60 rfl 2 rfl ?_
    refine jr_bipush (v := 22) C dX12_does_61 (by decide) ?_
    refine jr_icmp_ge (tgt := 81) C dX12_does_63 rfl (fun q63 => ?_) (fun q63 => ?_)
    · have hv := (if_pos q63).symm.trans hv
      exact jr_sub [0, 2, 3, 4, 5] rfl (tX12_does_81 C K G  S v2 v3 v4 v5 hv)
    · have hv := (if_neg q63).symm.trans hv
      refine jr_aload_n C dX12_does_66 rfl 0 rfl ?_
      refine jr_iload_n C dX12_does_67 rfl 2 rfl ?_
      refine jr_iload_n C dX12_does_68 rfl 3 rfl ?_
      refine jr_bipush (v := 15) C dX12_does_69 (by decide) ?_
      refine jr_iand C dX12_does_71 ?_
      refine jr_iload C dX12_does_72 4 rfl ?_
      refine jr_iload C dX12_does_74 5 rfl ?_
      refine jr_iload_n C dX12_does_76 rfl 1 rfl ?_
      obtain ⟨c77, hc77, hv⟩ := Option.bind_eq_some_iff.mp hv
      refine jm_call (rest := []) C K G (pX12_controls l G S v2 (v3 &&& 15) v4 v5 v1 hc77) oX12_controls rfl kw_1195 rfl ⟨Nat.le_of_ble_eq_true rfl, Nat.le_of_ble_eq_true rfl⟩ rfl (Nat.le_of_ble_eq_true rfl) ⟨Nat.zero_le _, Nat.zero_le _⟩ dX12_does_77 ?_
      exact jm_iret C K dX12_does_80 (Option.some.inj hv)
set_option maxRecDepth 100000 in
theorem tX12_does_30 {p : Program} {l : Launch} {e : Env} {s : State} {m : MethodId} {args : Array Value} {below : List Frame} {meth : Method} {c : Code} {g : MG} (C : CC p s m args meth c yX12_does cX12_does 6 (some .int)) (K : mK g s) (G : mSep g)  (S : MS) (v1 : Int32) (v2 : Int32) (v3 : Int32) (v4 : Int32) (v5 : Int32) {w : Int32 × MS} (hv : fX12_does_30 S v1 v2 v3 v4 v5 = some w) : MJ p l e s m args below meth c 6 7 g (some (.int w.1)) w.2 30 [(0, .ref (mo g)), (1, .int v1), (2, .int v2), (3, .int v3), (4, .int v4), (5, .int v5)] [] S := by
  unfold fX12_does_30 at hv
  refine jr_iload_n C dX12_does_30 rfl 2 rfl ?_
  refine jr_if_le (tgt := 54) C dX12_does_31 rfl (fun q31 => ?_) (fun q31 => ?_)
  · have hv := (if_pos q31).symm.trans hv
    exact tX12_does_54 C K G  S v1 v2 v3 v4 v5 hv
  · have hv := (if_neg q31).symm.trans hv
    refine jr_iload_n C dX12_does_34 rfl 2 rfl ?_
    refine jr_bipush (v := 13) C dX12_does_35 (by decide) ?_
    refine jr_icmp_ge (tgt := 54) C dX12_does_37 rfl (fun q37 => ?_) (fun q37 => ?_)
    · have hv := (if_pos q37).symm.trans hv
      exact tX12_does_54 C K G  S v1 v2 v3 v4 v5 hv
    · have hv := (if_neg q37).symm.trans hv
      refine jr_aload_n C dX12_does_40 rfl 0 rfl ?_
      refine jr_iload_n C dX12_does_41 rfl 2 rfl ?_
      refine jr_iload_n C dX12_does_42 rfl 3 rfl ?_
      refine jr_bipush (v := 15) C dX12_does_43 (by decide) ?_
      refine jr_iand C dX12_does_45 ?_
      refine jr_iload C dX12_does_46 4 rfl ?_
      refine jr_iload C dX12_does_48 5 rfl ?_
      obtain ⟨c50, hc50, hv⟩ := Option.bind_eq_some_iff.mp hv
      refine jm_call (rest := []) C K G (pX12_reckons l G S v2 (v3 &&& 15) v4 v5 hc50) oX12_reckons rfl kw_1189 rfl ⟨Nat.le_of_ble_eq_true rfl, Nat.le_of_ble_eq_true rfl⟩ rfl (Nat.le_of_ble_eq_true rfl) ⟨Nat.zero_le _, Nat.zero_le _⟩ dX12_does_50 ?_
      exact jm_iret C K dX12_does_53 (Option.some.inj hv)
set_option maxRecDepth 100000 in
theorem tX12_does_22 {p : Program} {l : Launch} {e : Env} {s : State} {m : MethodId} {args : Array Value} {below : List Frame} {meth : Method} {c : Code} {g : MG} (C : CC p s m args meth c yX12_does cX12_does 6 (some .int)) (K : mK g s) (G : mSep g)  (S : MS) (v1 : Int32) (v2 : Int32) (v3 : Int32) (v4 : Int32) {w : Int32 × MS} (hv : fX12_does_22 S v1 v2 v3 v4 = some w) : MJ p l e s m args below meth c 6 7 g (some (.int w.1)) w.2 22 [(0, .ref (mo g)), (1, .int v1), (2, .int v2), (3, .int v3), (4, .int v4)] [] S := by
  unfold fX12_does_22 at hv
  refine jr_aload_n C dX12_does_22 rfl 0 rfl ?_
  refine jm_getA C K 24 (by decide) (by decide) kw_1459 rfl dX12_does_23 ?_
  refine jr_iload_n C dX12_does_26 rfl 1 rfl ?_
  by_cases z27 : inb v1 (mlA 24) = true
  case neg => exact op_none ((if_neg z27).symm.trans hv)
  have hv := (if_pos z27).symm.trans hv
  refine jm_iald C K z27 dX12_does_27 ?_
  refine jr_istore (lv' := [(5, .int (gA S 24 (ix v1))), (0, .ref (mo g)), (1, .int v1), (2, .int v2), (3, .int v3), (4, .int v4)]) C dX12_does_28 (by decide) rfl ?_
  exact jr_sub [1, 2, 3, 4, 5, 0] rfl (tX12_does_30 C K G  S v1 v2 v3 v4 (gA S 24 (ix v1)) hv)
set_option maxRecDepth 100000 in
theorem tX12_does_14 {p : Program} {l : Launch} {e : Env} {s : State} {m : MethodId} {args : Array Value} {below : List Frame} {meth : Method} {c : Code} {g : MG} (C : CC p s m args meth c yX12_does cX12_does 6 (some .int)) (K : mK g s) (G : mSep g)  (S : MS) (v1 : Int32) (v2 : Int32) (v3 : Int32) {w : Int32 × MS} (hv : fX12_does_14 S v1 v2 v3 = some w) : MJ p l e s m args below meth c 6 7 g (some (.int w.1)) w.2 14 [(0, .ref (mo g)), (1, .int v1), (2, .int v2), (3, .int v3)] [] S := by
  unfold fX12_does_14 at hv
  refine jr_aload_n C dX12_does_14 rfl 0 rfl ?_
  refine jm_getA C K 23 (by decide) (by decide) kw_1458 rfl dX12_does_15 ?_
  refine jr_iload_n C dX12_does_18 rfl 1 rfl ?_
  by_cases z19 : inb v1 (mlA 23) = true
  case neg => exact op_none ((if_neg z19).symm.trans hv)
  have hv := (if_pos z19).symm.trans hv
  refine jm_iald C K z19 dX12_does_19 ?_
  refine jr_istore (lv' := [(4, .int (gA S 23 (ix v1))), (0, .ref (mo g)), (1, .int v1), (2, .int v2), (3, .int v3)]) C dX12_does_20 (by decide) rfl ?_
  exact jr_sub [1, 2, 3, 4, 0] rfl (tX12_does_22 C K G  S v1 v2 v3 (gA S 23 (ix v1)) hv)
set_option maxRecDepth 100000 in
theorem tX12_does_7 {p : Program} {l : Launch} {e : Env} {s : State} {m : MethodId} {args : Array Value} {below : List Frame} {meth : Method} {c : Code} {g : MG} (C : CC p s m args meth c yX12_does cX12_does 6 (some .int)) (K : mK g s) (G : mSep g)  (S : MS) (v1 : Int32) (v2 : Int32) {w : Int32 × MS} (hv : fX12_does_7 S v1 v2 = some w) : MJ p l e s m args below meth c 6 7 g (some (.int w.1)) w.2 7 [(0, .ref (mo g)), (1, .int v1), (2, .int v2)] [] S := by
  unfold fX12_does_7 at hv
  refine jr_aload_n C dX12_does_7 rfl 0 rfl ?_
  refine jm_getA C K 22 (by decide) (by decide) kw_1457 rfl dX12_does_8 ?_
  refine jr_iload_n C dX12_does_11 rfl 1 rfl ?_
  by_cases z12 : inb v1 (mlA 22) = true
  case neg => exact op_none ((if_neg z12).symm.trans hv)
  have hv := (if_pos z12).symm.trans hv
  refine jm_iald C K z12 dX12_does_12 ?_
  refine jr_istore_n (lv' := [(3, .int (gA S 22 (ix v1))), (0, .ref (mo g)), (1, .int v1), (2, .int v2)]) C dX12_does_13 rfl (by decide) rfl ?_
  exact jr_sub [1, 2, 3, 0] rfl (tX12_does_14 C K G  S v1 v2 (gA S 22 (ix v1)) hv)
set_option maxRecDepth 100000 in
theorem tX12_does_0 {p : Program} {l : Launch} {e : Env} {s : State} {m : MethodId} {args : Array Value} {below : List Frame} {meth : Method} {c : Code} {g : MG} (C : CC p s m args meth c yX12_does cX12_does 6 (some .int)) (K : mK g s) (G : mSep g)  (S : MS) (v1 : Int32) {w : Int32 × MS} (hv : fX12_does S v1 = some w) : MJ p l e s m args below meth c 6 7 g (some (.int w.1)) w.2 0 [(0, .ref (mo g)), (1, .int v1)] [] S := by
  unfold fX12_does at hv
  refine jr_aload_n C dX12_does_0 rfl 0 rfl ?_
  refine jm_getA C K 21 (by decide) (by decide) kw_1456 rfl dX12_does_1 ?_
  refine jr_iload_n C dX12_does_4 rfl 1 rfl ?_
  by_cases z5 : inb v1 (mlA 21) = true
  case neg => exact op_none ((if_neg z5).symm.trans hv)
  have hv := (if_pos z5).symm.trans hv
  refine jm_iald C K z5 dX12_does_5 ?_
  refine jr_istore_n (lv' := [(2, .int (gA S 21 (ix v1))), (0, .ref (mo g)), (1, .int v1)]) C dX12_does_6 rfl (by decide) rfl ?_
  exact jr_sub [1, 2, 0] rfl (tX12_does_7 C K G  S v1 (gA S 21 (ix v1)) hv)
theorem pX12_does (l : Launch) {g : MG} (G : mSep g) (S : MS) (v1 : Int32) {w : Int32} {S' : MS} (hw : fX12_does S v1 = some (w, S')) : mC l yX12_does cX12_does 6 (some .int) 7 g [.ref (mo g), .int v1] S (some (.int w)) S' := mC_of (by decide +kernel) (Nat.le_of_ble_eq_true rfl) rfl (fun C K => tX12_does_0 C K G S v1 hw)
/-! RobotCellModel.steps()V -/
def fX12_steps_26 (S : MS) (v1 : Int32) : Option (MS) :=
  Option.bind (fX12_through S v1) (fun c28 => some c28)
def fX12_steps_76 (S : MS) (v1 : Int32) (v2 : Int32) : Option (MS) :=
  if inb v2 (mlA 21) = true then (if (gA S 21 (ix v2)) = 0 then (Option.bind (fX12_through S v1) (fun c87 => some c87)) else (Option.bind (fX12_does S v2) (fun c93 => if c93.1 ≤ 0 then some c93.2 else (Option.bind (fX12_comes c93.2 c93.1 v2) (fun c104 => some c104))))) else none
def fX12_steps_66 (S : MS) (v1 : Int32) (v2 : Int32) : Option (MS) :=
  if inb v1 (mlA 29) = true then (if inb v1 (mlA 29) = true then fX12_steps_76 (pA S 29 (ix v1) ((gA S 29 (ix v1)) + 1)) v1 v2 else none) else none
def fX12_steps_56 (S : MS) (v1 : Int32) (v2 : Int32) : Option (MS) :=
  fX12_steps_66 (pI S 39 ((gI S 39) + 1)) v1 v2
def fX12_steps_45 (S : MS) : Option (MS) :=
  some S
def fX12_steps_14 (S : MS) (v1 : Int32) (v2 : Int32) : Option (MS) :=
  if v2 < 0 then fX12_steps_26 S v1 else (if v2 < (gI S 25) then (if (gI S 38) = 0 then fX12_steps_45 (pI S 41 10) else fX12_steps_56 (pI S 38 ((gI S 38) - 1)) v1 v2) else fX12_steps_26 S v1)
def fX12_steps_7 (S : MS) (v1 : Int32) : Option (MS) :=
  if inb v1 (mlA 29) = true then fX12_steps_14 S v1 (gA S 29 (ix v1)) else none
def fX12_steps (S : MS) : Option (MS) :=
  fX12_steps_7 S ((gI S 37) - 1)
theorem oX12_steps : ok_v yX12_steps cX12_steps 4 none 0 := ⟨kw_1176, kw_1175, kw_43, kw_73, by decide +kernel⟩
set_option maxRecDepth 100000 in
theorem tX12_steps_26 {p : Program} {l : Launch} {e : Env} {s : State} {m : MethodId} {args : Array Value} {below : List Frame} {meth : Method} {c : Code} {g : MG} (C : CC p s m args meth c yX12_steps cX12_steps 4 none) (K : mK g s) (G : mSep g)  (S : MS) (v1 : Int32) {w : MS} (hv : fX12_steps_26 S v1 = some w) : MJ p l e s m args below meth c 4 8 g none w 26 [(0, .ref (mo g)), (1, .int v1)] [] S := by
  unfold fX12_steps_26 at hv
  refine jr_aload_n C dX12_steps_26 rfl 0 rfl ?_
  refine jr_iload_n C dX12_steps_27 rfl 1 rfl ?_
  obtain ⟨c28, hc28, hv⟩ := Option.bind_eq_some_iff.mp hv
  refine jm_call (rest := []) C K G (pX12_through l G S v1 hc28) oX12_through rfl kw_1177 rfl ⟨Nat.le_of_ble_eq_true rfl, Nat.le_of_ble_eq_true rfl⟩ rfl (Nat.le_of_ble_eq_true rfl) ⟨Nat.zero_le _, Nat.zero_le _⟩ dX12_steps_28 ?_
  exact jm_vret C K dX12_steps_31 (Option.some.inj hv)
set_option maxRecDepth 100000 in
theorem tX12_steps_76 {p : Program} {l : Launch} {e : Env} {s : State} {m : MethodId} {args : Array Value} {below : List Frame} {meth : Method} {c : Code} {g : MG} (C : CC p s m args meth c yX12_steps cX12_steps 4 none) (K : mK g s) (G : mSep g)  (S : MS) (v1 : Int32) (v2 : Int32) {w : MS} (hv : fX12_steps_76 S v1 v2 = some w) : MJ p l e s m args below meth c 4 8 g none w 76 [(0, .ref (mo g)), (1, .int v1), (2, .int v2)] [] S := by
  unfold fX12_steps_76 at hv
  refine jr_aload_n C dX12_steps_76 rfl 0 rfl ?_
  refine jm_getA C K 21 (by decide) (by decide) kw_1456 rfl dX12_steps_77 ?_
  refine jr_iload_n C dX12_steps_80 rfl 2 rfl ?_
  by_cases z81 : inb v2 (mlA 21) = true
  case neg => exact op_none ((if_neg z81).symm.trans hv)
  have hv := (if_pos z81).symm.trans hv
  refine jm_iald C K z81 dX12_steps_81 ?_
  refine jr_if_ne (tgt := 91) C dX12_steps_82 rfl (fun q82 => ?_) (fun q82 => ?_)
  · have hv := (if_neg q82).symm.trans hv
    refine jr_aload_n C dX12_steps_91 rfl 0 rfl ?_
    refine jr_iload_n C dX12_steps_92 rfl 2 rfl ?_
    obtain ⟨c93, hc93, hv⟩ := Option.bind_eq_some_iff.mp hv
    refine jm_call (rest := []) C K G (pX12_does l G S v2 hc93) oX12_does rfl kw_1185 rfl ⟨Nat.le_of_ble_eq_true rfl, Nat.le_of_ble_eq_true rfl⟩ rfl (Nat.le_of_ble_eq_true rfl) ⟨Nat.zero_le _, Nat.zero_le _⟩ dX12_steps_93 ?_
    refine jr_istore_n (lv' := [(3, .int c93.1), (0, .ref (mo g)), (1, .int v1), (2, .int v2)]) C dX12_steps_96 rfl (by decide) rfl ?_
    refine jr_iload_n C dX12_steps_97 rfl 0 rfl ?_
    refine jr_if_le (tgt := 107) C dX12_steps_98 rfl (fun q98 => ?_) (fun q98 => ?_)
    · have hv := (if_pos q98).symm.trans hv
      exact jm_vret C K dX12_steps_107 (Option.some.inj hv)
    · have hv := (if_neg q98).symm.trans hv
      refine jr_aload_n C dX12_steps_101 rfl 1 rfl ?_
      refine jr_iload_n C dX12_steps_102 rfl 0 rfl ?_
      refine jr_iload_n C dX12_steps_103 rfl 3 rfl ?_
      obtain ⟨c104, hc104, hv⟩ := Option.bind_eq_some_iff.mp hv
      refine jm_call (rest := []) C K G (pX12_comes l G c93.2 c93.1 v2 hc104) oX12_comes rfl kw_1425 rfl ⟨Nat.le_of_ble_eq_true rfl, Nat.le_of_ble_eq_true rfl⟩ rfl (Nat.le_of_ble_eq_true rfl) ⟨Nat.zero_le _, Nat.zero_le _⟩ dX12_steps_104 ?_
      exact jm_vret C K dX12_steps_107 (Option.some.inj hv)
  · have hv := (if_pos q82).symm.trans hv
    refine jr_aload_n C dX12_steps_85 rfl 0 rfl ?_
    refine jr_iload_n C dX12_steps_86 rfl 1 rfl ?_
    obtain ⟨c87, hc87, hv⟩ := Option.bind_eq_some_iff.mp hv
    refine jm_call (rest := []) C K G (pX12_through l G S v1 hc87) oX12_through rfl kw_1177 rfl ⟨Nat.le_of_ble_eq_true rfl, Nat.le_of_ble_eq_true rfl⟩ rfl (Nat.le_of_ble_eq_true rfl) ⟨Nat.zero_le _, Nat.zero_le _⟩ dX12_steps_87 ?_
    exact jm_vret C K dX12_steps_90 (Option.some.inj hv)
set_option maxRecDepth 100000 in
theorem tX12_steps_66 {p : Program} {l : Launch} {e : Env} {s : State} {m : MethodId} {args : Array Value} {below : List Frame} {meth : Method} {c : Code} {g : MG} (C : CC p s m args meth c yX12_steps cX12_steps 4 none) (K : mK g s) (G : mSep g)  (S : MS) (v1 : Int32) (v2 : Int32) {w : MS} (hv : fX12_steps_66 S v1 v2 = some w) : MJ p l e s m args below meth c 4 8 g none w 66 [(0, .ref (mo g)), (1, .int v1), (2, .int v2)] [] S := by
  unfold fX12_steps_66 at hv
  refine jr_aload_n C dX12_steps_66 rfl 0 rfl ?_
  refine jm_getA C K 29 (by decide) (by decide) kw_1464 rfl dX12_steps_67 ?_
  refine jr_iload_n C dX12_steps_70 rfl 1 rfl ?_
  refine jr_dup2_11 C dX12_steps_71 rfl rfl ?_
  by_cases z72 : inb v1 (mlA 29) = true
  case neg => exact op_none ((if_neg z72).symm.trans hv)
  have hv := (if_pos z72).symm.trans hv
  refine jm_iald C K z72 dX12_steps_72 ?_
  refine jr_iconst (v := 1) C dX12_steps_73 (by decide) ?_
  refine jr_iadd C dX12_steps_74 ?_
  by_cases z75 : inb v1 (mlA 29) = true
  case neg => exact op_none ((if_neg z75).symm.trans hv)
  have hv := (if_pos z75).symm.trans hv
  refine jm_iast C K G z75 dX12_steps_75 ?_
  exact tX12_steps_76 C K G  (pA S 29 (ix v1) ((gA S 29 (ix v1)) + 1)) v1 v2 hv
set_option maxRecDepth 100000 in
theorem tX12_steps_56 {p : Program} {l : Launch} {e : Env} {s : State} {m : MethodId} {args : Array Value} {below : List Frame} {meth : Method} {c : Code} {g : MG} (C : CC p s m args meth c yX12_steps cX12_steps 4 none) (K : mK g s) (G : mSep g)  (S : MS) (v1 : Int32) (v2 : Int32) {w : MS} (hv : fX12_steps_56 S v1 v2 = some w) : MJ p l e s m args below meth c 4 8 g none w 56 [(0, .ref (mo g)), (1, .int v1), (2, .int v2)] [] S := by
  unfold fX12_steps_56 at hv
  refine jr_aload_n C dX12_steps_56 rfl 0 rfl ?_
  refine jr_dup C dX12_steps_57 rfl ?_
  refine jm_getI C K 39 (by decide) rfl kw_1474 rfl dX12_steps_58 ?_
  refine jr_iconst (v := 1) C dX12_steps_61 (by decide) ?_
  refine jr_iadd C dX12_steps_62 ?_
  refine jm_putI C K G 39 (by decide) rfl kw_1474 rfl rfl (by decide +kernel) dX12_steps_63 ?_
  exact tX12_steps_66 C K G  (pI S 39 ((gI S 39) + 1)) v1 v2 hv
set_option maxRecDepth 100000 in
theorem tX12_steps_45 {p : Program} {l : Launch} {e : Env} {s : State} {m : MethodId} {args : Array Value} {below : List Frame} {meth : Method} {c : Code} {g : MG} (C : CC p s m args meth c yX12_steps cX12_steps 4 none) (K : mK g s) (G : mSep g)  (S : MS) {w : MS} (hv : fX12_steps_45 S = some w) : MJ p l e s m args below meth c 4 8 g none w 45 [] [] S := by
  unfold fX12_steps_45 at hv
  exact jm_vret C K dX12_steps_45 (Option.some.inj hv)
set_option maxRecDepth 100000 in
theorem tX12_steps_14 {p : Program} {l : Launch} {e : Env} {s : State} {m : MethodId} {args : Array Value} {below : List Frame} {meth : Method} {c : Code} {g : MG} (C : CC p s m args meth c yX12_steps cX12_steps 4 none) (K : mK g s) (G : mSep g)  (S : MS) (v1 : Int32) (v2 : Int32) {w : MS} (hv : fX12_steps_14 S v1 v2 = some w) : MJ p l e s m args below meth c 4 8 g none w 14 [(0, .ref (mo g)), (1, .int v1), (2, .int v2)] [] S := by
  unfold fX12_steps_14 at hv
  refine jr_iload_n C dX12_steps_14 rfl 2 rfl ?_
  refine jr_if_lt (tgt := 26) C dX12_steps_15 rfl (fun q15 => ?_) (fun q15 => ?_)
  · have hv := (if_pos q15).symm.trans hv
    exact jr_sub [0, 1] rfl (tX12_steps_26 C K G  S v1 hv)
  · have hv := (if_neg q15).symm.trans hv
    refine jr_iload_n C dX12_steps_18 rfl 2 rfl ?_
    refine jr_aload_n C dX12_steps_19 rfl 0 rfl ?_
    refine jm_getI C K 25 (by decide) rfl kw_1460 rfl dX12_steps_20 ?_
    refine jr_icmp_lt (tgt := 32) C dX12_steps_23 rfl (fun q23 => ?_) (fun q23 => ?_)
    · have hv := (if_pos q23).symm.trans hv
      refine jr_aload_n C dX12_steps_32 rfl 0 rfl ?_
      refine jm_getI C K 38 (by decide) rfl kw_1473 rfl dX12_steps_33 ?_
      refine jr_if_ne (tgt := 46) C dX12_steps_36 rfl (fun q36 => ?_) (fun q36 => ?_)
      · have hv := (if_neg q36).symm.trans hv
        refine jr_aload_n C dX12_steps_46 rfl 0 rfl ?_
        refine jr_dup C dX12_steps_47 rfl ?_
        refine jm_getI C K 38 (by decide) rfl kw_1473 rfl dX12_steps_48 ?_
        refine jr_iconst (v := 1) C dX12_steps_51 (by decide) ?_
        refine jr_isub C dX12_steps_52 ?_
        refine jm_putI C K G 38 (by decide) rfl kw_1473 rfl rfl (by decide +kernel) dX12_steps_53 ?_
        exact tX12_steps_56 C K G  (pI S 38 ((gI S 38) - 1)) v1 v2 hv
      · have hv := (if_pos q36).symm.trans hv
        refine jr_aload_n C dX12_steps_39 rfl 0 rfl ?_
        refine jr_bipush (v := 10) C dX12_steps_40 (by decide) ?_
        refine jm_putI C K G 41 (by decide) rfl kw_1476 rfl rfl (by decide +kernel) dX12_steps_42 ?_
        exact jr_sub [] rfl (tX12_steps_45 C K G  (pI S 41 10) hv)
    · have hv := (if_neg q23).symm.trans hv
      exact jr_sub [0, 1] rfl (tX12_steps_26 C K G  S v1 hv)
set_option maxRecDepth 100000 in
theorem tX12_steps_7 {p : Program} {l : Launch} {e : Env} {s : State} {m : MethodId} {args : Array Value} {below : List Frame} {meth : Method} {c : Code} {g : MG} (C : CC p s m args meth c yX12_steps cX12_steps 4 none) (K : mK g s) (G : mSep g)  (S : MS) (v1 : Int32) {w : MS} (hv : fX12_steps_7 S v1 = some w) : MJ p l e s m args below meth c 4 8 g none w 7 [(0, .ref (mo g)), (1, .int v1)] [] S := by
  unfold fX12_steps_7 at hv
  refine jr_aload_n C dX12_steps_7 rfl 0 rfl ?_
  refine jm_getA C K 29 (by decide) (by decide) kw_1464 rfl dX12_steps_8 ?_
  refine jr_iload_n C dX12_steps_11 rfl 1 rfl ?_
  by_cases z12 : inb v1 (mlA 29) = true
  case neg => exact op_none ((if_neg z12).symm.trans hv)
  have hv := (if_pos z12).symm.trans hv
  refine jm_iald C K z12 dX12_steps_12 ?_
  refine jr_istore_n (lv' := [(2, .int (gA S 29 (ix v1))), (0, .ref (mo g)), (1, .int v1)]) C dX12_steps_13 rfl (by decide) rfl ?_
  exact jr_sub [1, 2, 0] rfl (tX12_steps_14 C K G  S v1 (gA S 29 (ix v1)) hv)
set_option maxRecDepth 100000 in
theorem tX12_steps_0 {p : Program} {l : Launch} {e : Env} {s : State} {m : MethodId} {args : Array Value} {below : List Frame} {meth : Method} {c : Code} {g : MG} (C : CC p s m args meth c yX12_steps cX12_steps 4 none) (K : mK g s) (G : mSep g)  (S : MS) {w : MS} (hv : fX12_steps S = some w) : MJ p l e s m args below meth c 4 8 g none w 0 [(0, .ref (mo g))] [] S := by
  unfold fX12_steps at hv
  refine jr_aload_n C dX12_steps_0 rfl 0 rfl ?_
  refine jm_getI C K 37 (by decide) rfl kw_1472 rfl dX12_steps_1 ?_
  refine jr_iconst (v := 1) C dX12_steps_4 (by decide) ?_
  refine jr_isub C dX12_steps_5 ?_
  refine jr_istore_n (lv' := [(1, .int ((gI S 37) - 1)), (0, .ref (mo g))]) C dX12_steps_6 rfl (by decide) rfl ?_
  exact jr_sub [1, 0] rfl (tX12_steps_7 C K G  S ((gI S 37) - 1) hv)
theorem pX12_steps (l : Launch) {g : MG} (G : mSep g) (S : MS)  {S' : MS} (hw : fX12_steps S = some S') : mC l yX12_steps cX12_steps 4 none 8 g [.ref (mo g)] S none S' := mC_of (by decide +kernel) (Nat.le_of_ble_eq_true rfl) rfl (fun C K => tX12_steps_0 C K G S hw)
/-! RobotCellModel.run(I)I -/
def fX12_run_16 (S : MS) : Option (Int32 × MS) :=
  some ((-1), S)
def fX12_run_59  : Nat → MS → Option (Int32 × MS)
  | 0, _ => none
  | q + 1, S => if (gI S 41) = (-1) then (Option.bind (fX12_steps S) (fun c68 => fX12_run_59  q c68)) else some (gI S 41, S)
def fX12_run_53 (S : MS) : Option (Int32 × MS) :=
  Option.bind (fX12_opens S 0 0) (fun c56 => fX12_run_59 200000 c56)
def fX12_run_48 (S : MS) : Option (Int32 × MS) :=
  fX12_run_53 (pI S 37 0)
def fX12_run_43 (S : MS) : Option (Int32 × MS) :=
  fX12_run_48 (pI S 45 1)
def fX12_run_38 (S : MS) : Option (Int32 × MS) :=
  fX12_run_43 (pI S 43 0)
def fX12_run_33 (S : MS) : Option (Int32 × MS) :=
  fX12_run_38 (pI S 42 (-1))
def fX12_run_28 (S : MS) : Option (Int32 × MS) :=
  fX12_run_33 (pI S 41 (-1))
def fX12_run_23 (S : MS) : Option (Int32 × MS) :=
  fX12_run_28 (pI S 39 0)
def fX12_run_5 (S : MS) (v1 : Int32) : Option (Int32 × MS) :=
  if v1 < 0 then fX12_run_16 S else (if v1 ≤ 20000 then fX12_run_23 (pI S 38 v1) else fX12_run_16 S)
def fX12_run (S : MS) (v1 : Int32) : Option (Int32 × MS) :=
  fX12_run_5 (pI S 0 0) v1
theorem oX12_run : ok_v yX12_run cX12_run 2 (some .int) 1 := ⟨kw_1167, kw_1165, kw_1166, kw_73, by decide +kernel⟩
set_option maxRecDepth 100000 in
theorem tX12_run_16 {p : Program} {l : Launch} {e : Env} {s : State} {m : MethodId} {args : Array Value} {below : List Frame} {meth : Method} {c : Code} {g : MG} (C : CC p s m args meth c yX12_run cX12_run 2 (some .int)) (K : mK g s) (G : mSep g)  (S : MS) {w : Int32 × MS} (hv : fX12_run_16 S = some w) : MJ p l e s m args below meth c 2 9 g (some (.int w.1)) w.2 16 [] [] S := by
  unfold fX12_run_16 at hv
  refine jr_iconst (v := (-1)) C dX12_run_16 (by decide) ?_
  exact jm_iret C K dX12_run_17 (Option.some.inj hv)
set_option maxRecDepth 100000 in
theorem tX12_run_59 {p : Program} {l : Launch} {e : Env} {s : State} {m : MethodId} {args : Array Value} {below : List Frame} {meth : Method} {c : Code} {g : MG} (C : CC p s m args meth c yX12_run cX12_run 2 (some .int)) (K : mK g s) (G : mSep g)  : ∀ (q : Nat) (S : MS) (w : Int32 × MS), fX12_run_59  q S = some w → MJ p l e s m args below meth c 2 9 g (some (.int w.1)) w.2 59 [(0, .ref (mo g))] [] S := by
  intro q
  induction q with
  | zero => intro S w hv; exact absurd hv (by simp [fX12_run_59])
  | succ q ih =>
    intro S w hv
    unfold fX12_run_59 at hv
    refine jr_aload_n C dX12_run_59 rfl 0 rfl ?_
    refine jm_getI C K 41 (by decide) rfl kw_1476 rfl dX12_run_60 ?_
    refine jr_iconst (v := (-1)) C dX12_run_63 (by decide) ?_
    refine jr_icmp_ne (tgt := 74) C dX12_run_64 rfl (fun q64 => ?_) (fun q64 => ?_)
    · have hv := (if_neg q64).symm.trans hv
      refine jr_aload_n C dX12_run_74 rfl 0 rfl ?_
      refine jm_getI C K 41 (by decide) rfl kw_1476 rfl dX12_run_75 ?_
      exact jm_iret C K dX12_run_78 (Option.some.inj hv)
    · have hv := (if_pos q64).symm.trans hv
      refine jr_aload_n C dX12_run_67 rfl 0 rfl ?_
      obtain ⟨c68, hc68, hv⟩ := Option.bind_eq_some_iff.mp hv
      refine jm_call (rest := []) C K G (pX12_steps l G S  hc68) oX12_steps rfl kw_1173 rfl ⟨Nat.le_of_ble_eq_true rfl, Nat.le_of_ble_eq_true rfl⟩ rfl (Nat.le_of_ble_eq_true rfl) ⟨Nat.zero_le _, Nat.zero_le _⟩ dX12_run_68 ?_
      refine jr_goto (tgt := 59) C dX12_run_71 rfl ?_
      exact ih c68 _ hv
set_option maxRecDepth 100000 in
theorem tX12_run_53 {p : Program} {l : Launch} {e : Env} {s : State} {m : MethodId} {args : Array Value} {below : List Frame} {meth : Method} {c : Code} {g : MG} (C : CC p s m args meth c yX12_run cX12_run 2 (some .int)) (K : mK g s) (G : mSep g)  (S : MS) {w : Int32 × MS} (hv : fX12_run_53 S = some w) : MJ p l e s m args below meth c 2 9 g (some (.int w.1)) w.2 53 [(0, .ref (mo g))] [] S := by
  unfold fX12_run_53 at hv
  refine jr_aload_n C dX12_run_53 rfl 0 rfl ?_
  refine jr_iconst (v := 0) C dX12_run_54 (by decide) ?_
  refine jr_iconst (v := 0) C dX12_run_55 (by decide) ?_
  obtain ⟨c56, hc56, hv⟩ := Option.bind_eq_some_iff.mp hv
  refine jm_call (rest := []) C K G (pX12_opens l G S 0 0 hc56) oX12_opens rfl kw_1168 rfl ⟨Nat.le_of_ble_eq_true rfl, Nat.le_of_ble_eq_true rfl⟩ rfl (Nat.le_of_ble_eq_true rfl) ⟨Nat.zero_le _, Nat.zero_le _⟩ dX12_run_56 ?_
  exact tX12_run_59 C K G  200000 c56 _ hv
set_option maxRecDepth 100000 in
theorem tX12_run_48 {p : Program} {l : Launch} {e : Env} {s : State} {m : MethodId} {args : Array Value} {below : List Frame} {meth : Method} {c : Code} {g : MG} (C : CC p s m args meth c yX12_run cX12_run 2 (some .int)) (K : mK g s) (G : mSep g)  (S : MS) {w : Int32 × MS} (hv : fX12_run_48 S = some w) : MJ p l e s m args below meth c 2 9 g (some (.int w.1)) w.2 48 [(0, .ref (mo g))] [] S := by
  unfold fX12_run_48 at hv
  refine jr_aload_n C dX12_run_48 rfl 0 rfl ?_
  refine jr_iconst (v := 0) C dX12_run_49 (by decide) ?_
  refine jm_putI C K G 37 (by decide) rfl kw_1472 rfl rfl (by decide +kernel) dX12_run_50 ?_
  exact tX12_run_53 C K G  (pI S 37 0) hv
set_option maxRecDepth 100000 in
theorem tX12_run_43 {p : Program} {l : Launch} {e : Env} {s : State} {m : MethodId} {args : Array Value} {below : List Frame} {meth : Method} {c : Code} {g : MG} (C : CC p s m args meth c yX12_run cX12_run 2 (some .int)) (K : mK g s) (G : mSep g)  (S : MS) {w : Int32 × MS} (hv : fX12_run_43 S = some w) : MJ p l e s m args below meth c 2 9 g (some (.int w.1)) w.2 43 [(0, .ref (mo g))] [] S := by
  unfold fX12_run_43 at hv
  refine jr_aload_n C dX12_run_43 rfl 0 rfl ?_
  refine jr_iconst (v := 1) C dX12_run_44 (by decide) ?_
  refine jm_putI C K G 45 (by decide) rfl kw_1480 rfl rfl (by decide +kernel) dX12_run_45 ?_
  exact tX12_run_48 C K G  (pI S 45 1) hv
set_option maxRecDepth 100000 in
theorem tX12_run_38 {p : Program} {l : Launch} {e : Env} {s : State} {m : MethodId} {args : Array Value} {below : List Frame} {meth : Method} {c : Code} {g : MG} (C : CC p s m args meth c yX12_run cX12_run 2 (some .int)) (K : mK g s) (G : mSep g)  (S : MS) {w : Int32 × MS} (hv : fX12_run_38 S = some w) : MJ p l e s m args below meth c 2 9 g (some (.int w.1)) w.2 38 [(0, .ref (mo g))] [] S := by
  unfold fX12_run_38 at hv
  refine jr_aload_n C dX12_run_38 rfl 0 rfl ?_
  refine jr_iconst (v := 0) C dX12_run_39 (by decide) ?_
  refine jm_putI C K G 43 (by decide) rfl kw_1478 rfl rfl (by decide +kernel) dX12_run_40 ?_
  exact tX12_run_43 C K G  (pI S 43 0) hv
set_option maxRecDepth 100000 in
theorem tX12_run_33 {p : Program} {l : Launch} {e : Env} {s : State} {m : MethodId} {args : Array Value} {below : List Frame} {meth : Method} {c : Code} {g : MG} (C : CC p s m args meth c yX12_run cX12_run 2 (some .int)) (K : mK g s) (G : mSep g)  (S : MS) {w : Int32 × MS} (hv : fX12_run_33 S = some w) : MJ p l e s m args below meth c 2 9 g (some (.int w.1)) w.2 33 [(0, .ref (mo g))] [] S := by
  unfold fX12_run_33 at hv
  refine jr_aload_n C dX12_run_33 rfl 0 rfl ?_
  refine jr_iconst (v := (-1)) C dX12_run_34 (by decide) ?_
  refine jm_putI C K G 42 (by decide) rfl kw_1477 rfl rfl (by decide +kernel) dX12_run_35 ?_
  exact tX12_run_38 C K G  (pI S 42 (-1)) hv
set_option maxRecDepth 100000 in
theorem tX12_run_28 {p : Program} {l : Launch} {e : Env} {s : State} {m : MethodId} {args : Array Value} {below : List Frame} {meth : Method} {c : Code} {g : MG} (C : CC p s m args meth c yX12_run cX12_run 2 (some .int)) (K : mK g s) (G : mSep g)  (S : MS) {w : Int32 × MS} (hv : fX12_run_28 S = some w) : MJ p l e s m args below meth c 2 9 g (some (.int w.1)) w.2 28 [(0, .ref (mo g))] [] S := by
  unfold fX12_run_28 at hv
  refine jr_aload_n C dX12_run_28 rfl 0 rfl ?_
  refine jr_iconst (v := (-1)) C dX12_run_29 (by decide) ?_
  refine jm_putI C K G 41 (by decide) rfl kw_1476 rfl rfl (by decide +kernel) dX12_run_30 ?_
  exact tX12_run_33 C K G  (pI S 41 (-1)) hv
set_option maxRecDepth 100000 in
theorem tX12_run_23 {p : Program} {l : Launch} {e : Env} {s : State} {m : MethodId} {args : Array Value} {below : List Frame} {meth : Method} {c : Code} {g : MG} (C : CC p s m args meth c yX12_run cX12_run 2 (some .int)) (K : mK g s) (G : mSep g)  (S : MS) {w : Int32 × MS} (hv : fX12_run_23 S = some w) : MJ p l e s m args below meth c 2 9 g (some (.int w.1)) w.2 23 [(0, .ref (mo g))] [] S := by
  unfold fX12_run_23 at hv
  refine jr_aload_n C dX12_run_23 rfl 0 rfl ?_
  refine jr_iconst (v := 0) C dX12_run_24 (by decide) ?_
  refine jm_putI C K G 39 (by decide) rfl kw_1474 rfl rfl (by decide +kernel) dX12_run_25 ?_
  exact tX12_run_28 C K G  (pI S 39 0) hv
set_option maxRecDepth 100000 in
theorem tX12_run_5 {p : Program} {l : Launch} {e : Env} {s : State} {m : MethodId} {args : Array Value} {below : List Frame} {meth : Method} {c : Code} {g : MG} (C : CC p s m args meth c yX12_run cX12_run 2 (some .int)) (K : mK g s) (G : mSep g)  (S : MS) (v1 : Int32) {w : Int32 × MS} (hv : fX12_run_5 S v1 = some w) : MJ p l e s m args below meth c 2 9 g (some (.int w.1)) w.2 5 [(0, .ref (mo g)), (1, .int v1)] [] S := by
  unfold fX12_run_5 at hv
  refine jr_iload_n C dX12_run_5 rfl 1 rfl ?_
  refine jr_if_lt (tgt := 16) C dX12_run_6 rfl (fun q6 => ?_) (fun q6 => ?_)
  · have hv := (if_pos q6).symm.trans hv
    exact jr_sub [] rfl (tX12_run_16 C K G  S hv)
  · have hv := (if_neg q6).symm.trans hv
    refine jr_iload_n C dX12_run_9 rfl 1 rfl ?_
    refine jr_sipush (v := 20000) C dX12_run_10 (by decide) ?_
    refine jr_icmp_le (tgt := 18) C dX12_run_13 rfl (fun q13 => ?_) (fun q13 => ?_)
    · have hv := (if_pos q13).symm.trans hv
      refine jr_aload_n C dX12_run_18 rfl 0 rfl ?_
      refine jr_iload_n C dX12_run_19 rfl 1 rfl ?_
      refine jm_putI C K G 38 (by decide) rfl kw_1473 rfl rfl (by decide +kernel) dX12_run_20 ?_
      exact jr_sub [0] rfl (tX12_run_23 C K G  (pI S 38 v1) hv)
    · have hv := (if_neg q13).symm.trans hv
      exact jr_sub [] rfl (tX12_run_16 C K G  S hv)
set_option maxRecDepth 100000 in
theorem tX12_run_0 {p : Program} {l : Launch} {e : Env} {s : State} {m : MethodId} {args : Array Value} {below : List Frame} {meth : Method} {c : Code} {g : MG} (C : CC p s m args meth c yX12_run cX12_run 2 (some .int)) (K : mK g s) (G : mSep g)  (S : MS) (v1 : Int32) {w : Int32 × MS} (hv : fX12_run S v1 = some w) : MJ p l e s m args below meth c 2 9 g (some (.int w.1)) w.2 0 [(0, .ref (mo g)), (1, .int v1)] [] S := by
  unfold fX12_run at hv
  refine jr_aload_n C dX12_run_0 rfl 0 rfl ?_
  refine jr_iconst (v := 0) C dX12_run_1 (by decide) ?_
  refine jm_putI C K G 0 (by decide) rfl kw_1435 rfl rfl (by decide +kernel) dX12_run_2 ?_
  exact tX12_run_5 C K G  (pI S 0 0) v1 hv
theorem pX12_run (l : Launch) {g : MG} (G : mSep g) (S : MS) (v1 : Int32) {w : Int32} {S' : MS} (hw : fX12_run S v1 = some (w, S')) : mC l yX12_run cX12_run 2 (some .int) 9 g [.ref (mo g), .int v1] S (some (.int w)) S' := mC_of (by decide +kernel) (Nat.le_of_ble_eq_true rfl) rfl (fun C K => tX12_run_0 C K G S v1 hw)
/-! RobotCellModel.order(IIII)I -/
def fX12_order_68 (S : MS) : Option (Int32 × MS) :=
  some (gI S 25, S)
def fX12_order_58 (S : MS) : Option (Int32 × MS) :=
  fX12_order_68 (pI S 25 ((gI S 25) + 1))
def fX12_order_47 (S : MS) (v4 : Int32) : Option (Int32 × MS) :=
  if inb (gI S 25) (mlA 24) = true then fX12_order_58 (pA S 24 (ix (gI S 25)) v4) else none
def fX12_order_37 (S : MS) (v3 : Int32) (v4 : Int32) : Option (Int32 × MS) :=
  if inb (gI S 25) (mlA 23) = true then fX12_order_47 (pA S 23 (ix (gI S 25)) v3) v4 else none
def fX12_order_27 (S : MS) (v2 : Int32) (v3 : Int32) (v4 : Int32) : Option (Int32 × MS) :=
  if inb (gI S 25) (mlA 22) = true then fX12_order_37 (pA S 22 (ix (gI S 25)) v2) v3 v4 else none
def fX12_order_5 (S : MS) (v1 : Int32) (v2 : Int32) (v3 : Int32) (v4 : Int32) : Option (Int32 × MS) :=
  if (gI S 25) = 400 then some ((-1), S) else (if inb (gI S 25) (mlA 21) = true then fX12_order_27 (pA S 21 (ix (gI S 25)) v1) v2 v3 v4 else none)
def fX12_order (S : MS) (v1 : Int32) (v2 : Int32) (v3 : Int32) (v4 : Int32) : Option (Int32 × MS) :=
  fX12_order_5 (pI S 0 0) v1 v2 v3 v4
theorem oX12_order : ok_v yX12_order cX12_order 5 (some .int) 4 := ⟨kw_1577, kw_1575, kw_1576, kw_73, by decide +kernel⟩
set_option maxRecDepth 100000 in
theorem tX12_order_68 {p : Program} {l : Launch} {e : Env} {s : State} {m : MethodId} {args : Array Value} {below : List Frame} {meth : Method} {c : Code} {g : MG} (C : CC p s m args meth c yX12_order cX12_order 5 (some .int)) (K : mK g s) (G : mSep g)  (S : MS) {w : Int32 × MS} (hv : fX12_order_68 S = some w) : MJ p l e s m args below meth c 5 0 g (some (.int w.1)) w.2 68 [(0, .ref (mo g))] [] S := by
  unfold fX12_order_68 at hv
  refine jr_aload_n C dX12_order_68 rfl 0 rfl ?_
  refine jm_getI C K 25 (by decide) rfl kw_1460 rfl dX12_order_69 ?_
  exact jm_iret C K dX12_order_72 (Option.some.inj hv)
set_option maxRecDepth 100000 in
theorem tX12_order_58 {p : Program} {l : Launch} {e : Env} {s : State} {m : MethodId} {args : Array Value} {below : List Frame} {meth : Method} {c : Code} {g : MG} (C : CC p s m args meth c yX12_order cX12_order 5 (some .int)) (K : mK g s) (G : mSep g)  (S : MS) {w : Int32 × MS} (hv : fX12_order_58 S = some w) : MJ p l e s m args below meth c 5 0 g (some (.int w.1)) w.2 58 [(0, .ref (mo g))] [] S := by
  unfold fX12_order_58 at hv
  refine jr_aload_n C dX12_order_58 rfl 0 rfl ?_
  refine jr_dup C dX12_order_59 rfl ?_
  refine jm_getI C K 25 (by decide) rfl kw_1460 rfl dX12_order_60 ?_
  refine jr_iconst (v := 1) C dX12_order_63 (by decide) ?_
  refine jr_iadd C dX12_order_64 ?_
  refine jm_putI C K G 25 (by decide) rfl kw_1460 rfl rfl (by decide +kernel) dX12_order_65 ?_
  exact tX12_order_68 C K G  (pI S 25 ((gI S 25) + 1)) hv
set_option maxRecDepth 100000 in
theorem tX12_order_47 {p : Program} {l : Launch} {e : Env} {s : State} {m : MethodId} {args : Array Value} {below : List Frame} {meth : Method} {c : Code} {g : MG} (C : CC p s m args meth c yX12_order cX12_order 5 (some .int)) (K : mK g s) (G : mSep g)  (S : MS) (v4 : Int32) {w : Int32 × MS} (hv : fX12_order_47 S v4 = some w) : MJ p l e s m args below meth c 5 0 g (some (.int w.1)) w.2 47 [(0, .ref (mo g)), (4, .int v4)] [] S := by
  unfold fX12_order_47 at hv
  refine jr_aload_n C dX12_order_47 rfl 0 rfl ?_
  refine jm_getA C K 24 (by decide) (by decide) kw_1459 rfl dX12_order_48 ?_
  refine jr_aload_n C dX12_order_51 rfl 0 rfl ?_
  refine jm_getI C K 25 (by decide) rfl kw_1460 rfl dX12_order_52 ?_
  refine jr_iload C dX12_order_55 1 rfl ?_
  by_cases z57 : inb (gI S 25) (mlA 24) = true
  case neg => exact op_none ((if_neg z57).symm.trans hv)
  have hv := (if_pos z57).symm.trans hv
  refine jm_iast C K G z57 dX12_order_57 ?_
  exact jr_sub [0] rfl (tX12_order_58 C K G  (pA S 24 (ix (gI S 25)) v4) hv)
set_option maxRecDepth 100000 in
theorem tX12_order_37 {p : Program} {l : Launch} {e : Env} {s : State} {m : MethodId} {args : Array Value} {below : List Frame} {meth : Method} {c : Code} {g : MG} (C : CC p s m args meth c yX12_order cX12_order 5 (some .int)) (K : mK g s) (G : mSep g)  (S : MS) (v3 : Int32) (v4 : Int32) {w : Int32 × MS} (hv : fX12_order_37 S v3 v4 = some w) : MJ p l e s m args below meth c 5 0 g (some (.int w.1)) w.2 37 [(0, .ref (mo g)), (3, .int v3), (4, .int v4)] [] S := by
  unfold fX12_order_37 at hv
  refine jr_aload_n C dX12_order_37 rfl 0 rfl ?_
  refine jm_getA C K 23 (by decide) (by decide) kw_1458 rfl dX12_order_38 ?_
  refine jr_aload_n C dX12_order_41 rfl 0 rfl ?_
  refine jm_getI C K 25 (by decide) rfl kw_1460 rfl dX12_order_42 ?_
  refine jr_iload_n C dX12_order_45 rfl 1 rfl ?_
  by_cases z46 : inb (gI S 25) (mlA 23) = true
  case neg => exact op_none ((if_neg z46).symm.trans hv)
  have hv := (if_pos z46).symm.trans hv
  refine jm_iast C K G z46 dX12_order_46 ?_
  exact jr_sub [0, 2] rfl (tX12_order_47 C K G  (pA S 23 (ix (gI S 25)) v3) v4 hv)
set_option maxRecDepth 100000 in
theorem tX12_order_27 {p : Program} {l : Launch} {e : Env} {s : State} {m : MethodId} {args : Array Value} {below : List Frame} {meth : Method} {c : Code} {g : MG} (C : CC p s m args meth c yX12_order cX12_order 5 (some .int)) (K : mK g s) (G : mSep g)  (S : MS) (v2 : Int32) (v3 : Int32) (v4 : Int32) {w : Int32 × MS} (hv : fX12_order_27 S v2 v3 v4 = some w) : MJ p l e s m args below meth c 5 0 g (some (.int w.1)) w.2 27 [(0, .ref (mo g)), (2, .int v2), (3, .int v3), (4, .int v4)] [] S := by
  unfold fX12_order_27 at hv
  refine jr_aload_n C dX12_order_27 rfl 0 rfl ?_
  refine jm_getA C K 22 (by decide) (by decide) kw_1457 rfl dX12_order_28 ?_
  refine jr_aload_n C dX12_order_31 rfl 0 rfl ?_
  refine jm_getI C K 25 (by decide) rfl kw_1460 rfl dX12_order_32 ?_
  refine jr_iload_n C dX12_order_35 rfl 1 rfl ?_
  by_cases z36 : inb (gI S 25) (mlA 22) = true
  case neg => exact op_none ((if_neg z36).symm.trans hv)
  have hv := (if_pos z36).symm.trans hv
  refine jm_iast C K G z36 dX12_order_36 ?_
  exact jr_sub [0, 2, 3] rfl (tX12_order_37 C K G  (pA S 22 (ix (gI S 25)) v2) v3 v4 hv)
set_option maxRecDepth 100000 in
theorem tX12_order_5 {p : Program} {l : Launch} {e : Env} {s : State} {m : MethodId} {args : Array Value} {below : List Frame} {meth : Method} {c : Code} {g : MG} (C : CC p s m args meth c yX12_order cX12_order 5 (some .int)) (K : mK g s) (G : mSep g)  (S : MS) (v1 : Int32) (v2 : Int32) (v3 : Int32) (v4 : Int32) {w : Int32 × MS} (hv : fX12_order_5 S v1 v2 v3 v4 = some w) : MJ p l e s m args below meth c 5 0 g (some (.int w.1)) w.2 5 [(0, .ref (mo g)), (1, .int v1), (2, .int v2), (3, .int v3), (4, .int v4)] [] S := by
  unfold fX12_order_5 at hv
  refine jr_aload_n C dX12_order_5 rfl 0 rfl ?_
  refine jm_getI C K 25 (by decide) rfl kw_1460 rfl dX12_order_6 ?_
  refine jr_sipush (v := 400) C dX12_order_9 (by decide) ?_
  refine jr_icmp_ne (tgt := 17) C dX12_order_12 rfl (fun q12 => ?_) (fun q12 => ?_)
  · have hv := (if_neg q12).symm.trans hv
    refine jr_aload_n C dX12_order_17 rfl 0 rfl ?_
    refine jm_getA C K 21 (by decide) (by decide) kw_1456 rfl dX12_order_18 ?_
    refine jr_aload_n C dX12_order_21 rfl 0 rfl ?_
    refine jm_getI C K 25 (by decide) rfl kw_1460 rfl dX12_order_22 ?_
    refine jr_iload_n C dX12_order_25 rfl 1 rfl ?_
    by_cases z26 : inb (gI S 25) (mlA 21) = true
    case neg => exact op_none ((if_neg z26).symm.trans hv)
    have hv := (if_pos z26).symm.trans hv
    refine jm_iast C K G z26 dX12_order_26 ?_
    exact jr_sub [0, 2, 3, 4] rfl (tX12_order_27 C K G  (pA S 21 (ix (gI S 25)) v1) v2 v3 v4 hv)
  · have hv := (if_pos q12).symm.trans hv
    refine jr_iconst (v := (-1)) C dX12_order_15 (by decide) ?_
    exact jm_iret C K dX12_order_16 (Option.some.inj hv)
set_option maxRecDepth 100000 in
theorem tX12_order_0 {p : Program} {l : Launch} {e : Env} {s : State} {m : MethodId} {args : Array Value} {below : List Frame} {meth : Method} {c : Code} {g : MG} (C : CC p s m args meth c yX12_order cX12_order 5 (some .int)) (K : mK g s) (G : mSep g)  (S : MS) (v1 : Int32) (v2 : Int32) (v3 : Int32) (v4 : Int32) {w : Int32 × MS} (hv : fX12_order S v1 v2 v3 v4 = some w) : MJ p l e s m args below meth c 5 0 g (some (.int w.1)) w.2 0 [(0, .ref (mo g)), (1, .int v1), (2, .int v2), (3, .int v3), (4, .int v4)] [] S := by
  unfold fX12_order at hv
  refine jr_aload_n C dX12_order_0 rfl 0 rfl ?_
  refine jr_iconst (v := 0) C dX12_order_1 (by decide) ?_
  refine jm_putI C K G 0 (by decide) rfl kw_1435 rfl rfl (by decide +kernel) dX12_order_2 ?_
  exact tX12_order_5 C K G  (pI S 0 0) v1 v2 v3 v4 hv
theorem pX12_order (l : Launch) {g : MG} (G : mSep g) (S : MS) (v1 : Int32) (v2 : Int32) (v3 : Int32) (v4 : Int32) {w : Int32} {S' : MS} (hw : fX12_order S v1 v2 v3 v4 = some (w, S')) : mC l yX12_order cX12_order 5 (some .int) 0 g [.ref (mo g), .int v1, .int v2, .int v3, .int v4] S (some (.int w)) S' := mC_of (by decide +kernel) (Nat.le_of_ble_eq_true rfl) rfl (fun C K => tX12_order_0 C K G S v1 v2 v3 v4 hw)
/-! RobotCellModel.clear()V -/
def fX12_clear_10 (S : MS) : Option (MS) :=
  some S
def fX12_clear_5 (S : MS) : Option (MS) :=
  fX12_clear_10 (pI S 25 0)
def fX12_clear (S : MS) : Option (MS) :=
  fX12_clear_5 (pI S 0 0)
theorem oX12_clear : ok_v yX12_clear cX12_clear 1 none 0 := ⟨kw_1581, kw_1579, kw_1580, kw_73, by decide +kernel⟩
set_option maxRecDepth 100000 in
theorem tX12_clear_10 {p : Program} {l : Launch} {e : Env} {s : State} {m : MethodId} {args : Array Value} {below : List Frame} {meth : Method} {c : Code} {g : MG} (C : CC p s m args meth c yX12_clear cX12_clear 1 none) (K : mK g s) (G : mSep g)  (S : MS) {w : MS} (hv : fX12_clear_10 S = some w) : MJ p l e s m args below meth c 1 0 g none w 10 [] [] S := by
  unfold fX12_clear_10 at hv
  exact jm_vret C K dX12_clear_10 (Option.some.inj hv)
set_option maxRecDepth 100000 in
theorem tX12_clear_5 {p : Program} {l : Launch} {e : Env} {s : State} {m : MethodId} {args : Array Value} {below : List Frame} {meth : Method} {c : Code} {g : MG} (C : CC p s m args meth c yX12_clear cX12_clear 1 none) (K : mK g s) (G : mSep g)  (S : MS) {w : MS} (hv : fX12_clear_5 S = some w) : MJ p l e s m args below meth c 1 0 g none w 5 [(0, .ref (mo g))] [] S := by
  unfold fX12_clear_5 at hv
  refine jr_aload_n C dX12_clear_5 rfl 0 rfl ?_
  refine jr_iconst (v := 0) C dX12_clear_6 (by decide) ?_
  refine jm_putI C K G 25 (by decide) rfl kw_1460 rfl rfl (by decide +kernel) dX12_clear_7 ?_
  exact jr_sub [] rfl (tX12_clear_10 C K G  (pI S 25 0) hv)
set_option maxRecDepth 100000 in
theorem tX12_clear_0 {p : Program} {l : Launch} {e : Env} {s : State} {m : MethodId} {args : Array Value} {below : List Frame} {meth : Method} {c : Code} {g : MG} (C : CC p s m args meth c yX12_clear cX12_clear 1 none) (K : mK g s) (G : mSep g)  (S : MS) {w : MS} (hv : fX12_clear S = some w) : MJ p l e s m args below meth c 1 0 g none w 0 [(0, .ref (mo g))] [] S := by
  unfold fX12_clear at hv
  refine jr_aload_n C dX12_clear_0 rfl 0 rfl ?_
  refine jr_iconst (v := 0) C dX12_clear_1 (by decide) ?_
  refine jm_putI C K G 0 (by decide) rfl kw_1435 rfl rfl (by decide +kernel) dX12_clear_2 ?_
  exact tX12_clear_5 C K G  (pI S 0 0) hv
theorem pX12_clear (l : Launch) {g : MG} (G : mSep g) (S : MS)  {S' : MS} (hw : fX12_clear S = some S') : mC l yX12_clear cX12_clear 1 none 0 g [.ref (mo g)] S none S' := mC_of (by decide +kernel) (Nat.le_of_ble_eq_true rfl) rfl (fun C K => tX12_clear_0 C K G S hw)
/-! RobotCellModel.number(III)V -/
def fX12_number__26 (S : MS) : Option (MS) :=
  some S
def fX12_number__5 (S : MS) (v1 : Int32) (v2 : Int32) (v3 : Int32) : Option (MS) :=
  if inb (v1 &&& 15) (mlB 3) = true then fX12_number__26 (pB S 3 (ix (v1 &&& 15)) ((v2.toInt64 <<< ((32 : Int32).toInt64 &&& 63)) + (v3.toInt64 &&& 4294967295))) else none
def fX12_number_ (S : MS) (v1 : Int32) (v2 : Int32) (v3 : Int32) : Option (MS) :=
  fX12_number__5 (pI S 0 0) v1 v2 v3
theorem oX12_number_ : ok_v yX12_number_ cX12_number_ 4 none 3 := ⟨kw_1585, kw_1583, kw_1584, kw_73, by decide +kernel⟩
set_option maxRecDepth 100000 in
theorem tX12_number__26 {p : Program} {l : Launch} {e : Env} {s : State} {m : MethodId} {args : Array Value} {below : List Frame} {meth : Method} {c : Code} {g : MG} (C : CC p s m args meth c yX12_number_ cX12_number_ 4 none) (K : mK g s) (G : mSep g)  (S : MS) {w : MS} (hv : fX12_number__26 S = some w) : MJ p l e s m args below meth c 4 0 g none w 26 [] [] S := by
  unfold fX12_number__26 at hv
  exact jm_vret C K dX12_number__26 (Option.some.inj hv)
set_option maxRecDepth 100000 in
theorem tX12_number__5 {p : Program} {l : Launch} {e : Env} {s : State} {m : MethodId} {args : Array Value} {below : List Frame} {meth : Method} {c : Code} {g : MG} (C : CC p s m args meth c yX12_number_ cX12_number_ 4 none) (K : mK g s) (G : mSep g)  (S : MS) (v1 : Int32) (v2 : Int32) (v3 : Int32) {w : MS} (hv : fX12_number__5 S v1 v2 v3 = some w) : MJ p l e s m args below meth c 4 0 g none w 5 [(0, .ref (mo g)), (1, .int v1), (2, .int v2), (3, .int v3)] [] S := by
  unfold fX12_number__5 at hv
  refine jr_aload_n C dX12_number__5 rfl 0 rfl ?_
  refine jm_getA C K 3 (by decide) (by decide) kw_1438 rfl dX12_number__6 ?_
  refine jr_iload_n C dX12_number__9 rfl 1 rfl ?_
  refine jr_bipush (v := 15) C dX12_number__10 (by decide) ?_
  refine jr_iand C dX12_number__12 ?_
  refine jr_iload_n C dX12_number__13 rfl 2 rfl ?_
  refine jr_i2l C dX12_number__14 ?_
  refine jr_bipush (v := 32) C dX12_number__15 (by decide) ?_
  refine jr_lshl C dX12_number__17 ?_
  refine jr_iload_n C dX12_number__18 rfl 3 rfl ?_
  refine jr_i2l C dX12_number__19 ?_
  refine jr_ldc2 C kw_1193 dX12_number__20 ?_
  refine jr_land C dX12_number__23 ?_
  refine jr_ladd C dX12_number__24 ?_
  by_cases z25 : inb (v1 &&& 15) (mlB 3) = true
  case neg => exact op_none ((if_neg z25).symm.trans hv)
  have hv := (if_pos z25).symm.trans hv
  refine jm_last C K G z25 dX12_number__25 ?_
  exact jr_sub [] rfl (tX12_number__26 C K G  (pB S 3 (ix (v1 &&& 15)) ((v2.toInt64 <<< ((32 : Int32).toInt64 &&& 63)) + (v3.toInt64 &&& 4294967295))) hv)
set_option maxRecDepth 100000 in
theorem tX12_number__0 {p : Program} {l : Launch} {e : Env} {s : State} {m : MethodId} {args : Array Value} {below : List Frame} {meth : Method} {c : Code} {g : MG} (C : CC p s m args meth c yX12_number_ cX12_number_ 4 none) (K : mK g s) (G : mSep g)  (S : MS) (v1 : Int32) (v2 : Int32) (v3 : Int32) {w : MS} (hv : fX12_number_ S v1 v2 v3 = some w) : MJ p l e s m args below meth c 4 0 g none w 0 [(0, .ref (mo g)), (1, .int v1), (2, .int v2), (3, .int v3)] [] S := by
  unfold fX12_number_ at hv
  refine jr_aload_n C dX12_number__0 rfl 0 rfl ?_
  refine jr_iconst (v := 0) C dX12_number__1 (by decide) ?_
  refine jm_putI C K G 0 (by decide) rfl kw_1435 rfl rfl (by decide +kernel) dX12_number__2 ?_
  exact tX12_number__5 C K G  (pI S 0 0) v1 v2 v3 hv
theorem pX12_number_ (l : Launch) {g : MG} (G : mSep g) (S : MS) (v1 : Int32) (v2 : Int32) (v3 : Int32) {S' : MS} (hw : fX12_number_ S v1 v2 v3 = some S') : mC l yX12_number_ cX12_number_ 4 none 0 g [.ref (mo g), .int v1, .int v2, .int v3] S none S' := mC_of (by decide +kernel) (Nat.le_of_ble_eq_true rfl) rfl (fun C K => tX12_number__0 C K G S v1 v2 v3 hw)
/-! RobotCellModel.fault(I)I -/
def fX12_fault_21 (S : MS) : Option (Int32 × MS) :=
  some ((-1), S)
def fX12_fault_5 (S : MS) (v1 : Int32) : Option (Int32 × MS) :=
  if (gI S 45) = 0 then fX12_fault_21 S else (if v1 < 0 then fX12_fault_21 S else (if v1 ≤ 1 then (if v1 = 0 then some (gI S 42, S) else some (gI S 39, S)) else fX12_fault_21 S))
def fX12_fault (S : MS) (v1 : Int32) : Option (Int32 × MS) :=
  fX12_fault_5 (pI S 0 0) v1
theorem oX12_fault : ok_v yX12_fault cX12_fault 2 (some .int) 1 := ⟨kw_1589, kw_1587, kw_1588, kw_73, by decide +kernel⟩
set_option maxRecDepth 100000 in
theorem tX12_fault_21 {p : Program} {l : Launch} {e : Env} {s : State} {m : MethodId} {args : Array Value} {below : List Frame} {meth : Method} {c : Code} {g : MG} (C : CC p s m args meth c yX12_fault cX12_fault 2 (some .int)) (K : mK g s) (G : mSep g)  (S : MS) {w : Int32 × MS} (hv : fX12_fault_21 S = some w) : MJ p l e s m args below meth c 2 0 g (some (.int w.1)) w.2 21 [] [] S := by
  unfold fX12_fault_21 at hv
  refine jr_iconst (v := (-1)) C dX12_fault_21 (by decide) ?_
  refine jr_goto (tgt := 40) C dX12_fault_22 rfl ?_
  exact jm_iret C K dX12_fault_40 (Option.some.inj hv)
set_option maxRecDepth 100000 in
theorem tX12_fault_5 {p : Program} {l : Launch} {e : Env} {s : State} {m : MethodId} {args : Array Value} {below : List Frame} {meth : Method} {c : Code} {g : MG} (C : CC p s m args meth c yX12_fault cX12_fault 2 (some .int)) (K : mK g s) (G : mSep g)  (S : MS) (v1 : Int32) {w : Int32 × MS} (hv : fX12_fault_5 S v1 = some w) : MJ p l e s m args below meth c 2 0 g (some (.int w.1)) w.2 5 [(0, .ref (mo g)), (1, .int v1)] [] S := by
  unfold fX12_fault_5 at hv
  refine jr_aload_n C dX12_fault_5 rfl 0 rfl ?_
  refine jm_getI C K 45 (by decide) rfl kw_1480 rfl dX12_fault_6 ?_
  refine jr_if_eq (tgt := 21) C dX12_fault_9 rfl (fun q9 => ?_) (fun q9 => ?_)
  · have hv := (if_pos q9).symm.trans hv
    exact jr_sub [] rfl (tX12_fault_21 C K G  S hv)
  · have hv := (if_neg q9).symm.trans hv
    refine jr_iload_n C dX12_fault_12 rfl 1 rfl ?_
    refine jr_if_lt (tgt := 21) C dX12_fault_13 rfl (fun q13 => ?_) (fun q13 => ?_)
    · have hv := (if_pos q13).symm.trans hv
      exact jr_sub [] rfl (tX12_fault_21 C K G  S hv)
    · have hv := (if_neg q13).symm.trans hv
      refine jr_iload_n C dX12_fault_16 rfl 1 rfl ?_
      refine jr_iconst (v := 1) C dX12_fault_17 (by decide) ?_
      refine jr_icmp_le (tgt := 25) C dX12_fault_18 rfl (fun q18 => ?_) (fun q18 => ?_)
      · have hv := (if_pos q18).symm.trans hv
        refine jr_iload_n C dX12_fault_25 rfl 1 rfl ?_
        refine jr_if_ne (tgt := 36) C dX12_fault_26 rfl (fun q26 => ?_) (fun q26 => ?_)
        · have hv := (if_neg q26).symm.trans hv
          refine jr_aload_n C dX12_fault_36 rfl 0 rfl ?_
          refine jm_getI C K 39 (by decide) rfl kw_1474 rfl dX12_fault_37 ?_
          exact jm_iret C K dX12_fault_40 (Option.some.inj hv)
        · have hv := (if_pos q26).symm.trans hv
          refine jr_aload_n C dX12_fault_29 rfl 0 rfl ?_
          refine jm_getI C K 42 (by decide) rfl kw_1477 rfl dX12_fault_30 ?_
          refine jr_goto (tgt := 40) C dX12_fault_33 rfl ?_
          exact jm_iret C K dX12_fault_40 (Option.some.inj hv)
      · have hv := (if_neg q18).symm.trans hv
        exact jr_sub [] rfl (tX12_fault_21 C K G  S hv)
set_option maxRecDepth 100000 in
theorem tX12_fault_0 {p : Program} {l : Launch} {e : Env} {s : State} {m : MethodId} {args : Array Value} {below : List Frame} {meth : Method} {c : Code} {g : MG} (C : CC p s m args meth c yX12_fault cX12_fault 2 (some .int)) (K : mK g s) (G : mSep g)  (S : MS) (v1 : Int32) {w : Int32 × MS} (hv : fX12_fault S v1 = some w) : MJ p l e s m args below meth c 2 0 g (some (.int w.1)) w.2 0 [(0, .ref (mo g)), (1, .int v1)] [] S := by
  unfold fX12_fault at hv
  refine jr_aload_n C dX12_fault_0 rfl 0 rfl ?_
  refine jr_iconst (v := 0) C dX12_fault_1 (by decide) ?_
  refine jm_putI C K G 0 (by decide) rfl kw_1435 rfl rfl (by decide +kernel) dX12_fault_2 ?_
  exact tX12_fault_5 C K G  (pI S 0 0) v1 hv
theorem pX12_fault (l : Launch) {g : MG} (G : mSep g) (S : MS) (v1 : Int32) {w : Int32} {S' : MS} (hw : fX12_fault S v1 = some (w, S')) : mC l yX12_fault cX12_fault 2 (some .int) 0 g [.ref (mo g), .int v1] S (some (.int w)) S' := mC_of (by decide +kernel) (Nat.le_of_ble_eq_true rfl) rfl (fun C K => tX12_fault_0 C K G S v1 hw)
/-! RobotCellModel.told(I)J -/
def fX12_told_5 (S : MS) (v1 : Int32) : Option (Int64 × MS) :=
  if inb (v1 &&& 15) (mlB 3) = true then some (gB S 3 (ix (v1 &&& 15)), S) else none
def fX12_told (S : MS) (v1 : Int32) : Option (Int64 × MS) :=
  fX12_told_5 (pI S 0 0) v1
theorem oX12_told : ok_v yX12_told cX12_told 2 (some .long) 1 := ⟨kw_1593, kw_1591, kw_1592, kw_73, by decide +kernel⟩
set_option maxRecDepth 100000 in
theorem tX12_told_5 {p : Program} {l : Launch} {e : Env} {s : State} {m : MethodId} {args : Array Value} {below : List Frame} {meth : Method} {c : Code} {g : MG} (C : CC p s m args meth c yX12_told cX12_told 2 (some .long)) (K : mK g s) (G : mSep g)  (S : MS) (v1 : Int32) {w : Int64 × MS} (hv : fX12_told_5 S v1 = some w) : MJ p l e s m args below meth c 2 0 g (some (.long w.1)) w.2 5 [(0, .ref (mo g)), (1, .int v1)] [] S := by
  unfold fX12_told_5 at hv
  refine jr_aload_n C dX12_told_5 rfl 0 rfl ?_
  refine jm_getA C K 3 (by decide) (by decide) kw_1438 rfl dX12_told_6 ?_
  refine jr_iload_n C dX12_told_9 rfl 1 rfl ?_
  refine jr_bipush (v := 15) C dX12_told_10 (by decide) ?_
  refine jr_iand C dX12_told_12 ?_
  by_cases z13 : inb (v1 &&& 15) (mlB 3) = true
  case neg => exact op_none ((if_neg z13).symm.trans hv)
  have hv := (if_pos z13).symm.trans hv
  refine jm_lald C K z13 dX12_told_13 ?_
  exact jm_lret C K dX12_told_14 (Option.some.inj hv)
set_option maxRecDepth 100000 in
theorem tX12_told_0 {p : Program} {l : Launch} {e : Env} {s : State} {m : MethodId} {args : Array Value} {below : List Frame} {meth : Method} {c : Code} {g : MG} (C : CC p s m args meth c yX12_told cX12_told 2 (some .long)) (K : mK g s) (G : mSep g)  (S : MS) (v1 : Int32) {w : Int64 × MS} (hv : fX12_told S v1 = some w) : MJ p l e s m args below meth c 2 0 g (some (.long w.1)) w.2 0 [(0, .ref (mo g)), (1, .int v1)] [] S := by
  unfold fX12_told at hv
  refine jr_aload_n C dX12_told_0 rfl 0 rfl ?_
  refine jr_iconst (v := 0) C dX12_told_1 (by decide) ?_
  refine jm_putI C K G 0 (by decide) rfl kw_1435 rfl rfl (by decide +kernel) dX12_told_2 ?_
  exact tX12_told_5 C K G  (pI S 0 0) v1 hv
theorem pX12_told (l : Launch) {g : MG} (G : mSep g) (S : MS) (v1 : Int32) {w : Int64} {S' : MS} (hw : fX12_told S v1 = some (w, S')) : mC l yX12_told cX12_told 2 (some .long) 0 g [.ref (mo g), .int v1] S (some (.long w)) S' := mC_of (by decide +kernel) (Nat.le_of_ble_eq_true rfl) rfl (fun C K => tX12_told_0 C K G S v1 hw)
/-! RobotCellModel.bits(I)J -/
def fX12_bits_5 (S : MS) (v1 : Int32) : Option (Int64 × MS) :=
  if inb (v1 &&& 15) (mlB 4) = true then some (fX12_one (gB S 4 (ix (v1 &&& 15))), S) else none
def fX12_bits (S : MS) (v1 : Int32) : Option (Int64 × MS) :=
  fX12_bits_5 (pI S 0 0) v1
theorem oX12_bits : ok_v yX12_bits cX12_bits 2 (some .long) 1 := ⟨kw_1597, kw_1595, kw_1596, kw_73, by decide +kernel⟩
set_option maxRecDepth 100000 in
theorem tX12_bits_5 {p : Program} {l : Launch} {e : Env} {s : State} {m : MethodId} {args : Array Value} {below : List Frame} {meth : Method} {c : Code} {g : MG} (C : CC p s m args meth c yX12_bits cX12_bits 2 (some .long)) (K : mK g s) (G : mSep g)  (S : MS) (v1 : Int32) {w : Int64 × MS} (hv : fX12_bits_5 S v1 = some w) : MJ p l e s m args below meth c 2 2 g (some (.long w.1)) w.2 5 [(0, .ref (mo g)), (1, .int v1)] [] S := by
  unfold fX12_bits_5 at hv
  refine jr_aload_n C dX12_bits_5 rfl 0 rfl ?_
  refine jm_getA C K 4 (by decide) (by decide) kw_1439 rfl dX12_bits_6 ?_
  refine jr_iload_n C dX12_bits_9 rfl 1 rfl ?_
  refine jr_bipush (v := 15) C dX12_bits_10 (by decide) ?_
  refine jr_iand C dX12_bits_12 ?_
  by_cases z13 : inb (v1 &&& 15) (mlB 4) = true
  case neg => exact op_none ((if_neg z13).symm.trans hv)
  have hv := (if_pos z13).symm.trans hv
  refine jm_lald C K z13 dX12_bits_13 ?_
  refine jr_pcall (rest := []) C (pX12_one l (gB S 4 (ix (v1 &&& 15)))) oX12_one kw_1200 rfl ⟨Nat.le_of_ble_eq_true rfl, Nat.le_of_ble_eq_true rfl⟩ rfl (Nat.le_of_ble_eq_true rfl) ⟨Nat.zero_le _, Nat.zero_le _⟩ dX12_bits_14 ?_
  exact jm_lret C K dX12_bits_17 (Option.some.inj hv)
set_option maxRecDepth 100000 in
theorem tX12_bits_0 {p : Program} {l : Launch} {e : Env} {s : State} {m : MethodId} {args : Array Value} {below : List Frame} {meth : Method} {c : Code} {g : MG} (C : CC p s m args meth c yX12_bits cX12_bits 2 (some .long)) (K : mK g s) (G : mSep g)  (S : MS) (v1 : Int32) {w : Int64 × MS} (hv : fX12_bits S v1 = some w) : MJ p l e s m args below meth c 2 2 g (some (.long w.1)) w.2 0 [(0, .ref (mo g)), (1, .int v1)] [] S := by
  unfold fX12_bits at hv
  refine jr_aload_n C dX12_bits_0 rfl 0 rfl ?_
  refine jr_iconst (v := 0) C dX12_bits_1 (by decide) ?_
  refine jm_putI C K G 0 (by decide) rfl kw_1435 rfl rfl (by decide +kernel) dX12_bits_2 ?_
  exact tX12_bits_5 C K G  (pI S 0 0) v1 hv
theorem pX12_bits (l : Launch) {g : MG} (G : mSep g) (S : MS) (v1 : Int32) {w : Int64} {S' : MS} (hw : fX12_bits S v1 = some (w, S')) : mC l yX12_bits cX12_bits 2 (some .long) 2 g [.ref (mo g), .int v1] S (some (.long w)) S' := mC_of (by decide +kernel) (Nat.le_of_ble_eq_true rfl) rfl (fun C K => tX12_bits_0 C K G S v1 hw)
/-! RobotCellModel.slot(II)I -/
def fX12_slot_28 (S : MS) : Option (Int32 × MS) :=
  some ((-1), S)
def fX12_slot_86 (r72 : MS → Int32 → Int32 → Option (Int32 × MS)) (S : MS) (v3 : Int32) (v4 : Int32) : Option (Int32 × MS) :=
  r72 S v3 v4
def fX12_slot_72  : Nat → MS → Int32 → Int32 → Option (Int32 × MS)
  | 0, _, _, _ => none
  | q + 1, S, v3, v4 => if inb v4 (mlA 5) = true then (if (gA S 5 (ix v4)) = v3 then some (v4, S) else fX12_slot_86 (fX12_slot_72  q) S v3 (v4 + 1)) else none
def fX12_slot_15 (S : MS) (v2 : Int32) (v3 : Int32) : Option (Int32 × MS) :=
  if v3 = 0 then fX12_slot_28 S else (if v2 < 0 then fX12_slot_28 S else (if v2 ≤ 2 then (if v2 = 0 then (if inb v3 (mlA 6) = true then some (gA S 6 (ix v3), S) else none) else (if v2 = 1 then (if inb v3 (mlA 6) = true then (if (fX12_isRow (gA S 6 (ix v3))) = 0 then some ((-1), S) else (if inb v3 (mlA 7) = true then some (gA S 7 (ix v3), S) else none)) else none) else fX12_slot_72 20 S v3 0)) else fX12_slot_28 S))
def fX12_slot_5 (S : MS) (v1 : Int32) (v2 : Int32) : Option (Int32 × MS) :=
  if inb (v1 &&& 15) (mlA 5) = true then fX12_slot_15 S v2 (gA S 5 (ix (v1 &&& 15))) else none
def fX12_slot (S : MS) (v1 : Int32) (v2 : Int32) : Option (Int32 × MS) :=
  fX12_slot_5 (pI S 0 0) v1 v2
theorem oX12_slot : ok_v yX12_slot cX12_slot 5 (some .int) 2 := ⟨kw_1601, kw_1599, kw_1600, kw_73, by decide +kernel⟩
set_option maxRecDepth 100000 in
theorem tX12_slot_28 {p : Program} {l : Launch} {e : Env} {s : State} {m : MethodId} {args : Array Value} {below : List Frame} {meth : Method} {c : Code} {g : MG} (C : CC p s m args meth c yX12_slot cX12_slot 5 (some .int)) (K : mK g s) (G : mSep g)  (S : MS) {w : Int32 × MS} (hv : fX12_slot_28 S = some w) : MJ p l e s m args below meth c 5 1 g (some (.int w.1)) w.2 28 [] [] S := by
  unfold fX12_slot_28 at hv
  refine jr_iconst (v := (-1)) C dX12_slot_28 (by decide) ?_
  exact jm_iret C K dX12_slot_29 (Option.some.inj hv)
set_option maxRecDepth 100000 in
theorem tX12_slot_86 {p : Program} {l : Launch} {e : Env} {s : State} {m : MethodId} {args : Array Value} {below : List Frame} {meth : Method} {c : Code} {g : MG} (C : CC p s m args meth c yX12_slot cX12_slot 5 (some .int)) (K : mK g s) (G : mSep g) (r72 : MS → Int32 → Int32 → Option (Int32 × MS)) (h72 : ∀ (S : MS) (v3 : Int32) (v4 : Int32) (w : Int32 × MS), r72 S v3 v4 = some w → MJ p l e s m args below meth c 5 1 g (some (.int w.1)) w.2 72 [(0, .ref (mo g)), (3, .int v3), (4, .int v4)] [] S) (S : MS) (v3 : Int32) (v4 : Int32) {w : Int32 × MS} (hv : fX12_slot_86 r72 S v3 v4 = some w) : MJ p l e s m args below meth c 5 1 g (some (.int w.1)) w.2 86 [(0, .ref (mo g)), (3, .int v3), (4, .int v4)] [] S := by
  unfold fX12_slot_86 at hv
  refine jr_goto (tgt := 72) C dX12_slot_86 rfl ?_
  exact h72 S v3 v4 _ hv
set_option maxRecDepth 100000 in
theorem tX12_slot_72 {p : Program} {l : Launch} {e : Env} {s : State} {m : MethodId} {args : Array Value} {below : List Frame} {meth : Method} {c : Code} {g : MG} (C : CC p s m args meth c yX12_slot cX12_slot 5 (some .int)) (K : mK g s) (G : mSep g)  : ∀ (q : Nat) (S : MS) (v3 : Int32) (v4 : Int32) (w : Int32 × MS), fX12_slot_72  q S v3 v4 = some w → MJ p l e s m args below meth c 5 1 g (some (.int w.1)) w.2 72 [(0, .ref (mo g)), (3, .int v3), (4, .int v4)] [] S := by
  intro q
  induction q with
  | zero => intro S v3 v4 w hv; exact absurd hv (by simp [fX12_slot_72])
  | succ q ih =>
    intro S v3 v4 w hv
    unfold fX12_slot_72 at hv
    refine jr_aload_n C dX12_slot_72 rfl 0 rfl ?_
    refine jm_getA C K 5 (by decide) (by decide) kw_1440 rfl dX12_slot_73 ?_
    refine jr_iload C dX12_slot_76 2 rfl ?_
    by_cases z78 : inb v4 (mlA 5) = true
    case neg => exact op_none ((if_neg z78).symm.trans hv)
    have hv := (if_pos z78).symm.trans hv
    refine jm_iald C K z78 dX12_slot_78 ?_
    refine jr_iload_n C dX12_slot_79 rfl 1 rfl ?_
    refine jr_icmp_eq (tgt := 89) C dX12_slot_80 rfl (fun q80 => ?_) (fun q80 => ?_)
    · have hv := (if_pos q80).symm.trans hv
      refine jr_iload C dX12_slot_89 2 rfl ?_
      exact jm_iret C K dX12_slot_91 (Option.some.inj hv)
    · have hv := (if_neg q80).symm.trans hv
      refine jr_iinc (v := (v4 + 1)) (lv' := [(4, .int (v4 + 1)), (0, .ref (mo g)), (3, .int v3)]) C dX12_slot_83 2 rfl rfl (by decide) rfl ?_
      exact jr_sub [1, 2, 0] rfl (tX12_slot_86 C K G (fX12_slot_72  q) ih S v3 (v4 + 1) hv)
set_option maxRecDepth 100000 in
theorem tX12_slot_15 {p : Program} {l : Launch} {e : Env} {s : State} {m : MethodId} {args : Array Value} {below : List Frame} {meth : Method} {c : Code} {g : MG} (C : CC p s m args meth c yX12_slot cX12_slot 5 (some .int)) (K : mK g s) (G : mSep g)  (S : MS) (v2 : Int32) (v3 : Int32) {w : Int32 × MS} (hv : fX12_slot_15 S v2 v3 = some w) : MJ p l e s m args below meth c 5 1 g (some (.int w.1)) w.2 15 [(0, .ref (mo g)), (2, .int v2), (3, .int v3)] [] S := by
  unfold fX12_slot_15 at hv
  refine jr_iload_n C dX12_slot_15 rfl 2 rfl ?_
  refine jr_if_eq (tgt := 28) C dX12_slot_16 rfl (fun q16 => ?_) (fun q16 => ?_)
  · have hv := (if_pos q16).symm.trans hv
    exact jr_sub [] rfl (tX12_slot_28 C K G  S hv)
  · have hv := (if_neg q16).symm.trans hv
    refine jr_iload_n C dX12_slot_19 rfl 1 rfl ?_
    refine jr_if_lt (tgt := 28) C dX12_slot_20 rfl (fun q20 => ?_) (fun q20 => ?_)
    · have hv := (if_pos q20).symm.trans hv
      exact jr_sub [] rfl (tX12_slot_28 C K G  S hv)
    · have hv := (if_neg q20).symm.trans hv
      refine jr_iload_n C dX12_slot_23 rfl 1 rfl ?_
      refine jr_iconst (v := 2) C dX12_slot_24 (by decide) ?_
      refine jr_icmp_le (tgt := 30) C dX12_slot_25 rfl (fun q25 => ?_) (fun q25 => ?_)
      · have hv := (if_pos q25).symm.trans hv
        refine jr_iload_n C dX12_slot_30 rfl 1 rfl ?_
        refine jr_if_ne (tgt := 41) C dX12_slot_31 rfl (fun q31 => ?_) (fun q31 => ?_)
        · have hv := (if_neg q31).symm.trans hv
          refine jr_iload_n C dX12_slot_41 rfl 1 rfl ?_
          refine jr_iconst (v := 1) C dX12_slot_42 (by decide) ?_
          refine jr_icmp_ne (tgt := 69) C dX12_slot_43 rfl (fun q43 => ?_) (fun q43 => ?_)
          · have hv := (if_neg q43).symm.trans hv
            refine jr_iconst (v := 0) C dX12_slot_69 (by decide) ?_
            refine jr_istore (lv' := [(4, .int 0), (0, .ref (mo g)), (2, .int v2), (3, .int v3)]) C dX12_slot_70 (by decide) rfl ?_
            exact jr_sub [1, 3, 0] rfl (tX12_slot_72 C K G  20 S v3 0 _ hv)
          · have hv := (if_pos q43).symm.trans hv
            refine jr_aload_n C dX12_slot_46 rfl 0 rfl ?_
            refine jm_getA C K 6 (by decide) (by decide) kw_1441 rfl dX12_slot_47 ?_
            refine jr_iload_n C dX12_slot_50 rfl 2 rfl ?_
            by_cases z51 : inb v3 (mlA 6) = true
            case neg => exact op_none ((if_neg z51).symm.trans hv)
            have hv := (if_pos z51).symm.trans hv
            refine jm_iald C K z51 dX12_slot_51 ?_
            refine jr_pcall (rest := []) C (pX12_isRow l (gA S 6 (ix v3))) oX12_isRow kw_1364 rfl ⟨Nat.le_of_ble_eq_true rfl, Nat.le_of_ble_eq_true rfl⟩ rfl (Nat.le_of_ble_eq_true rfl) ⟨Nat.zero_le _, Nat.zero_le _⟩ dX12_slot_52 ?_
            refine jr_if_eq (tgt := 67) C dX12_slot_55 rfl (fun q55 => ?_) (fun q55 => ?_)
            · have hv := (if_pos q55).symm.trans hv
              refine jr_iconst (v := (-1)) C dX12_slot_67 (by decide) ?_
              exact jm_iret C K dX12_slot_68 (Option.some.inj hv)
            · have hv := (if_neg q55).symm.trans hv
              refine jr_aload_n C dX12_slot_58 rfl 0 rfl ?_
              refine jm_getA C K 7 (by decide) (by decide) kw_1442 rfl dX12_slot_59 ?_
              refine jr_iload_n C dX12_slot_62 rfl 2 rfl ?_
              by_cases z63 : inb v3 (mlA 7) = true
              case neg => exact op_none ((if_neg z63).symm.trans hv)
              have hv := (if_pos z63).symm.trans hv
              refine jm_iald C K z63 dX12_slot_63 ?_
              refine jr_goto (tgt := 68) C dX12_slot_64 rfl ?_
              exact jm_iret C K dX12_slot_68 (Option.some.inj hv)
        · have hv := (if_pos q31).symm.trans hv
          refine jr_aload_n C dX12_slot_34 rfl 0 rfl ?_
          refine jm_getA C K 6 (by decide) (by decide) kw_1441 rfl dX12_slot_35 ?_
          refine jr_iload_n C dX12_slot_38 rfl 2 rfl ?_
          by_cases z39 : inb v3 (mlA 6) = true
          case neg => exact op_none ((if_neg z39).symm.trans hv)
          have hv := (if_pos z39).symm.trans hv
          refine jm_iald C K z39 dX12_slot_39 ?_
          exact jm_iret C K dX12_slot_40 (Option.some.inj hv)
      · have hv := (if_neg q25).symm.trans hv
        exact jr_sub [] rfl (tX12_slot_28 C K G  S hv)
set_option maxRecDepth 100000 in
theorem tX12_slot_5 {p : Program} {l : Launch} {e : Env} {s : State} {m : MethodId} {args : Array Value} {below : List Frame} {meth : Method} {c : Code} {g : MG} (C : CC p s m args meth c yX12_slot cX12_slot 5 (some .int)) (K : mK g s) (G : mSep g)  (S : MS) (v1 : Int32) (v2 : Int32) {w : Int32 × MS} (hv : fX12_slot_5 S v1 v2 = some w) : MJ p l e s m args below meth c 5 1 g (some (.int w.1)) w.2 5 [(0, .ref (mo g)), (1, .int v1), (2, .int v2)] [] S := by
  unfold fX12_slot_5 at hv
  refine jr_aload_n C dX12_slot_5 rfl 0 rfl ?_
  refine jm_getA C K 5 (by decide) (by decide) kw_1440 rfl dX12_slot_6 ?_
  refine jr_iload_n C dX12_slot_9 rfl 1 rfl ?_
  refine jr_bipush (v := 15) C dX12_slot_10 (by decide) ?_
  refine jr_iand C dX12_slot_12 ?_
  by_cases z13 : inb (v1 &&& 15) (mlA 5) = true
  case neg => exact op_none ((if_neg z13).symm.trans hv)
  have hv := (if_pos z13).symm.trans hv
  refine jm_iald C K z13 dX12_slot_13 ?_
  refine jr_istore_n (lv' := [(3, .int (gA S 5 (ix (v1 &&& 15)))), (0, .ref (mo g)), (1, .int v1), (2, .int v2)]) C dX12_slot_14 rfl (by decide) rfl ?_
  exact jr_sub [1, 3, 0] rfl (tX12_slot_15 C K G  S v2 (gA S 5 (ix (v1 &&& 15))) hv)
set_option maxRecDepth 100000 in
theorem tX12_slot_0 {p : Program} {l : Launch} {e : Env} {s : State} {m : MethodId} {args : Array Value} {below : List Frame} {meth : Method} {c : Code} {g : MG} (C : CC p s m args meth c yX12_slot cX12_slot 5 (some .int)) (K : mK g s) (G : mSep g)  (S : MS) (v1 : Int32) (v2 : Int32) {w : Int32 × MS} (hv : fX12_slot S v1 v2 = some w) : MJ p l e s m args below meth c 5 1 g (some (.int w.1)) w.2 0 [(0, .ref (mo g)), (1, .int v1), (2, .int v2)] [] S := by
  unfold fX12_slot at hv
  refine jr_aload_n C dX12_slot_0 rfl 0 rfl ?_
  refine jr_iconst (v := 0) C dX12_slot_1 (by decide) ?_
  refine jm_putI C K G 0 (by decide) rfl kw_1435 rfl rfl (by decide +kernel) dX12_slot_2 ?_
  exact tX12_slot_5 C K G  (pI S 0 0) v1 v2 hv
theorem pX12_slot (l : Launch) {g : MG} (G : mSep g) (S : MS) (v1 : Int32) (v2 : Int32) {w : Int32} {S' : MS} (hw : fX12_slot S v1 v2 = some (w, S')) : mC l yX12_slot cX12_slot 5 (some .int) 1 g [.ref (mo g), .int v1, .int v2] S (some (.int w)) S' := mC_of (by decide +kernel) (Nat.le_of_ble_eq_true rfl) rfl (fun C K => tX12_slot_0 C K G S v1 v2 hw)
/-! RobotCellModel.place(II)J -/
def fX12_place_85 (S : MS) (v4 : Int64) (v6 : Int32) : Option (Int64 × MS) :=
  if 6 ≤ v6 then (if 8 ≤ v6 then (if v4 = 0 then some ((-1), S) else (if v6 = 10 then (if inb v4.toInt32 (mlA 7) = true then some ((gA S 7 (ix v4.toInt32)).toInt64, S) else none) else (if inb v4.toInt32 (mlA 16) = true then some ((gA S 16 (ix v4.toInt32)).toInt64, S) else none))) else (if v6 = 6 then (Option.bind (fX12_smallBits v4) (fun c111 => some (c111, S))) else some (fX12_one v4, S))) else some (v4, S)
def fX12_place_77 (S : MS) (v3 : Int32) (v4 : Int64) : Option (Int64 × MS) :=
  if inb v3 (mlA 6) = true then fX12_place_85 S v4 (gA S 6 (ix v3)) else none
def fX12_place_53 (S : MS) (v2 : Int32) (v3 : Int32) : Option (Int64 × MS) :=
  if (gI S 0) ≤ 0 then (if inb v3 (mlA 8) = true then (if inb ((gA S 8 (ix v3)) + v2) (mlB 9) = true then fX12_place_77 S v3 (gB S 9 (ix ((gA S 8 (ix v3)) + v2))) else none) else none) else some (0, S)
def fX12_place_50 (S : MS) (v2 : Int32) (v3 : Int32) (t1 : Int32) : Option (Int64 × MS) :=
  fX12_place_53 (pI S 0 t1) v2 v3
def fX12_place_27 (S : MS) (v2 : Int32) (v3 : Int32) : Option (Int64 × MS) :=
  fX12_place_50 S v2 v3 1
def fX12_place_45 (S : MS) (v2 : Int32) (v3 : Int32) : Option (Int64 × MS) :=
  fX12_place_50 S v2 v3 2
def fX12_place_10 (S : MS) (v2 : Int32) (v3 : Int32) : Option (Int64 × MS) :=
  if v3 = 0 then fX12_place_27 S v2 v3 else (if inb v3 (mlA 6) = true then (if (fX12_isRow (gA S 6 (ix v3))) = 0 then fX12_place_27 S v2 v3 else (if v2 < 0 then fX12_place_45 S v2 v3 else (if inb v3 (mlA 7) = true then (if v2 < (gA S 7 (ix v3)) then fX12_place_50 S v2 v3 0 else fX12_place_45 S v2 v3) else none))) else none)
def fX12_place (S : MS) (v1 : Int32) (v2 : Int32) : Option (Int64 × MS) :=
  if inb (v1 &&& 15) (mlA 5) = true then fX12_place_10 S v2 (gA S 5 (ix (v1 &&& 15))) else none
theorem oX12_place : ok_v yX12_place cX12_place 7 (some .long) 2 := ⟨kw_1605, kw_1603, kw_1604, kw_73, by decide +kernel⟩
set_option maxRecDepth 100000 in
theorem tX12_place_85 {p : Program} {l : Launch} {e : Env} {s : State} {m : MethodId} {args : Array Value} {below : List Frame} {meth : Method} {c : Code} {g : MG} (C : CC p s m args meth c yX12_place cX12_place 7 (some .long)) (K : mK g s) (G : mSep g)  (S : MS) (v4 : Int64) (v6 : Int32) {w : Int64 × MS} (hv : fX12_place_85 S v4 v6 = some w) : MJ p l e s m args below meth c 7 4 g (some (.long w.1)) w.2 85 [(0, .ref (mo g)), (4, .long v4), (6, .int v6)] [] S := by
  unfold fX12_place_85 at hv
  refine jr_iload C dX12_place_85 2 rfl ?_
  refine jr_bipush (v := 6) C dX12_place_87 (by decide) ?_
  refine jr_icmp_ge (tgt := 95) C dX12_place_89 rfl (fun q89 => ?_) (fun q89 => ?_)
  · have hv := (if_pos q89).symm.trans hv
    refine jr_iload C dX12_place_95 2 rfl ?_
    refine jr_bipush (v := 8) C dX12_place_97 (by decide) ?_
    refine jr_icmp_ge (tgt := 123) C dX12_place_99 rfl (fun q99 => ?_) (fun q99 => ?_)
    · have hv := (if_pos q99).symm.trans hv
      refine jr_lload C dX12_place_123 1 rfl ?_
      refine jr_lconst (v := 0) C dX12_place_125 (by decide) ?_
      refine jr_lcmp_ne (tgt := 136) C dX12_place_126 dX12_place_127 rfl (fun q126 => ?_) (fun q126 => ?_)
      · have hv := (if_neg q126).symm.trans hv
        refine jr_iload C dX12_place_136 2 rfl ?_
        refine jr_bipush (v := 10) C dX12_place_138 (by decide) ?_
        refine jr_icmp_ne (tgt := 155) C dX12_place_140 rfl (fun q140 => ?_) (fun q140 => ?_)
        · have hv := (if_neg q140).symm.trans hv
          refine jr_aload_n C dX12_place_155 rfl 0 rfl ?_
          refine jm_getA C K 16 (by decide) (by decide) kw_1451 rfl dX12_place_156 ?_
          refine jr_lload C dX12_place_159 1 rfl ?_
          refine jr_l2i C dX12_place_161 ?_
          by_cases z162 : inb v4.toInt32 (mlA 16) = true
          case neg => exact op_none ((if_neg z162).symm.trans hv)
          have hv := (if_pos z162).symm.trans hv
          refine jm_iald C K z162 dX12_place_162 ?_
          refine jr_i2l C dX12_place_163 ?_
          exact jm_lret C K dX12_place_164 (Option.some.inj hv)
        · have hv := (if_pos q140).symm.trans hv
          refine jr_aload_n C dX12_place_143 rfl 0 rfl ?_
          refine jm_getA C K 7 (by decide) (by decide) kw_1442 rfl dX12_place_144 ?_
          refine jr_lload C dX12_place_147 1 rfl ?_
          refine jr_l2i C dX12_place_149 ?_
          by_cases z150 : inb v4.toInt32 (mlA 7) = true
          case neg => exact op_none ((if_neg z150).symm.trans hv)
          have hv := (if_pos z150).symm.trans hv
          refine jm_iald C K z150 dX12_place_150 ?_
          refine jr_i2l C dX12_place_151 ?_
          refine jr_goto (tgt := 164) C dX12_place_152 rfl ?_
          exact jm_lret C K dX12_place_164 (Option.some.inj hv)
      · have hv := (if_pos q126).symm.trans hv
        refine jr_ldc2 C kw_1606 dX12_place_130 ?_
        refine jr_goto (tgt := 164) C dX12_place_133 rfl ?_
        exact jm_lret C K dX12_place_164 (Option.some.inj hv)
    · have hv := (if_neg q99).symm.trans hv
      refine jr_iload C dX12_place_102 2 rfl ?_
      refine jr_bipush (v := 6) C dX12_place_104 (by decide) ?_
      refine jr_icmp_ne (tgt := 117) C dX12_place_106 rfl (fun q106 => ?_) (fun q106 => ?_)
      · have hv := (if_neg q106).symm.trans hv
        refine jr_lload C dX12_place_117 1 rfl ?_
        refine jr_pcall (rest := []) C (pX12_one l v4) oX12_one kw_1200 rfl ⟨Nat.le_of_ble_eq_true rfl, Nat.le_of_ble_eq_true rfl⟩ rfl (Nat.le_of_ble_eq_true rfl) ⟨Nat.zero_le _, Nat.zero_le _⟩ dX12_place_119 ?_
        exact jm_lret C K dX12_place_122 (Option.some.inj hv)
      · have hv := (if_pos q106).symm.trans hv
        refine jr_lload C dX12_place_109 1 rfl ?_
        obtain ⟨c111, hc111, hv⟩ := Option.bind_eq_some_iff.mp hv
        refine jr_pcall (rest := []) C (pX12_smallBits l v4 hc111) oX12_smallBits kw_1327 rfl ⟨Nat.le_of_ble_eq_true rfl, Nat.le_of_ble_eq_true rfl⟩ rfl (Nat.le_of_ble_eq_true rfl) ⟨Nat.zero_le _, Nat.zero_le _⟩ dX12_place_111 ?_
        refine jr_goto (tgt := 122) C dX12_place_114 rfl ?_
        exact jm_lret C K dX12_place_122 (Option.some.inj hv)
  · have hv := (if_neg q89).symm.trans hv
    refine jr_lload C dX12_place_92 1 rfl ?_
    exact jm_lret C K dX12_place_94 (Option.some.inj hv)
set_option maxRecDepth 100000 in
theorem tX12_place_77 {p : Program} {l : Launch} {e : Env} {s : State} {m : MethodId} {args : Array Value} {below : List Frame} {meth : Method} {c : Code} {g : MG} (C : CC p s m args meth c yX12_place cX12_place 7 (some .long)) (K : mK g s) (G : mSep g)  (S : MS) (v3 : Int32) (v4 : Int64) {w : Int64 × MS} (hv : fX12_place_77 S v3 v4 = some w) : MJ p l e s m args below meth c 7 4 g (some (.long w.1)) w.2 77 [(0, .ref (mo g)), (3, .int v3), (4, .long v4)] [] S := by
  unfold fX12_place_77 at hv
  refine jr_aload_n C dX12_place_77 rfl 0 rfl ?_
  refine jm_getA C K 6 (by decide) (by decide) kw_1441 rfl dX12_place_78 ?_
  refine jr_iload_n C dX12_place_81 rfl 1 rfl ?_
  by_cases z82 : inb v3 (mlA 6) = true
  case neg => exact op_none ((if_neg z82).symm.trans hv)
  have hv := (if_pos z82).symm.trans hv
  refine jm_iald C K z82 dX12_place_82 ?_
  refine jr_istore (lv' := [(6, .int (gA S 6 (ix v3))), (0, .ref (mo g)), (3, .int v3), (4, .long v4)]) C dX12_place_83 (by decide) rfl ?_
  exact jr_sub [1, 3, 0] rfl (tX12_place_85 C K G  S v4 (gA S 6 (ix v3)) hv)
set_option maxRecDepth 100000 in
theorem tX12_place_53 {p : Program} {l : Launch} {e : Env} {s : State} {m : MethodId} {args : Array Value} {below : List Frame} {meth : Method} {c : Code} {g : MG} (C : CC p s m args meth c yX12_place cX12_place 7 (some .long)) (K : mK g s) (G : mSep g)  (S : MS) (v2 : Int32) (v3 : Int32) {w : Int64 × MS} (hv : fX12_place_53 S v2 v3 = some w) : MJ p l e s m args below meth c 7 4 g (some (.long w.1)) w.2 53 [(0, .ref (mo g)), (2, .int v2), (3, .int v3)] [] S := by
  unfold fX12_place_53 at hv
  refine jr_aload_n C dX12_place_53 rfl 0 rfl ?_
  refine jm_getI C K 0 (by decide) rfl kw_1435 rfl dX12_place_54 ?_
  refine jr_if_le (tgt := 62) C dX12_place_57 rfl (fun q57 => ?_) (fun q57 => ?_)
  · have hv := (if_pos q57).symm.trans hv
    refine jr_aload_n C dX12_place_62 rfl 0 rfl ?_
    refine jm_getA C K 9 (by decide) (by decide) kw_1444 rfl dX12_place_63 ?_
    refine jr_aload_n C dX12_place_66 rfl 0 rfl ?_
    refine jm_getA C K 8 (by decide) (by decide) kw_1443 rfl dX12_place_67 ?_
    refine jr_iload_n C dX12_place_70 rfl 2 rfl ?_
    by_cases z71 : inb v3 (mlA 8) = true
    case neg => exact op_none ((if_neg z71).symm.trans hv)
    have hv := (if_pos z71).symm.trans hv
    refine jm_iald C K z71 dX12_place_71 ?_
    refine jr_iload_n C dX12_place_72 rfl 1 rfl ?_
    refine jr_iadd C dX12_place_73 ?_
    by_cases z74 : inb ((gA S 8 (ix v3)) + v2) (mlB 9) = true
    case neg => exact op_none ((if_neg z74).symm.trans hv)
    have hv := (if_pos z74).symm.trans hv
    refine jm_lald C K z74 dX12_place_74 ?_
    refine jr_lstore (lv' := [(4, .long (gB S 9 (ix ((gA S 8 (ix v3)) + v2)))), (0, .ref (mo g)), (2, .int v2), (3, .int v3)]) C dX12_place_75 (by decide) rfl ?_
    exact jr_sub [1, 3, 0] rfl (tX12_place_77 C K G  S v3 (gB S 9 (ix ((gA S 8 (ix v3)) + v2))) hv)
  · have hv := (if_neg q57).symm.trans hv
    refine jr_lconst (v := 0) C dX12_place_60 (by decide) ?_
    exact jm_lret C K dX12_place_61 (Option.some.inj hv)
set_option maxRecDepth 100000 in
theorem tX12_place_50 {p : Program} {l : Launch} {e : Env} {s : State} {m : MethodId} {args : Array Value} {below : List Frame} {meth : Method} {c : Code} {g : MG} (C : CC p s m args meth c yX12_place cX12_place 7 (some .long)) (K : mK g s) (G : mSep g)  (S : MS) (v2 : Int32) (v3 : Int32) (t1 : Int32) {w : Int64 × MS} (hv : fX12_place_50 S v2 v3 t1 = some w) : MJ p l e s m args below meth c 7 4 g (some (.long w.1)) w.2 50 [(0, .ref (mo g)), (2, .int v2), (3, .int v3)] [.int t1, .ref (mo g)] S := by
  unfold fX12_place_50 at hv
  refine jm_putI C K G 0 (by decide) rfl kw_1435 rfl rfl (by decide +kernel) dX12_place_50 ?_
  exact tX12_place_53 C K G  (pI S 0 t1) v2 v3 hv
set_option maxRecDepth 100000 in
theorem tX12_place_27 {p : Program} {l : Launch} {e : Env} {s : State} {m : MethodId} {args : Array Value} {below : List Frame} {meth : Method} {c : Code} {g : MG} (C : CC p s m args meth c yX12_place cX12_place 7 (some .long)) (K : mK g s) (G : mSep g)  (S : MS) (v2 : Int32) (v3 : Int32) {w : Int64 × MS} (hv : fX12_place_27 S v2 v3 = some w) : MJ p l e s m args below meth c 7 4 g (some (.long w.1)) w.2 27 [(0, .ref (mo g)), (2, .int v2), (3, .int v3)] [.ref (mo g)] S := by
  unfold fX12_place_27 at hv
  refine jr_iconst (v := 1) C dX12_place_27 (by decide) ?_
  refine jr_goto (tgt := 50) C dX12_place_28 rfl ?_
  exact tX12_place_50 C K G  S v2 v3 1 hv
set_option maxRecDepth 100000 in
theorem tX12_place_45 {p : Program} {l : Launch} {e : Env} {s : State} {m : MethodId} {args : Array Value} {below : List Frame} {meth : Method} {c : Code} {g : MG} (C : CC p s m args meth c yX12_place cX12_place 7 (some .long)) (K : mK g s) (G : mSep g)  (S : MS) (v2 : Int32) (v3 : Int32) {w : Int64 × MS} (hv : fX12_place_45 S v2 v3 = some w) : MJ p l e s m args below meth c 7 4 g (some (.long w.1)) w.2 45 [(0, .ref (mo g)), (2, .int v2), (3, .int v3)] [.ref (mo g)] S := by
  unfold fX12_place_45 at hv
  refine jr_iconst (v := 2) C dX12_place_45 (by decide) ?_
  refine jr_goto (tgt := 50) C dX12_place_46 rfl ?_
  exact tX12_place_50 C K G  S v2 v3 2 hv
set_option maxRecDepth 100000 in
theorem tX12_place_10 {p : Program} {l : Launch} {e : Env} {s : State} {m : MethodId} {args : Array Value} {below : List Frame} {meth : Method} {c : Code} {g : MG} (C : CC p s m args meth c yX12_place cX12_place 7 (some .long)) (K : mK g s) (G : mSep g)  (S : MS) (v2 : Int32) (v3 : Int32) {w : Int64 × MS} (hv : fX12_place_10 S v2 v3 = some w) : MJ p l e s m args below meth c 7 4 g (some (.long w.1)) w.2 10 [(0, .ref (mo g)), (2, .int v2), (3, .int v3)] [] S := by
  unfold fX12_place_10 at hv
  refine jr_aload_n C dX12_place_10 rfl 0 rfl ?_
  refine jr_iload_n C dX12_place_11 rfl 2 rfl ?_
  refine jr_if_eq (tgt := 27) C dX12_place_12 rfl (fun q12 => ?_) (fun q12 => ?_)
  · have hv := (if_pos q12).symm.trans hv
    exact tX12_place_27 C K G  S v2 v3 hv
  · have hv := (if_neg q12).symm.trans hv
    refine jr_aload_n C dX12_place_15 rfl 0 rfl ?_
    refine jm_getA C K 6 (by decide) (by decide) kw_1441 rfl dX12_place_16 ?_
    refine jr_iload_n C dX12_place_19 rfl 2 rfl ?_
    by_cases z20 : inb v3 (mlA 6) = true
    case neg => exact op_none ((if_neg z20).symm.trans hv)
    have hv := (if_pos z20).symm.trans hv
    refine jm_iald C K z20 dX12_place_20 ?_
    refine jr_pcall (rest := [.ref (mo g)]) C (pX12_isRow l (gA S 6 (ix v3))) oX12_isRow kw_1364 rfl ⟨Nat.le_of_ble_eq_true rfl, Nat.le_of_ble_eq_true rfl⟩ rfl (Nat.le_of_ble_eq_true rfl) ⟨Nat.zero_le _, Nat.zero_le _⟩ dX12_place_21 ?_
    refine jr_if_ne (tgt := 31) C dX12_place_24 rfl (fun q24 => ?_) (fun q24 => ?_)
    · have hv := (if_neg q24).symm.trans hv
      refine jr_iload_n C dX12_place_31 rfl 1 rfl ?_
      refine jr_if_lt (tgt := 45) C dX12_place_32 rfl (fun q32 => ?_) (fun q32 => ?_)
      · have hv := (if_pos q32).symm.trans hv
        exact tX12_place_45 C K G  S v2 v3 hv
      · have hv := (if_neg q32).symm.trans hv
        refine jr_iload_n C dX12_place_35 rfl 1 rfl ?_
        refine jr_aload_n C dX12_place_36 rfl 0 rfl ?_
        refine jm_getA C K 7 (by decide) (by decide) kw_1442 rfl dX12_place_37 ?_
        refine jr_iload_n C dX12_place_40 rfl 2 rfl ?_
        by_cases z41 : inb v3 (mlA 7) = true
        case neg => exact op_none ((if_neg z41).symm.trans hv)
        have hv := (if_pos z41).symm.trans hv
        refine jm_iald C K z41 dX12_place_41 ?_
        refine jr_icmp_lt (tgt := 49) C dX12_place_42 rfl (fun q42 => ?_) (fun q42 => ?_)
        · have hv := (if_pos q42).symm.trans hv
          refine jr_iconst (v := 0) C dX12_place_49 (by decide) ?_
          exact tX12_place_50 C K G  S v2 v3 0 hv
        · have hv := (if_neg q42).symm.trans hv
          exact tX12_place_45 C K G  S v2 v3 hv
    · have hv := (if_pos q24).symm.trans hv
      exact tX12_place_27 C K G  S v2 v3 hv
set_option maxRecDepth 100000 in
theorem tX12_place_0 {p : Program} {l : Launch} {e : Env} {s : State} {m : MethodId} {args : Array Value} {below : List Frame} {meth : Method} {c : Code} {g : MG} (C : CC p s m args meth c yX12_place cX12_place 7 (some .long)) (K : mK g s) (G : mSep g)  (S : MS) (v1 : Int32) (v2 : Int32) {w : Int64 × MS} (hv : fX12_place S v1 v2 = some w) : MJ p l e s m args below meth c 7 4 g (some (.long w.1)) w.2 0 [(0, .ref (mo g)), (1, .int v1), (2, .int v2)] [] S := by
  unfold fX12_place at hv
  refine jr_aload_n C dX12_place_0 rfl 0 rfl ?_
  refine jm_getA C K 5 (by decide) (by decide) kw_1440 rfl dX12_place_1 ?_
  refine jr_iload_n C dX12_place_4 rfl 1 rfl ?_
  refine jr_bipush (v := 15) C dX12_place_5 (by decide) ?_
  refine jr_iand C dX12_place_7 ?_
  by_cases z8 : inb (v1 &&& 15) (mlA 5) = true
  case neg => exact op_none ((if_neg z8).symm.trans hv)
  have hv := (if_pos z8).symm.trans hv
  refine jm_iald C K z8 dX12_place_8 ?_
  refine jr_istore_n (lv' := [(3, .int (gA S 5 (ix (v1 &&& 15)))), (0, .ref (mo g)), (1, .int v1), (2, .int v2)]) C dX12_place_9 rfl (by decide) rfl ?_
  exact jr_sub [1, 3, 0] rfl (tX12_place_10 C K G  S v2 (gA S 5 (ix (v1 &&& 15))) hv)
theorem pX12_place (l : Launch) {g : MG} (G : mSep g) (S : MS) (v1 : Int32) (v2 : Int32) {w : Int64} {S' : MS} (hw : fX12_place S v1 v2 = some (w, S')) : mC l yX12_place cX12_place 7 (some .long) 4 g [.ref (mo g), .int v1, .int v2] S (some (.long w)) S' := mC_of (by decide +kernel) (Nat.le_of_ble_eq_true rfl) rfl (fun C K => tX12_place_0 C K G S v1 v2 hw)
/-! RobotCellModel.logged(I)J -/
def fX12_logged_24 (S : MS) : Option (Int64 × MS) :=
  some (0, S)
def fX12_logged_5 (S : MS) (v1 : Int32) : Option (Int64 × MS) :=
  if v1 < 0 then fX12_logged_24 S else (if (gI S 27) ≤ v1 then fX12_logged_24 S else (if v1 < 200 then (if inb v1 (mlB 26) = true then some (gB S 26 (ix v1), S) else none) else fX12_logged_24 S))
def fX12_logged (S : MS) (v1 : Int32) : Option (Int64 × MS) :=
  fX12_logged_5 (pI S 0 0) v1
theorem oX12_logged : ok_v yX12_logged cX12_logged 2 (some .long) 1 := ⟨kw_1610, kw_1608, kw_1609, kw_73, by decide +kernel⟩
set_option maxRecDepth 100000 in
theorem tX12_logged_24 {p : Program} {l : Launch} {e : Env} {s : State} {m : MethodId} {args : Array Value} {below : List Frame} {meth : Method} {c : Code} {g : MG} (C : CC p s m args meth c yX12_logged cX12_logged 2 (some .long)) (K : mK g s) (G : mSep g)  (S : MS) {w : Int64 × MS} (hv : fX12_logged_24 S = some w) : MJ p l e s m args below meth c 2 0 g (some (.long w.1)) w.2 24 [] [] S := by
  unfold fX12_logged_24 at hv
  refine jr_lconst (v := 0) C dX12_logged_24 (by decide) ?_
  refine jr_goto (tgt := 34) C dX12_logged_25 rfl ?_
  exact jm_lret C K dX12_logged_34 (Option.some.inj hv)
set_option maxRecDepth 100000 in
theorem tX12_logged_5 {p : Program} {l : Launch} {e : Env} {s : State} {m : MethodId} {args : Array Value} {below : List Frame} {meth : Method} {c : Code} {g : MG} (C : CC p s m args meth c yX12_logged cX12_logged 2 (some .long)) (K : mK g s) (G : mSep g)  (S : MS) (v1 : Int32) {w : Int64 × MS} (hv : fX12_logged_5 S v1 = some w) : MJ p l e s m args below meth c 2 0 g (some (.long w.1)) w.2 5 [(0, .ref (mo g)), (1, .int v1)] [] S := by
  unfold fX12_logged_5 at hv
  refine jr_iload_n C dX12_logged_5 rfl 1 rfl ?_
  refine jr_if_lt (tgt := 24) C dX12_logged_6 rfl (fun q6 => ?_) (fun q6 => ?_)
  · have hv := (if_pos q6).symm.trans hv
    exact jr_sub [] rfl (tX12_logged_24 C K G  S hv)
  · have hv := (if_neg q6).symm.trans hv
    refine jr_iload_n C dX12_logged_9 rfl 1 rfl ?_
    refine jr_aload_n C dX12_logged_10 rfl 0 rfl ?_
    refine jm_getI C K 27 (by decide) rfl kw_1462 rfl dX12_logged_11 ?_
    refine jr_icmp_ge (tgt := 24) C dX12_logged_14 rfl (fun q14 => ?_) (fun q14 => ?_)
    · have hv := (if_pos q14).symm.trans hv
      exact jr_sub [] rfl (tX12_logged_24 C K G  S hv)
    · have hv := (if_neg q14).symm.trans hv
      refine jr_iload_n C dX12_logged_17 rfl 1 rfl ?_
      refine jr_sipush (v := 200) C dX12_logged_18 (by decide) ?_
      refine jr_icmp_lt (tgt := 28) C dX12_logged_21 rfl (fun q21 => ?_) (fun q21 => ?_)
      · have hv := (if_pos q21).symm.trans hv
        refine jr_aload_n C dX12_logged_28 rfl 0 rfl ?_
        refine jm_getA C K 26 (by decide) (by decide) kw_1461 rfl dX12_logged_29 ?_
        refine jr_iload_n C dX12_logged_32 rfl 1 rfl ?_
        by_cases z33 : inb v1 (mlB 26) = true
        case neg => exact op_none ((if_neg z33).symm.trans hv)
        have hv := (if_pos z33).symm.trans hv
        refine jm_lald C K z33 dX12_logged_33 ?_
        exact jm_lret C K dX12_logged_34 (Option.some.inj hv)
      · have hv := (if_neg q21).symm.trans hv
        exact jr_sub [] rfl (tX12_logged_24 C K G  S hv)
set_option maxRecDepth 100000 in
theorem tX12_logged_0 {p : Program} {l : Launch} {e : Env} {s : State} {m : MethodId} {args : Array Value} {below : List Frame} {meth : Method} {c : Code} {g : MG} (C : CC p s m args meth c yX12_logged cX12_logged 2 (some .long)) (K : mK g s) (G : mSep g)  (S : MS) (v1 : Int32) {w : Int64 × MS} (hv : fX12_logged S v1 = some w) : MJ p l e s m args below meth c 2 0 g (some (.long w.1)) w.2 0 [(0, .ref (mo g)), (1, .int v1)] [] S := by
  unfold fX12_logged at hv
  refine jr_aload_n C dX12_logged_0 rfl 0 rfl ?_
  refine jr_iconst (v := 0) C dX12_logged_1 (by decide) ?_
  refine jm_putI C K G 0 (by decide) rfl kw_1435 rfl rfl (by decide +kernel) dX12_logged_2 ?_
  exact tX12_logged_5 C K G  (pI S 0 0) v1 hv
theorem pX12_logged (l : Launch) {g : MG} (G : mSep g) (S : MS) (v1 : Int32) {w : Int64} {S' : MS} (hw : fX12_logged S v1 = some (w, S')) : mC l yX12_logged cX12_logged 2 (some .long) 0 g [.ref (mo g), .int v1] S (some (.long w)) S' := mC_of (by decide +kernel) (Nat.le_of_ble_eq_true rfl) rfl (fun C K => tX12_logged_0 C K G S v1 hw)
/-! RobotCellModel.logs()I -/
def fX12_logs_5 (S : MS) : Option (Int32 × MS) :=
  some (gI S 27, S)
def fX12_logs (S : MS) : Option (Int32 × MS) :=
  fX12_logs_5 (pI S 0 0)
theorem oX12_logs : ok_v yX12_logs cX12_logs 1 (some .int) 0 := ⟨kw_1614, kw_1612, kw_1613, kw_73, by decide +kernel⟩
set_option maxRecDepth 100000 in
theorem tX12_logs_5 {p : Program} {l : Launch} {e : Env} {s : State} {m : MethodId} {args : Array Value} {below : List Frame} {meth : Method} {c : Code} {g : MG} (C : CC p s m args meth c yX12_logs cX12_logs 1 (some .int)) (K : mK g s) (G : mSep g)  (S : MS) {w : Int32 × MS} (hv : fX12_logs_5 S = some w) : MJ p l e s m args below meth c 1 0 g (some (.int w.1)) w.2 5 [(0, .ref (mo g))] [] S := by
  unfold fX12_logs_5 at hv
  refine jr_aload_n C dX12_logs_5 rfl 0 rfl ?_
  refine jm_getI C K 27 (by decide) rfl kw_1462 rfl dX12_logs_6 ?_
  exact jm_iret C K dX12_logs_9 (Option.some.inj hv)
set_option maxRecDepth 100000 in
theorem tX12_logs_0 {p : Program} {l : Launch} {e : Env} {s : State} {m : MethodId} {args : Array Value} {below : List Frame} {meth : Method} {c : Code} {g : MG} (C : CC p s m args meth c yX12_logs cX12_logs 1 (some .int)) (K : mK g s) (G : mSep g)  (S : MS) {w : Int32 × MS} (hv : fX12_logs S = some w) : MJ p l e s m args below meth c 1 0 g (some (.int w.1)) w.2 0 [(0, .ref (mo g))] [] S := by
  unfold fX12_logs at hv
  refine jr_aload_n C dX12_logs_0 rfl 0 rfl ?_
  refine jr_iconst (v := 0) C dX12_logs_1 (by decide) ?_
  refine jm_putI C K G 0 (by decide) rfl kw_1435 rfl rfl (by decide +kernel) dX12_logs_2 ?_
  exact tX12_logs_5 C K G  (pI S 0 0) hv
theorem pX12_logs (l : Launch) {g : MG} (G : mSep g) (S : MS)  {w : Int32} {S' : MS} (hw : fX12_logs S = some (w, S')) : mC l yX12_logs cX12_logs 1 (some .int) 0 g [.ref (mo g)] S (some (.int w)) S' := mC_of (by decide +kernel) (Nat.le_of_ble_eq_true rfl) rfl (fun C K => tX12_logs_0 C K G S hw)
/-! RobotCellModel.reset()V -/
def fX12_reset_65 (S : MS) : Option (MS) :=
  some S
def fX12_reset_60 (S : MS) : Option (MS) :=
  fX12_reset_65 (pI S 42 (-1))
def fX12_reset_55 (S : MS) : Option (MS) :=
  fX12_reset_60 (pI S 39 0)
def fX12_reset_50 (S : MS) : Option (MS) :=
  fX12_reset_55 (pI S 45 0)
def fX12_reset_45 (S : MS) : Option (MS) :=
  fX12_reset_50 (pI S 27 0)
def fX12_reset_37 (r7 : MS → Int32 → Option (MS)) (S : MS) (v1 : Int32) : Option (MS) :=
  r7 S v1
def fX12_reset_34 (r7 : MS → Int32 → Option (MS)) (S : MS) (v1 : Int32) : Option (MS) :=
  fX12_reset_37 r7 S (v1 + 1)
def fX12_reset_27 (r7 : MS → Int32 → Option (MS)) (S : MS) (v1 : Int32) : Option (MS) :=
  if inb v1 (mlA 5) = true then fX12_reset_34 r7 (pA S 5 (ix v1) 0) v1 else none
def fX12_reset_20 (r7 : MS → Int32 → Option (MS)) (S : MS) (v1 : Int32) : Option (MS) :=
  if inb v1 (mlB 4) = true then fX12_reset_27 r7 (pB S 4 (ix v1) 0) v1 else none
def fX12_reset_7  : Nat → MS → Int32 → Option (MS)
  | 0, _, _ => none
  | q + 1, S, v1 => if 16 ≤ v1 then fX12_reset_45 (pI S 25 0) else (if inb v1 (mlB 3) = true then fX12_reset_20 (fX12_reset_7  q) (pB S 3 (ix v1) 0) v1 else none)
def fX12_reset_5 (S : MS) : Option (MS) :=
  fX12_reset_7 20 S 0
def fX12_reset (S : MS) : Option (MS) :=
  fX12_reset_5 (pI S 0 0)
theorem oX12_reset : ok_v yX12_reset cX12_reset 2 none 0 := ⟨kw_1618, kw_1616, kw_1617, kw_73, by decide +kernel⟩
set_option maxRecDepth 100000 in
theorem tX12_reset_65 {p : Program} {l : Launch} {e : Env} {s : State} {m : MethodId} {args : Array Value} {below : List Frame} {meth : Method} {c : Code} {g : MG} (C : CC p s m args meth c yX12_reset cX12_reset 2 none) (K : mK g s) (G : mSep g)  (S : MS) {w : MS} (hv : fX12_reset_65 S = some w) : MJ p l e s m args below meth c 2 0 g none w 65 [] [] S := by
  unfold fX12_reset_65 at hv
  exact jm_vret C K dX12_reset_65 (Option.some.inj hv)
set_option maxRecDepth 100000 in
theorem tX12_reset_60 {p : Program} {l : Launch} {e : Env} {s : State} {m : MethodId} {args : Array Value} {below : List Frame} {meth : Method} {c : Code} {g : MG} (C : CC p s m args meth c yX12_reset cX12_reset 2 none) (K : mK g s) (G : mSep g)  (S : MS) {w : MS} (hv : fX12_reset_60 S = some w) : MJ p l e s m args below meth c 2 0 g none w 60 [(0, .ref (mo g))] [] S := by
  unfold fX12_reset_60 at hv
  refine jr_aload_n C dX12_reset_60 rfl 0 rfl ?_
  refine jr_iconst (v := (-1)) C dX12_reset_61 (by decide) ?_
  refine jm_putI C K G 42 (by decide) rfl kw_1477 rfl rfl (by decide +kernel) dX12_reset_62 ?_
  exact jr_sub [] rfl (tX12_reset_65 C K G  (pI S 42 (-1)) hv)
set_option maxRecDepth 100000 in
theorem tX12_reset_55 {p : Program} {l : Launch} {e : Env} {s : State} {m : MethodId} {args : Array Value} {below : List Frame} {meth : Method} {c : Code} {g : MG} (C : CC p s m args meth c yX12_reset cX12_reset 2 none) (K : mK g s) (G : mSep g)  (S : MS) {w : MS} (hv : fX12_reset_55 S = some w) : MJ p l e s m args below meth c 2 0 g none w 55 [(0, .ref (mo g))] [] S := by
  unfold fX12_reset_55 at hv
  refine jr_aload_n C dX12_reset_55 rfl 0 rfl ?_
  refine jr_iconst (v := 0) C dX12_reset_56 (by decide) ?_
  refine jm_putI C K G 39 (by decide) rfl kw_1474 rfl rfl (by decide +kernel) dX12_reset_57 ?_
  exact tX12_reset_60 C K G  (pI S 39 0) hv
set_option maxRecDepth 100000 in
theorem tX12_reset_50 {p : Program} {l : Launch} {e : Env} {s : State} {m : MethodId} {args : Array Value} {below : List Frame} {meth : Method} {c : Code} {g : MG} (C : CC p s m args meth c yX12_reset cX12_reset 2 none) (K : mK g s) (G : mSep g)  (S : MS) {w : MS} (hv : fX12_reset_50 S = some w) : MJ p l e s m args below meth c 2 0 g none w 50 [(0, .ref (mo g))] [] S := by
  unfold fX12_reset_50 at hv
  refine jr_aload_n C dX12_reset_50 rfl 0 rfl ?_
  refine jr_iconst (v := 0) C dX12_reset_51 (by decide) ?_
  refine jm_putI C K G 45 (by decide) rfl kw_1480 rfl rfl (by decide +kernel) dX12_reset_52 ?_
  exact tX12_reset_55 C K G  (pI S 45 0) hv
set_option maxRecDepth 100000 in
theorem tX12_reset_45 {p : Program} {l : Launch} {e : Env} {s : State} {m : MethodId} {args : Array Value} {below : List Frame} {meth : Method} {c : Code} {g : MG} (C : CC p s m args meth c yX12_reset cX12_reset 2 none) (K : mK g s) (G : mSep g)  (S : MS) {w : MS} (hv : fX12_reset_45 S = some w) : MJ p l e s m args below meth c 2 0 g none w 45 [(0, .ref (mo g))] [] S := by
  unfold fX12_reset_45 at hv
  refine jr_aload_n C dX12_reset_45 rfl 0 rfl ?_
  refine jr_iconst (v := 0) C dX12_reset_46 (by decide) ?_
  refine jm_putI C K G 27 (by decide) rfl kw_1462 rfl rfl (by decide +kernel) dX12_reset_47 ?_
  exact tX12_reset_50 C K G  (pI S 27 0) hv
set_option maxRecDepth 100000 in
theorem tX12_reset_37 {p : Program} {l : Launch} {e : Env} {s : State} {m : MethodId} {args : Array Value} {below : List Frame} {meth : Method} {c : Code} {g : MG} (C : CC p s m args meth c yX12_reset cX12_reset 2 none) (K : mK g s) (G : mSep g) (r7 : MS → Int32 → Option (MS)) (h7 : ∀ (S : MS) (v1 : Int32) (w : MS), r7 S v1 = some w → MJ p l e s m args below meth c 2 0 g none w 7 [(0, .ref (mo g)), (1, .int v1)] [] S) (S : MS) (v1 : Int32) {w : MS} (hv : fX12_reset_37 r7 S v1 = some w) : MJ p l e s m args below meth c 2 0 g none w 37 [(0, .ref (mo g)), (1, .int v1)] [] S := by
  unfold fX12_reset_37 at hv
  refine jr_goto (tgt := 7) C dX12_reset_37 rfl ?_
  exact h7 S v1 _ hv
set_option maxRecDepth 100000 in
theorem tX12_reset_34 {p : Program} {l : Launch} {e : Env} {s : State} {m : MethodId} {args : Array Value} {below : List Frame} {meth : Method} {c : Code} {g : MG} (C : CC p s m args meth c yX12_reset cX12_reset 2 none) (K : mK g s) (G : mSep g) (r7 : MS → Int32 → Option (MS)) (h7 : ∀ (S : MS) (v1 : Int32) (w : MS), r7 S v1 = some w → MJ p l e s m args below meth c 2 0 g none w 7 [(0, .ref (mo g)), (1, .int v1)] [] S) (S : MS) (v1 : Int32) {w : MS} (hv : fX12_reset_34 r7 S v1 = some w) : MJ p l e s m args below meth c 2 0 g none w 34 [(0, .ref (mo g)), (1, .int v1)] [] S := by
  unfold fX12_reset_34 at hv
  refine jr_iinc (v := (v1 + 1)) (lv' := [(1, .int (v1 + 1)), (0, .ref (mo g))]) C dX12_reset_34 1 rfl rfl (by decide) rfl ?_
  exact jr_sub [1, 0] rfl (tX12_reset_37 C K G r7 h7 S (v1 + 1) hv)
set_option maxRecDepth 100000 in
theorem tX12_reset_27 {p : Program} {l : Launch} {e : Env} {s : State} {m : MethodId} {args : Array Value} {below : List Frame} {meth : Method} {c : Code} {g : MG} (C : CC p s m args meth c yX12_reset cX12_reset 2 none) (K : mK g s) (G : mSep g) (r7 : MS → Int32 → Option (MS)) (h7 : ∀ (S : MS) (v1 : Int32) (w : MS), r7 S v1 = some w → MJ p l e s m args below meth c 2 0 g none w 7 [(0, .ref (mo g)), (1, .int v1)] [] S) (S : MS) (v1 : Int32) {w : MS} (hv : fX12_reset_27 r7 S v1 = some w) : MJ p l e s m args below meth c 2 0 g none w 27 [(0, .ref (mo g)), (1, .int v1)] [] S := by
  unfold fX12_reset_27 at hv
  refine jr_aload_n C dX12_reset_27 rfl 0 rfl ?_
  refine jm_getA C K 5 (by decide) (by decide) kw_1440 rfl dX12_reset_28 ?_
  refine jr_iload_n C dX12_reset_31 rfl 1 rfl ?_
  refine jr_iconst (v := 0) C dX12_reset_32 (by decide) ?_
  by_cases z33 : inb v1 (mlA 5) = true
  case neg => exact op_none ((if_neg z33).symm.trans hv)
  have hv := (if_pos z33).symm.trans hv
  refine jm_iast C K G z33 dX12_reset_33 ?_
  exact tX12_reset_34 C K G r7 h7 (pA S 5 (ix v1) 0) v1 hv
set_option maxRecDepth 100000 in
theorem tX12_reset_20 {p : Program} {l : Launch} {e : Env} {s : State} {m : MethodId} {args : Array Value} {below : List Frame} {meth : Method} {c : Code} {g : MG} (C : CC p s m args meth c yX12_reset cX12_reset 2 none) (K : mK g s) (G : mSep g) (r7 : MS → Int32 → Option (MS)) (h7 : ∀ (S : MS) (v1 : Int32) (w : MS), r7 S v1 = some w → MJ p l e s m args below meth c 2 0 g none w 7 [(0, .ref (mo g)), (1, .int v1)] [] S) (S : MS) (v1 : Int32) {w : MS} (hv : fX12_reset_20 r7 S v1 = some w) : MJ p l e s m args below meth c 2 0 g none w 20 [(0, .ref (mo g)), (1, .int v1)] [] S := by
  unfold fX12_reset_20 at hv
  refine jr_aload_n C dX12_reset_20 rfl 0 rfl ?_
  refine jm_getA C K 4 (by decide) (by decide) kw_1439 rfl dX12_reset_21 ?_
  refine jr_iload_n C dX12_reset_24 rfl 1 rfl ?_
  refine jr_lconst (v := 0) C dX12_reset_25 (by decide) ?_
  by_cases z26 : inb v1 (mlB 4) = true
  case neg => exact op_none ((if_neg z26).symm.trans hv)
  have hv := (if_pos z26).symm.trans hv
  refine jm_last C K G z26 dX12_reset_26 ?_
  exact tX12_reset_27 C K G r7 h7 (pB S 4 (ix v1) 0) v1 hv
set_option maxRecDepth 100000 in
theorem tX12_reset_7 {p : Program} {l : Launch} {e : Env} {s : State} {m : MethodId} {args : Array Value} {below : List Frame} {meth : Method} {c : Code} {g : MG} (C : CC p s m args meth c yX12_reset cX12_reset 2 none) (K : mK g s) (G : mSep g)  : ∀ (q : Nat) (S : MS) (v1 : Int32) (w : MS), fX12_reset_7  q S v1 = some w → MJ p l e s m args below meth c 2 0 g none w 7 [(0, .ref (mo g)), (1, .int v1)] [] S := by
  intro q
  induction q with
  | zero => intro S v1 w hv; exact absurd hv (by simp [fX12_reset_7])
  | succ q ih =>
    intro S v1 w hv
    unfold fX12_reset_7 at hv
    refine jr_iload_n C dX12_reset_7 rfl 1 rfl ?_
    refine jr_bipush (v := 16) C dX12_reset_8 (by decide) ?_
    refine jr_icmp_ge (tgt := 40) C dX12_reset_10 rfl (fun q10 => ?_) (fun q10 => ?_)
    · have hv := (if_pos q10).symm.trans hv
      refine jr_aload_n C dX12_reset_40 rfl 0 rfl ?_
      refine jr_iconst (v := 0) C dX12_reset_41 (by decide) ?_
      refine jm_putI C K G 25 (by decide) rfl kw_1460 rfl rfl (by decide +kernel) dX12_reset_42 ?_
      exact jr_sub [0] rfl (tX12_reset_45 C K G  (pI S 25 0) hv)
    · have hv := (if_neg q10).symm.trans hv
      refine jr_aload_n C dX12_reset_13 rfl 0 rfl ?_
      refine jm_getA C K 3 (by decide) (by decide) kw_1438 rfl dX12_reset_14 ?_
      refine jr_iload_n C dX12_reset_17 rfl 1 rfl ?_
      refine jr_lconst (v := 0) C dX12_reset_18 (by decide) ?_
      by_cases z19 : inb v1 (mlB 3) = true
      case neg => exact op_none ((if_neg z19).symm.trans hv)
      have hv := (if_pos z19).symm.trans hv
      refine jm_last C K G z19 dX12_reset_19 ?_
      exact tX12_reset_20 C K G (fX12_reset_7  q) ih (pB S 3 (ix v1) 0) v1 hv
set_option maxRecDepth 100000 in
theorem tX12_reset_5 {p : Program} {l : Launch} {e : Env} {s : State} {m : MethodId} {args : Array Value} {below : List Frame} {meth : Method} {c : Code} {g : MG} (C : CC p s m args meth c yX12_reset cX12_reset 2 none) (K : mK g s) (G : mSep g)  (S : MS) {w : MS} (hv : fX12_reset_5 S = some w) : MJ p l e s m args below meth c 2 0 g none w 5 [(0, .ref (mo g))] [] S := by
  unfold fX12_reset_5 at hv
  refine jr_iconst (v := 0) C dX12_reset_5 (by decide) ?_
  refine jr_istore_n (lv' := [(1, .int 0), (0, .ref (mo g))]) C dX12_reset_6 rfl (by decide) rfl ?_
  exact jr_sub [1, 0] rfl (tX12_reset_7 C K G  20 S 0 _ hv)
set_option maxRecDepth 100000 in
theorem tX12_reset_0 {p : Program} {l : Launch} {e : Env} {s : State} {m : MethodId} {args : Array Value} {below : List Frame} {meth : Method} {c : Code} {g : MG} (C : CC p s m args meth c yX12_reset cX12_reset 2 none) (K : mK g s) (G : mSep g)  (S : MS) {w : MS} (hv : fX12_reset S = some w) : MJ p l e s m args below meth c 2 0 g none w 0 [(0, .ref (mo g))] [] S := by
  unfold fX12_reset at hv
  refine jr_aload_n C dX12_reset_0 rfl 0 rfl ?_
  refine jr_iconst (v := 0) C dX12_reset_1 (by decide) ?_
  refine jm_putI C K G 0 (by decide) rfl kw_1435 rfl rfl (by decide +kernel) dX12_reset_2 ?_
  exact tX12_reset_5 C K G  (pI S 0 0) hv
theorem pX12_reset (l : Launch) {g : MG} (G : mSep g) (S : MS)  {S' : MS} (hw : fX12_reset S = some S') : mC l yX12_reset cX12_reset 2 none 0 g [.ref (mo g)] S none S' := mC_of (by decide +kernel) (Nat.le_of_ble_eq_true rfl) rfl (fun C K => tX12_reset_0 C K G S hw)
