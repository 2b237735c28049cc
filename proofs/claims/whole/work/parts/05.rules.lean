/-! the judgement: from pc, with locals lv and stack st, in a world x, the method comes to Q -/
def CC (p : Program) (s : State) (m : MethodId) (args : Array Value) (meth : Method) (c : Code) (y : MethodName) (cc : ByteArray) (n : Nat) (r : Option FieldType) : Prop :=
  p.tables.exec = Jvm.exec ∧ c.code = cc ∧ c.maxLocals = n ∧ meth.sig.returnType = r ∧ meth.locks = false ∧ s.vm.findClass y.cls = some m.cls ∧ meth.name = y.name ∧ (∀ w ∈ lw_tbl, goodWord w = true → w.before args s = true)
def JJ {σ : Type} (p : Program) (l : Launch) (e : Env) (R : Room) (s : State) (m : MethodId) (args : Array Value) (below : List Frame) (meth : Method) (c : Code) (n : Nat) (Wd : σ → Heap → List Loc → Prop) (Q : State → Prop) (pc : Nat) (lv : List (Nat × Value)) (st : List Value) (x : σ) (cells slots : Nat) : Prop :=
  ∀ (H : Heap) (locs : List Loc) (ls : Array Slot), lv_has ls n lv → Wd x H locs → W p l e R s m args below meth c H locs cells slots Q (F0 m pc ls st)
section JR
variable {σ : Type} {p : Program} {l : Launch} {e : Env} {R : Room} {s : State} {m : MethodId} {args : Array Value} {below : List Frame} {meth : Method} {c : Code} {y : MethodName} {cc : ByteArray} {n : Nat} {r : Option FieldType} {Wd : σ → Heap → List Loc → Prop} {Q : State → Prop} {pc : Nat} {lv lv' : List (Nat × Value)} {rest : List Value} {w : σ} {cells slots : Nat}
theorem jr_iconst (C : CC p s m args meth c y cc n r) {k : Int} {v : Int32} (d : decode cc pc = .ok (.iconst k, 1)) (hv : Int32.ofInt k = v) (kk : JJ p l e R s m args below meth c n Wd Q (pc + 1) lv (.int v :: rest) w cells slots) : JJ p l e R s m args below meth c n Wd Q pc lv rest w cells slots := by
  intro H locs ls hl hw
  exact lv_iconst C.1 C.2.1 d hv (kk H locs ls hl hw)
theorem jr_bipush (C : CC p s m args meth c y cc n r) {k : Int} {v : Int32} (d : decode cc pc = .ok (.bipush k, 2)) (hv : (Int8.ofInt k).toInt32 = v) (kk : JJ p l e R s m args below meth c n Wd Q (pc + 2) lv (.int v :: rest) w cells slots) : JJ p l e R s m args below meth c n Wd Q pc lv rest w cells slots := by
  intro H locs ls hl hw
  exact lv_bipush C.1 C.2.1 d hv (kk H locs ls hl hw)
theorem jr_sipush (C : CC p s m args meth c y cc n r) {k : Int} {v : Int32} (d : decode cc pc = .ok (.sipush k, 3)) (hv : (Int16.ofInt k).toInt32 = v) (kk : JJ p l e R s m args below meth c n Wd Q (pc + 3) lv (.int v :: rest) w cells slots) : JJ p l e R s m args below meth c n Wd Q pc lv rest w cells slots := by
  intro H locs ls hl hw
  exact lv_sipush C.1 C.2.1 d hv (kk H locs ls hl hw)
theorem jr_lconst (C : CC p s m args meth c y cc n r) {k : Fin 2} {v : Int64} (d : decode cc pc = .ok (.lconst k, 1)) (hv : Int64.ofNat (k : Nat) = v) (kk : JJ p l e R s m args below meth c n Wd Q (pc + 1) lv (.long v :: rest) w cells slots) : JJ p l e R s m args below meth c n Wd Q pc lv rest w cells slots := by
  intro H locs ls hl hw
  exact lv_lconst C.1 C.2.1 d hv (kk H locs ls hl hw)
theorem jr_ldc (C : CC p s m args meth c y cc n r) {i : Nat} {v : Int32} (hk : Cond.constant y.cls i v ∈ lw_tbl) (d : decode cc pc = .ok (.ldc i, 2)) (kk : JJ p l e R s m args below meth c n Wd Q (pc + 2) lv (.int v :: rest) w cells slots) : JJ p l e R s m args below meth c n Wd Q pc lv rest w cells slots := by
  intro H locs ls hl hw
  exact lv_ldc C.1 C.2.1 C.2.2.2.2.2.1 (C.2.2.2.2.2.2.2 _ hk rfl) d (kk H locs ls hl hw)
theorem jr_ldcw (C : CC p s m args meth c y cc n r) {i : Nat} {v : Int32} (hk : Cond.constant y.cls i v ∈ lw_tbl) (d : decode cc pc = .ok (.ldc_w i, 3)) (kk : JJ p l e R s m args below meth c n Wd Q (pc + 3) lv (.int v :: rest) w cells slots) : JJ p l e R s m args below meth c n Wd Q pc lv rest w cells slots := by
  intro H locs ls hl hw
  exact lv_ldcw C.1 C.2.1 C.2.2.2.2.2.1 (C.2.2.2.2.2.2.2 _ hk rfl) d (kk H locs ls hl hw)
theorem jr_ldc2 (C : CC p s m args meth c y cc n r) {i : Nat} {v : Int64} (hk : Cond.constantLong y.cls i v ∈ lw_tbl) (d : decode cc pc = .ok (.ldc2_w i, 3)) (kk : JJ p l e R s m args below meth c n Wd Q (pc + 3) lv (.long v :: rest) w cells slots) : JJ p l e R s m args below meth c n Wd Q pc lv rest w cells slots := by
  intro H locs ls hl hw
  exact lv_ldc2 C.1 C.2.1 C.2.2.2.2.2.1 (C.2.2.2.2.2.2.2 _ hk rfl) d (kk H locs ls hl hw)
theorem jr_iload_n (C : CC p s m args meth c y cc n r) {k : Fin 4} {i : Nat} {x : Int32} (d : decode cc pc = .ok (.iload_n k, 1)) (hi : (k : Nat) = i) (q : Nat) (hq : lv[q]? = some (i, .int x)) (kk : JJ p l e R s m args below meth c n Wd Q (pc + 1) lv (.int x :: rest) w cells slots) : JJ p l e R s m args below meth c n Wd Q pc lv rest w cells slots := by
  intro H locs ls hl hw
  exact lv_iload_n C.1 C.2.1 d hi (lv_at hl q hq) (kk H locs ls hl hw)
theorem jr_iload (C : CC p s m args meth c y cc n r) {i : Nat} {x : Int32} (d : decode cc pc = .ok (.iload i, 2)) (q : Nat) (hq : lv[q]? = some (i, .int x)) (kk : JJ p l e R s m args below meth c n Wd Q (pc + 2) lv (.int x :: rest) w cells slots) : JJ p l e R s m args below meth c n Wd Q pc lv rest w cells slots := by
  intro H locs ls hl hw
  exact lv_iload C.1 C.2.1 d (lv_at hl q hq) (kk H locs ls hl hw)
theorem jr_istore_n (C : CC p s m args meth c y cc n r) {k : Fin 4} {i : Nat} {x : Int32} (d : decode cc pc = .ok (.istore_n k, 1)) (hi : (k : Nat) = i) (hn : i < n) (hv : (i, Value.int x) :: lv.filter (fun q => !(q.1 == i) && !(q.1 + 1 == i && q.2.category == 2)) = lv') (kk : JJ p l e R s m args below meth c n Wd Q (pc + 1) lv' rest w cells slots) : JJ p l e R s m args below meth c n Wd Q pc lv (.int x :: rest) w cells slots := by
  intro H locs ls hl hw
  exact lv_istore_n C.1 C.2.1 d hi hl hn hv (fun ls hl => kk H locs ls hl hw)
theorem jr_istore (C : CC p s m args meth c y cc n r) {i : Nat} {x : Int32} (d : decode cc pc = .ok (.istore i, 2)) (hn : i < n) (hv : (i, Value.int x) :: lv.filter (fun q => !(q.1 == i) && !(q.1 + 1 == i && q.2.category == 2)) = lv') (kk : JJ p l e R s m args below meth c n Wd Q (pc + 2) lv' rest w cells slots) : JJ p l e R s m args below meth c n Wd Q pc lv (.int x :: rest) w cells slots := by
  intro H locs ls hl hw
  exact lv_istore C.1 C.2.1 d hl hn hv (fun ls hl => kk H locs ls hl hw)
theorem jr_lload_n (C : CC p s m args meth c y cc n r) {k : Fin 4} {i : Nat} {x : Int64} (d : decode cc pc = .ok (.lload_n k, 1)) (hi : (k : Nat) = i) (q : Nat) (hq : lv[q]? = some (i, .long x)) (kk : JJ p l e R s m args below meth c n Wd Q (pc + 1) lv (.long x :: rest) w cells slots) : JJ p l e R s m args below meth c n Wd Q pc lv rest w cells slots := by
  intro H locs ls hl hw
  exact lv_lload_n C.1 C.2.1 d hi (lv_at hl q hq) (kk H locs ls hl hw)
theorem jr_lload (C : CC p s m args meth c y cc n r) {i : Nat} {x : Int64} (d : decode cc pc = .ok (.lload i, 2)) (q : Nat) (hq : lv[q]? = some (i, .long x)) (kk : JJ p l e R s m args below meth c n Wd Q (pc + 2) lv (.long x :: rest) w cells slots) : JJ p l e R s m args below meth c n Wd Q pc lv rest w cells slots := by
  intro H locs ls hl hw
  exact lv_lload C.1 C.2.1 d (lv_at hl q hq) (kk H locs ls hl hw)
theorem jr_lstore_n (C : CC p s m args meth c y cc n r) {k : Fin 4} {i : Nat} {x : Int64} (d : decode cc pc = .ok (.lstore_n k, 1)) (hi : (k : Nat) = i) (hn : i + 1 < n) (hv : (i, Value.long x) :: lv.filter (fun q => !(q.1 == i) && (!(q.1 == i + 1) && !(q.1 + 1 == i && q.2.category == 2))) = lv') (kk : JJ p l e R s m args below meth c n Wd Q (pc + 1) lv' rest w cells slots) : JJ p l e R s m args below meth c n Wd Q pc lv (.long x :: rest) w cells slots := by
  intro H locs ls hl hw
  exact lv_lstore_n C.1 C.2.1 d hi hl hn hv (fun ls hl => kk H locs ls hl hw)
theorem jr_lstore (C : CC p s m args meth c y cc n r) {i : Nat} {x : Int64} (d : decode cc pc = .ok (.lstore i, 2)) (hn : i + 1 < n) (hv : (i, Value.long x) :: lv.filter (fun q => !(q.1 == i) && (!(q.1 == i + 1) && !(q.1 + 1 == i && q.2.category == 2))) = lv') (kk : JJ p l e R s m args below meth c n Wd Q (pc + 2) lv' rest w cells slots) : JJ p l e R s m args below meth c n Wd Q pc lv (.long x :: rest) w cells slots := by
  intro H locs ls hl hw
  exact lv_lstore C.1 C.2.1 d hl hn hv (fun ls hl => kk H locs ls hl hw)
theorem jr_aload_n (C : CC p s m args meth c y cc n r) {k : Fin 4} {i : Nat} {x : Nat} (d : decode cc pc = .ok (.aload_n k, 1)) (hi : (k : Nat) = i) (q : Nat) (hq : lv[q]? = some (i, .ref x)) (kk : JJ p l e R s m args below meth c n Wd Q (pc + 1) lv (.ref x :: rest) w cells slots) : JJ p l e R s m args below meth c n Wd Q pc lv rest w cells slots := by
  intro H locs ls hl hw
  exact lv_aload_n C.1 C.2.1 d hi (lv_at hl q hq) (kk H locs ls hl hw)
theorem jr_aload (C : CC p s m args meth c y cc n r) {i : Nat} {x : Nat} (d : decode cc pc = .ok (.aload i, 2)) (q : Nat) (hq : lv[q]? = some (i, .ref x)) (kk : JJ p l e R s m args below meth c n Wd Q (pc + 2) lv (.ref x :: rest) w cells slots) : JJ p l e R s m args below meth c n Wd Q pc lv rest w cells slots := by
  intro H locs ls hl hw
  exact lv_aload C.1 C.2.1 d (lv_at hl q hq) (kk H locs ls hl hw)
theorem jr_astore_n (C : CC p s m args meth c y cc n r) {k : Fin 4} {i : Nat} {x : Nat} (d : decode cc pc = .ok (.astore_n k, 1)) (hi : (k : Nat) = i) (hn : i < n) (hv : (i, Value.ref x) :: lv.filter (fun q => !(q.1 == i) && !(q.1 + 1 == i && q.2.category == 2)) = lv') (kk : JJ p l e R s m args below meth c n Wd Q (pc + 1) lv' rest w cells slots) : JJ p l e R s m args below meth c n Wd Q pc lv (.ref x :: rest) w cells slots := by
  intro H locs ls hl hw
  exact lv_astore_n C.1 C.2.1 d hi hl hn hv (fun ls hl => kk H locs ls hl hw)
theorem jr_astore (C : CC p s m args meth c y cc n r) {i : Nat} {x : Nat} (d : decode cc pc = .ok (.astore i, 2)) (hn : i < n) (hv : (i, Value.ref x) :: lv.filter (fun q => !(q.1 == i) && !(q.1 + 1 == i && q.2.category == 2)) = lv') (kk : JJ p l e R s m args below meth c n Wd Q (pc + 2) lv' rest w cells slots) : JJ p l e R s m args below meth c n Wd Q pc lv (.ref x :: rest) w cells slots := by
  intro H locs ls hl hw
  exact lv_astore C.1 C.2.1 d hl hn hv (fun ls hl => kk H locs ls hl hw)
theorem jr_iinc (C : CC p s m args meth c y cc n r) {i : Nat} {k : Int} {x v : Int32} (d : decode cc pc = .ok (.iinc i k, 3)) (q : Nat) (hq : lv[q]? = some (i, .int x)) (hx : x + Int32.ofInt k = v) (hn : i < n) (hv : (i, Value.int v) :: lv.filter (fun q => !(q.1 == i) && !(q.1 + 1 == i && q.2.category == 2)) = lv') (kk : JJ p l e R s m args below meth c n Wd Q (pc + 3) lv' rest w cells slots) : JJ p l e R s m args below meth c n Wd Q pc lv rest w cells slots := by
  intro H locs ls hl hw
  exact lv_iinc C.1 C.2.1 d hl hq hx hn hv (fun ls hl => kk H locs ls hl hw)
theorem jr_iadd (C : CC p s m args meth c y cc n r) {x y : Int32} (d : decode cc pc = .ok (.iadd, 1)) (kk : JJ p l e R s m args below meth c n Wd Q (pc + 1) lv (.int (x + y) :: rest) w cells slots) : JJ p l e R s m args below meth c n Wd Q pc lv (.int y :: .int x :: rest) w cells slots := by
  intro H locs ls hl hw
  exact lv_iadd C.1 C.2.1 d (kk H locs ls hl hw)
theorem jr_isub (C : CC p s m args meth c y cc n r) {x y : Int32} (d : decode cc pc = .ok (.isub, 1)) (kk : JJ p l e R s m args below meth c n Wd Q (pc + 1) lv (.int (x - y) :: rest) w cells slots) : JJ p l e R s m args below meth c n Wd Q pc lv (.int y :: .int x :: rest) w cells slots := by
  intro H locs ls hl hw
  exact lv_isub C.1 C.2.1 d (kk H locs ls hl hw)
theorem jr_imul (C : CC p s m args meth c y cc n r) {x y : Int32} (d : decode cc pc = .ok (.imul, 1)) (kk : JJ p l e R s m args below meth c n Wd Q (pc + 1) lv (.int (x * y) :: rest) w cells slots) : JJ p l e R s m args below meth c n Wd Q pc lv (.int y :: .int x :: rest) w cells slots := by
  intro H locs ls hl hw
  exact lv_imul C.1 C.2.1 d (kk H locs ls hl hw)
theorem jr_iand (C : CC p s m args meth c y cc n r) {x y : Int32} (d : decode cc pc = .ok (.iand, 1)) (kk : JJ p l e R s m args below meth c n Wd Q (pc + 1) lv (.int (x &&& y) :: rest) w cells slots) : JJ p l e R s m args below meth c n Wd Q pc lv (.int y :: .int x :: rest) w cells slots := by
  intro H locs ls hl hw
  exact lv_iand C.1 C.2.1 d (kk H locs ls hl hw)
theorem jr_ior (C : CC p s m args meth c y cc n r) {x y : Int32} (d : decode cc pc = .ok (.ior, 1)) (kk : JJ p l e R s m args below meth c n Wd Q (pc + 1) lv (.int (x ||| y) :: rest) w cells slots) : JJ p l e R s m args below meth c n Wd Q pc lv (.int y :: .int x :: rest) w cells slots := by
  intro H locs ls hl hw
  exact lv_ior C.1 C.2.1 d (kk H locs ls hl hw)
theorem jr_ixor (C : CC p s m args meth c y cc n r) {x y : Int32} (d : decode cc pc = .ok (.ixor, 1)) (kk : JJ p l e R s m args below meth c n Wd Q (pc + 1) lv (.int (x ^^^ y) :: rest) w cells slots) : JJ p l e R s m args below meth c n Wd Q pc lv (.int y :: .int x :: rest) w cells slots := by
  intro H locs ls hl hw
  exact lv_ixor C.1 C.2.1 d (kk H locs ls hl hw)
theorem jr_ladd (C : CC p s m args meth c y cc n r) {x y : Int64} (d : decode cc pc = .ok (.ladd, 1)) (kk : JJ p l e R s m args below meth c n Wd Q (pc + 1) lv (.long (x + y) :: rest) w cells slots) : JJ p l e R s m args below meth c n Wd Q pc lv (.long y :: .long x :: rest) w cells slots := by
  intro H locs ls hl hw
  exact lv_ladd C.1 C.2.1 d (kk H locs ls hl hw)
theorem jr_lsub (C : CC p s m args meth c y cc n r) {x y : Int64} (d : decode cc pc = .ok (.lsub, 1)) (kk : JJ p l e R s m args below meth c n Wd Q (pc + 1) lv (.long (x - y) :: rest) w cells slots) : JJ p l e R s m args below meth c n Wd Q pc lv (.long y :: .long x :: rest) w cells slots := by
  intro H locs ls hl hw
  exact lv_lsub C.1 C.2.1 d (kk H locs ls hl hw)
theorem jr_lmul (C : CC p s m args meth c y cc n r) {x y : Int64} (d : decode cc pc = .ok (.lmul, 1)) (kk : JJ p l e R s m args below meth c n Wd Q (pc + 1) lv (.long (x * y) :: rest) w cells slots) : JJ p l e R s m args below meth c n Wd Q pc lv (.long y :: .long x :: rest) w cells slots := by
  intro H locs ls hl hw
  exact lv_lmul C.1 C.2.1 d (kk H locs ls hl hw)
theorem jr_land (C : CC p s m args meth c y cc n r) {x y : Int64} (d : decode cc pc = .ok (.land, 1)) (kk : JJ p l e R s m args below meth c n Wd Q (pc + 1) lv (.long (x &&& y) :: rest) w cells slots) : JJ p l e R s m args below meth c n Wd Q pc lv (.long y :: .long x :: rest) w cells slots := by
  intro H locs ls hl hw
  exact lv_land C.1 C.2.1 d (kk H locs ls hl hw)
theorem jr_lor (C : CC p s m args meth c y cc n r) {x y : Int64} (d : decode cc pc = .ok (.lor, 1)) (kk : JJ p l e R s m args below meth c n Wd Q (pc + 1) lv (.long (x ||| y) :: rest) w cells slots) : JJ p l e R s m args below meth c n Wd Q pc lv (.long y :: .long x :: rest) w cells slots := by
  intro H locs ls hl hw
  exact lv_lor C.1 C.2.1 d (kk H locs ls hl hw)
theorem jr_lxor (C : CC p s m args meth c y cc n r) {x y : Int64} (d : decode cc pc = .ok (.lxor, 1)) (kk : JJ p l e R s m args below meth c n Wd Q (pc + 1) lv (.long (x ^^^ y) :: rest) w cells slots) : JJ p l e R s m args below meth c n Wd Q pc lv (.long y :: .long x :: rest) w cells slots := by
  intro H locs ls hl hw
  exact lv_lxor C.1 C.2.1 d (kk H locs ls hl hw)
theorem jr_ishl (C : CC p s m args meth c y cc n r) {x y : Int32} (d : decode cc pc = .ok (.ishl, 1)) (kk : JJ p l e R s m args below meth c n Wd Q (pc + 1) lv (.int (x <<< (y &&& 31)) :: rest) w cells slots) : JJ p l e R s m args below meth c n Wd Q pc lv (.int y :: .int x :: rest) w cells slots := by
  intro H locs ls hl hw
  exact lv_ishl C.1 C.2.1 d (kk H locs ls hl hw)
theorem jr_ishr (C : CC p s m args meth c y cc n r) {x y : Int32} (d : decode cc pc = .ok (.ishr, 1)) (kk : JJ p l e R s m args below meth c n Wd Q (pc + 1) lv (.int (x >>> (y &&& 31)) :: rest) w cells slots) : JJ p l e R s m args below meth c n Wd Q pc lv (.int y :: .int x :: rest) w cells slots := by
  intro H locs ls hl hw
  exact lv_ishr C.1 C.2.1 d (kk H locs ls hl hw)
theorem jr_idiv (C : CC p s m args meth c y cc n r) {x y : Int32} (d : decode cc pc = .ok (.idiv, 1)) (h0 : ¬ y = 0) (kk : JJ p l e R s m args below meth c n Wd Q (pc + 1) lv (.int (x / y) :: rest) w cells slots) : JJ p l e R s m args below meth c n Wd Q pc lv (.int y :: .int x :: rest) w cells slots := by
  intro H locs ls hl hw
  exact lv_idiv C.1 C.2.1 d h0 (kk H locs ls hl hw)
theorem jr_irem (C : CC p s m args meth c y cc n r) {x y : Int32} (d : decode cc pc = .ok (.irem, 1)) (h0 : ¬ y = 0) (kk : JJ p l e R s m args below meth c n Wd Q (pc + 1) lv (.int (x - x / y * y) :: rest) w cells slots) : JJ p l e R s m args below meth c n Wd Q pc lv (.int y :: .int x :: rest) w cells slots := by
  intro H locs ls hl hw
  exact lv_irem C.1 C.2.1 d h0 (kk H locs ls hl hw)
theorem jr_ldiv (C : CC p s m args meth c y cc n r) {x y : Int64} (d : decode cc pc = .ok (.ldiv, 1)) (h0 : ¬ y = 0) (kk : JJ p l e R s m args below meth c n Wd Q (pc + 1) lv (.long (x / y) :: rest) w cells slots) : JJ p l e R s m args below meth c n Wd Q pc lv (.long y :: .long x :: rest) w cells slots := by
  intro H locs ls hl hw
  exact lv_ldiv C.1 C.2.1 d h0 (kk H locs ls hl hw)
theorem jr_lrem (C : CC p s m args meth c y cc n r) {x y : Int64} (d : decode cc pc = .ok (.lrem, 1)) (h0 : ¬ y = 0) (kk : JJ p l e R s m args below meth c n Wd Q (pc + 1) lv (.long (x - x / y * y) :: rest) w cells slots) : JJ p l e R s m args below meth c n Wd Q pc lv (.long y :: .long x :: rest) w cells slots := by
  intro H locs ls hl hw
  exact lv_lrem C.1 C.2.1 d h0 (kk H locs ls hl hw)
theorem jr_ineg (C : CC p s m args meth c y cc n r) {x : Int32} (d : decode cc pc = .ok (.ineg, 1)) (kk : JJ p l e R s m args below meth c n Wd Q (pc + 1) lv (.int (-x) :: rest) w cells slots) : JJ p l e R s m args below meth c n Wd Q pc lv (.int x :: rest) w cells slots := by
  intro H locs ls hl hw
  exact lv_ineg C.1 C.2.1 d (kk H locs ls hl hw)
theorem jr_lneg (C : CC p s m args meth c y cc n r) {x : Int64} (d : decode cc pc = .ok (.lneg, 1)) (kk : JJ p l e R s m args below meth c n Wd Q (pc + 1) lv (.long (-x) :: rest) w cells slots) : JJ p l e R s m args below meth c n Wd Q pc lv (.long x :: rest) w cells slots := by
  intro H locs ls hl hw
  exact lv_lneg C.1 C.2.1 d (kk H locs ls hl hw)
theorem jr_i2l (C : CC p s m args meth c y cc n r) {x : Int32} (d : decode cc pc = .ok (.i2l, 1)) (kk : JJ p l e R s m args below meth c n Wd Q (pc + 1) lv (.long (x.toInt64) :: rest) w cells slots) : JJ p l e R s m args below meth c n Wd Q pc lv (.int x :: rest) w cells slots := by
  intro H locs ls hl hw
  exact lv_i2l C.1 C.2.1 d rfl (kk H locs ls hl hw)
theorem jr_l2i (C : CC p s m args meth c y cc n r) {x : Int64} (d : decode cc pc = .ok (.l2i, 1)) (kk : JJ p l e R s m args below meth c n Wd Q (pc + 1) lv (.int (x.toInt32) :: rest) w cells slots) : JJ p l e R s m args below meth c n Wd Q pc lv (.long x :: rest) w cells slots := by
  intro H locs ls hl hw
  exact lv_l2i C.1 C.2.1 d rfl (kk H locs ls hl hw)
theorem jr_i2b (C : CC p s m args meth c y cc n r) {x : Int32} (d : decode cc pc = .ok (.i2b, 1)) (kk : JJ p l e R s m args below meth c n Wd Q (pc + 1) lv (.int (x.toInt8.toInt32) :: rest) w cells slots) : JJ p l e R s m args below meth c n Wd Q pc lv (.int x :: rest) w cells slots := by
  intro H locs ls hl hw
  exact lv_i2b C.1 C.2.1 d rfl (kk H locs ls hl hw)
theorem jr_i2s (C : CC p s m args meth c y cc n r) {x : Int32} (d : decode cc pc = .ok (.i2s, 1)) (kk : JJ p l e R s m args below meth c n Wd Q (pc + 1) lv (.int (x.toInt16.toInt32) :: rest) w cells slots) : JJ p l e R s m args below meth c n Wd Q pc lv (.int x :: rest) w cells slots := by
  intro H locs ls hl hw
  exact lv_i2s C.1 C.2.1 d rfl (kk H locs ls hl hw)
theorem jr_i2c (C : CC p s m args meth c y cc n r) {x : Int32} (d : decode cc pc = .ok (.i2c, 1)) (kk : JJ p l e R s m args below meth c n Wd Q (pc + 1) lv (.int ((x.toUInt32 % 65536).toInt32) :: rest) w cells slots) : JJ p l e R s m args below meth c n Wd Q pc lv (.int x :: rest) w cells slots := by
  intro H locs ls hl hw
  exact lv_i2c C.1 C.2.1 d rfl (kk H locs ls hl hw)
theorem jr_iushr (C : CC p s m args meth c y cc n r) {x : Int32} {y : Int32} (d : decode cc pc = .ok (.iushr, 1)) (kk : JJ p l e R s m args below meth c n Wd Q (pc + 1) lv (.int ((x.toUInt32 >>> (y.toUInt32 &&& Int32.toUInt32 31)).toInt32) :: rest) w cells slots) : JJ p l e R s m args below meth c n Wd Q pc lv (.int y :: .int x :: rest) w cells slots := by
  intro H locs ls hl hw
  exact lv_iushr C.1 C.2.1 d rfl (kk H locs ls hl hw)
theorem jr_lushr (C : CC p s m args meth c y cc n r) {x : Int64} {y : Int32} (d : decode cc pc = .ok (.lushr, 1)) (kk : JJ p l e R s m args below meth c n Wd Q (pc + 1) lv (.long ((x.toUInt64 >>> (y.toInt64.toUInt64 &&& Int64.toUInt64 63)).toInt64) :: rest) w cells slots) : JJ p l e R s m args below meth c n Wd Q pc lv (.int y :: .long x :: rest) w cells slots := by
  intro H locs ls hl hw
  exact lv_lushr C.1 C.2.1 d rfl (kk H locs ls hl hw)
theorem jr_lshl (C : CC p s m args meth c y cc n r) {x : Int64} {y : Int32} (d : decode cc pc = .ok (.lshl, 1)) (kk : JJ p l e R s m args below meth c n Wd Q (pc + 1) lv (.long (x <<< (y.toInt64 &&& 63)) :: rest) w cells slots) : JJ p l e R s m args below meth c n Wd Q pc lv (.int y :: .long x :: rest) w cells slots := by
  intro H locs ls hl hw
  exact lv_lshl C.1 C.2.1 d rfl (kk H locs ls hl hw)
theorem jr_lshr (C : CC p s m args meth c y cc n r) {x : Int64} {y : Int32} (d : decode cc pc = .ok (.lshr, 1)) (kk : JJ p l e R s m args below meth c n Wd Q (pc + 1) lv (.long (x >>> (y.toInt64 &&& 63)) :: rest) w cells slots) : JJ p l e R s m args below meth c n Wd Q pc lv (.int y :: .long x :: rest) w cells slots := by
  intro H locs ls hl hw
  exact lv_lshr C.1 C.2.1 d rfl (kk H locs ls hl hw)
theorem jr_dup (C : CC p s m args meth c y cc n r) {va : Value} (d : decode cc pc = .ok (.dup, 1)) (hva : va.category = 1) (kk : JJ p l e R s m args below meth c n Wd Q (pc + 1) lv (va :: va :: rest) w cells slots) : JJ p l e R s m args below meth c n Wd Q pc lv (va :: rest) w cells slots := by
  intro H locs ls hl hw
  exact lv_dup C.1 C.2.1 d hva (kk H locs ls hl hw)
theorem jr_dup2 (C : CC p s m args meth c y cc n r) {va : Value} (d : decode cc pc = .ok (.dup2, 1)) (hva : va.category = 2) (kk : JJ p l e R s m args below meth c n Wd Q (pc + 1) lv (va :: va :: rest) w cells slots) : JJ p l e R s m args below meth c n Wd Q pc lv (va :: rest) w cells slots := by
  intro H locs ls hl hw
  exact lv_dup2_2 C.1 C.2.1 d hva (kk H locs ls hl hw)
theorem jr_pop (C : CC p s m args meth c y cc n r) {va : Value} (d : decode cc pc = .ok (.pop, 1)) (hva : va.category = 1) (kk : JJ p l e R s m args below meth c n Wd Q (pc + 1) lv rest w cells slots) : JJ p l e R s m args below meth c n Wd Q pc lv (va :: rest) w cells slots := by
  intro H locs ls hl hw
  exact lv_pop C.1 C.2.1 d hva (kk H locs ls hl hw)
theorem jr_if_eq (C : CC p s m args meth c y cc n r) {x : Int32} {off : Int} {tgt : Nat} (d : decode cc pc = .ok (.ifCond .eq off, 3)) (ht : (pc : Int) + off = (tgt : Int)) (kt : x = 0 → JJ p l e R s m args below meth c n Wd Q tgt lv rest w cells slots) (kf : ¬ x = 0 → JJ p l e R s m args below meth c n Wd Q (pc + 3) lv rest w cells slots) : JJ p l e R s m args below meth c n Wd Q pc lv (.int x :: rest) w cells slots := by
  intro H locs ls hl hw
  exact lv_if_eq C.1 C.2.1 d ht (fun h => kt h H locs ls hl hw) (fun h => kf h H locs ls hl hw)
theorem jr_icmp_eq (C : CC p s m args meth c y cc n r) {x y : Int32} {off : Int} {tgt : Nat} (d : decode cc pc = .ok (.if_icmp .eq off, 3)) (ht : (pc : Int) + off = (tgt : Int)) (kt : x = y → JJ p l e R s m args below meth c n Wd Q tgt lv rest w cells slots) (kf : ¬ x = y → JJ p l e R s m args below meth c n Wd Q (pc + 3) lv rest w cells slots) : JJ p l e R s m args below meth c n Wd Q pc lv (.int y :: .int x :: rest) w cells slots := by
  intro H locs ls hl hw
  exact lv_icmp_eq C.1 C.2.1 d ht (fun h => kt h H locs ls hl hw) (fun h => kf h H locs ls hl hw)
theorem jr_if_ne (C : CC p s m args meth c y cc n r) {x : Int32} {off : Int} {tgt : Nat} (d : decode cc pc = .ok (.ifCond .ne off, 3)) (ht : (pc : Int) + off = (tgt : Int)) (kt : ¬ x = 0 → JJ p l e R s m args below meth c n Wd Q tgt lv rest w cells slots) (kf : x = 0 → JJ p l e R s m args below meth c n Wd Q (pc + 3) lv rest w cells slots) : JJ p l e R s m args below meth c n Wd Q pc lv (.int x :: rest) w cells slots := by
  intro H locs ls hl hw
  exact lv_if_ne C.1 C.2.1 d ht (fun h => kt h H locs ls hl hw) (fun h => kf h H locs ls hl hw)
theorem jr_icmp_ne (C : CC p s m args meth c y cc n r) {x y : Int32} {off : Int} {tgt : Nat} (d : decode cc pc = .ok (.if_icmp .ne off, 3)) (ht : (pc : Int) + off = (tgt : Int)) (kt : ¬ x = y → JJ p l e R s m args below meth c n Wd Q tgt lv rest w cells slots) (kf : x = y → JJ p l e R s m args below meth c n Wd Q (pc + 3) lv rest w cells slots) : JJ p l e R s m args below meth c n Wd Q pc lv (.int y :: .int x :: rest) w cells slots := by
  intro H locs ls hl hw
  exact lv_icmp_ne C.1 C.2.1 d ht (fun h => kt h H locs ls hl hw) (fun h => kf h H locs ls hl hw)
theorem jr_if_lt (C : CC p s m args meth c y cc n r) {x : Int32} {off : Int} {tgt : Nat} (d : decode cc pc = .ok (.ifCond .lt off, 3)) (ht : (pc : Int) + off = (tgt : Int)) (kt : x < 0 → JJ p l e R s m args below meth c n Wd Q tgt lv rest w cells slots) (kf : ¬ x < 0 → JJ p l e R s m args below meth c n Wd Q (pc + 3) lv rest w cells slots) : JJ p l e R s m args below meth c n Wd Q pc lv (.int x :: rest) w cells slots := by
  intro H locs ls hl hw
  exact lv_if_lt C.1 C.2.1 d ht (fun h => kt h H locs ls hl hw) (fun h => kf h H locs ls hl hw)
theorem jr_icmp_lt (C : CC p s m args meth c y cc n r) {x y : Int32} {off : Int} {tgt : Nat} (d : decode cc pc = .ok (.if_icmp .lt off, 3)) (ht : (pc : Int) + off = (tgt : Int)) (kt : x < y → JJ p l e R s m args below meth c n Wd Q tgt lv rest w cells slots) (kf : ¬ x < y → JJ p l e R s m args below meth c n Wd Q (pc + 3) lv rest w cells slots) : JJ p l e R s m args below meth c n Wd Q pc lv (.int y :: .int x :: rest) w cells slots := by
  intro H locs ls hl hw
  exact lv_icmp_lt C.1 C.2.1 d ht (fun h => kt h H locs ls hl hw) (fun h => kf h H locs ls hl hw)
theorem jr_if_ge (C : CC p s m args meth c y cc n r) {x : Int32} {off : Int} {tgt : Nat} (d : decode cc pc = .ok (.ifCond .ge off, 3)) (ht : (pc : Int) + off = (tgt : Int)) (kt : 0 ≤ x → JJ p l e R s m args below meth c n Wd Q tgt lv rest w cells slots) (kf : ¬ 0 ≤ x → JJ p l e R s m args below meth c n Wd Q (pc + 3) lv rest w cells slots) : JJ p l e R s m args below meth c n Wd Q pc lv (.int x :: rest) w cells slots := by
  intro H locs ls hl hw
  exact lv_if_ge C.1 C.2.1 d ht (fun h => kt h H locs ls hl hw) (fun h => kf h H locs ls hl hw)
theorem jr_icmp_ge (C : CC p s m args meth c y cc n r) {x y : Int32} {off : Int} {tgt : Nat} (d : decode cc pc = .ok (.if_icmp .ge off, 3)) (ht : (pc : Int) + off = (tgt : Int)) (kt : y ≤ x → JJ p l e R s m args below meth c n Wd Q tgt lv rest w cells slots) (kf : ¬ y ≤ x → JJ p l e R s m args below meth c n Wd Q (pc + 3) lv rest w cells slots) : JJ p l e R s m args below meth c n Wd Q pc lv (.int y :: .int x :: rest) w cells slots := by
  intro H locs ls hl hw
  exact lv_icmp_ge C.1 C.2.1 d ht (fun h => kt h H locs ls hl hw) (fun h => kf h H locs ls hl hw)
theorem jr_if_gt (C : CC p s m args meth c y cc n r) {x : Int32} {off : Int} {tgt : Nat} (d : decode cc pc = .ok (.ifCond .gt off, 3)) (ht : (pc : Int) + off = (tgt : Int)) (kt : 0 < x → JJ p l e R s m args below meth c n Wd Q tgt lv rest w cells slots) (kf : ¬ 0 < x → JJ p l e R s m args below meth c n Wd Q (pc + 3) lv rest w cells slots) : JJ p l e R s m args below meth c n Wd Q pc lv (.int x :: rest) w cells slots := by
  intro H locs ls hl hw
  exact lv_if_gt C.1 C.2.1 d ht (fun h => kt h H locs ls hl hw) (fun h => kf h H locs ls hl hw)
theorem jr_icmp_gt (C : CC p s m args meth c y cc n r) {x y : Int32} {off : Int} {tgt : Nat} (d : decode cc pc = .ok (.if_icmp .gt off, 3)) (ht : (pc : Int) + off = (tgt : Int)) (kt : y < x → JJ p l e R s m args below meth c n Wd Q tgt lv rest w cells slots) (kf : ¬ y < x → JJ p l e R s m args below meth c n Wd Q (pc + 3) lv rest w cells slots) : JJ p l e R s m args below meth c n Wd Q pc lv (.int y :: .int x :: rest) w cells slots := by
  intro H locs ls hl hw
  exact lv_icmp_gt C.1 C.2.1 d ht (fun h => kt h H locs ls hl hw) (fun h => kf h H locs ls hl hw)
theorem jr_if_le (C : CC p s m args meth c y cc n r) {x : Int32} {off : Int} {tgt : Nat} (d : decode cc pc = .ok (.ifCond .le off, 3)) (ht : (pc : Int) + off = (tgt : Int)) (kt : x ≤ 0 → JJ p l e R s m args below meth c n Wd Q tgt lv rest w cells slots) (kf : ¬ x ≤ 0 → JJ p l e R s m args below meth c n Wd Q (pc + 3) lv rest w cells slots) : JJ p l e R s m args below meth c n Wd Q pc lv (.int x :: rest) w cells slots := by
  intro H locs ls hl hw
  exact lv_if_le C.1 C.2.1 d ht (fun h => kt h H locs ls hl hw) (fun h => kf h H locs ls hl hw)
theorem jr_icmp_le (C : CC p s m args meth c y cc n r) {x y : Int32} {off : Int} {tgt : Nat} (d : decode cc pc = .ok (.if_icmp .le off, 3)) (ht : (pc : Int) + off = (tgt : Int)) (kt : x ≤ y → JJ p l e R s m args below meth c n Wd Q tgt lv rest w cells slots) (kf : ¬ x ≤ y → JJ p l e R s m args below meth c n Wd Q (pc + 3) lv rest w cells slots) : JJ p l e R s m args below meth c n Wd Q pc lv (.int y :: .int x :: rest) w cells slots := by
  intro H locs ls hl hw
  exact lv_icmp_le C.1 C.2.1 d ht (fun h => kt h H locs ls hl hw) (fun h => kf h H locs ls hl hw)
theorem jr_goto (C : CC p s m args meth c y cc n r) {off : Int} {tgt : Nat} (d : decode cc pc = .ok (.goto off, 3)) (ht : (pc : Int) + off = (tgt : Int)) (kk : JJ p l e R s m args below meth c n Wd Q tgt lv rest w cells slots) : JJ p l e R s m args below meth c n Wd Q pc lv rest w cells slots := by
  intro H locs ls hl hw
  exact lv_goto C.1 C.2.1 d ht (kk H locs ls hl hw)
theorem lc_lt (x y : Int64) : lg_cmp x y < 0 ↔ x < y := lg_cmp_lt x y
theorem lc_eq (x y : Int64) : lg_cmp x y = 0 ↔ x = y := lg_cmp_eq x y
theorem lc_gt (x y : Int64) : 0 < lg_cmp x y ↔ y < x := lg_cmp_gt x y
theorem lc_ge (x y : Int64) : 0 ≤ lg_cmp x y ↔ y ≤ x := lg_cmp_ge x y
theorem lc_le (x y : Int64) : lg_cmp x y ≤ 0 ↔ x ≤ y := lg_cmp_le x y
theorem lc_ne (x y : Int64) : ¬ lg_cmp x y = 0 ↔ ¬ x = y := not_congr (lc_eq x y)
theorem jr_lcmp_eq (C : CC p s m args meth c y cc n r) {x y : Int64} {off : Int} {tgt : Nat} (d0 : decode cc pc = .ok (.lcmp, 1)) (d : decode cc (pc + 1) = .ok (.ifCond .eq off, 3)) (ht : ((pc + 1 : Nat) : Int) + off = (tgt : Int)) (kt : x = y → JJ p l e R s m args below meth c n Wd Q tgt lv rest w cells slots) (kf : ¬ x = y → JJ p l e R s m args below meth c n Wd Q (pc + 4) lv rest w cells slots) : JJ p l e R s m args below meth c n Wd Q pc lv (.long y :: .long x :: rest) w cells slots := by
  intro H locs ls hl hw
  refine W.lcmp C.1 C.2.1 d0 ?_
  exact lv_if_eq C.1 C.2.1 d ht (fun h => kt ((lc_eq x y).mp h) H locs ls hl hw) (fun h => kf ((not_congr (lc_eq x y)).mp h) H locs ls hl hw)
theorem jr_lcmp_ne (C : CC p s m args meth c y cc n r) {x y : Int64} {off : Int} {tgt : Nat} (d0 : decode cc pc = .ok (.lcmp, 1)) (d : decode cc (pc + 1) = .ok (.ifCond .ne off, 3)) (ht : ((pc + 1 : Nat) : Int) + off = (tgt : Int)) (kt : ¬ x = y → JJ p l e R s m args below meth c n Wd Q tgt lv rest w cells slots) (kf : x = y → JJ p l e R s m args below meth c n Wd Q (pc + 4) lv rest w cells slots) : JJ p l e R s m args below meth c n Wd Q pc lv (.long y :: .long x :: rest) w cells slots := by
  intro H locs ls hl hw
  refine W.lcmp C.1 C.2.1 d0 ?_
  exact lv_if_ne C.1 C.2.1 d ht (fun h => kt ((lc_ne x y).mp h) H locs ls hl hw) (fun h => kf ((lc_eq x y).mp h) H locs ls hl hw)
theorem jr_lcmp_lt (C : CC p s m args meth c y cc n r) {x y : Int64} {off : Int} {tgt : Nat} (d0 : decode cc pc = .ok (.lcmp, 1)) (d : decode cc (pc + 1) = .ok (.ifCond .lt off, 3)) (ht : ((pc + 1 : Nat) : Int) + off = (tgt : Int)) (kt : x < y → JJ p l e R s m args below meth c n Wd Q tgt lv rest w cells slots) (kf : ¬ x < y → JJ p l e R s m args below meth c n Wd Q (pc + 4) lv rest w cells slots) : JJ p l e R s m args below meth c n Wd Q pc lv (.long y :: .long x :: rest) w cells slots := by
  intro H locs ls hl hw
  refine W.lcmp C.1 C.2.1 d0 ?_
  exact lv_if_lt C.1 C.2.1 d ht (fun h => kt ((lc_lt x y).mp h) H locs ls hl hw) (fun h => kf ((not_congr (lc_lt x y)).mp h) H locs ls hl hw)
theorem jr_lcmp_ge (C : CC p s m args meth c y cc n r) {x y : Int64} {off : Int} {tgt : Nat} (d0 : decode cc pc = .ok (.lcmp, 1)) (d : decode cc (pc + 1) = .ok (.ifCond .ge off, 3)) (ht : ((pc + 1 : Nat) : Int) + off = (tgt : Int)) (kt : y ≤ x → JJ p l e R s m args below meth c n Wd Q tgt lv rest w cells slots) (kf : ¬ y ≤ x → JJ p l e R s m args below meth c n Wd Q (pc + 4) lv rest w cells slots) : JJ p l e R s m args below meth c n Wd Q pc lv (.long y :: .long x :: rest) w cells slots := by
  intro H locs ls hl hw
  refine W.lcmp C.1 C.2.1 d0 ?_
  exact lv_if_ge C.1 C.2.1 d ht (fun h => kt ((lc_ge x y).mp h) H locs ls hl hw) (fun h => kf ((not_congr (lc_ge x y)).mp h) H locs ls hl hw)
theorem jr_lcmp_gt (C : CC p s m args meth c y cc n r) {x y : Int64} {off : Int} {tgt : Nat} (d0 : decode cc pc = .ok (.lcmp, 1)) (d : decode cc (pc + 1) = .ok (.ifCond .gt off, 3)) (ht : ((pc + 1 : Nat) : Int) + off = (tgt : Int)) (kt : y < x → JJ p l e R s m args below meth c n Wd Q tgt lv rest w cells slots) (kf : ¬ y < x → JJ p l e R s m args below meth c n Wd Q (pc + 4) lv rest w cells slots) : JJ p l e R s m args below meth c n Wd Q pc lv (.long y :: .long x :: rest) w cells slots := by
  intro H locs ls hl hw
  refine W.lcmp C.1 C.2.1 d0 ?_
  exact lv_if_gt C.1 C.2.1 d ht (fun h => kt ((lc_gt x y).mp h) H locs ls hl hw) (fun h => kf ((not_congr (lc_gt x y)).mp h) H locs ls hl hw)
theorem jr_lcmp_le (C : CC p s m args meth c y cc n r) {x y : Int64} {off : Int} {tgt : Nat} (d0 : decode cc pc = .ok (.lcmp, 1)) (d : decode cc (pc + 1) = .ok (.ifCond .le off, 3)) (ht : ((pc + 1 : Nat) : Int) + off = (tgt : Int)) (kt : x ≤ y → JJ p l e R s m args below meth c n Wd Q tgt lv rest w cells slots) (kf : ¬ x ≤ y → JJ p l e R s m args below meth c n Wd Q (pc + 4) lv rest w cells slots) : JJ p l e R s m args below meth c n Wd Q pc lv (.long y :: .long x :: rest) w cells slots := by
  intro H locs ls hl hw
  refine W.lcmp C.1 C.2.1 d0 ?_
  exact lv_if_le C.1 C.2.1 d ht (fun h => kt ((lc_le x y).mp h) H locs ls hl hw) (fun h => kf ((not_congr (lc_le x y)).mp h) H locs ls hl hw)
theorem jr_sub (ks : List Nat) (hk : lv_pick lv ks = lv') (kk : JJ p l e R s m args below meth c n Wd Q pc lv' rest w cells slots) : JJ p l e R s m args below meth c n Wd Q pc lv rest w cells slots := fun H locs ls hl hw => kk H locs ls (lv_sub hl ks hk) hw
theorem jr_lookup (C : CC p s m args meth c y cc n r) {dflt : Int} {ps : Array (Int × Int)} {len : Nat} {x : Int32} {off : Int} {tgt : Nat} (d : decode cc pc = .ok (.lookupswitch dflt ps, len)) (hp : (ps.toList.zip (ps.toList.drop 1)).all (fun (a, next) => a.1 < next.1) = true) (ho : Op.lookupswitch.offset ps.toList dflt x.toInt = off) (ht : (pc : Int) + off = (tgt : Int)) (kk : JJ p l e R s m args below meth c n Wd Q tgt lv rest w cells slots) : JJ p l e R s m args below meth c n Wd Q pc lv (.int x :: rest) w cells slots := fun H locs ls hl hw => lv_lookup C.1 C.2.1 d hp ho ht (kk H locs ls hl hw)
theorem jr_tableOut (C : CC p s m args meth c y cc n r) {dflt lo hi : Int} {offs : Array Int} {len : Nat} {x : Int32} {tgt : Nat} (d : decode cc pc = .ok (.tableswitch dflt lo hi offs, len)) (h : x.toInt < lo ∨ hi < x.toInt) (ht : (pc : Int) + dflt = (tgt : Int)) (kk : JJ p l e R s m args below meth c n Wd Q tgt lv rest w cells slots) : JJ p l e R s m args below meth c n Wd Q pc lv (.int x :: rest) w cells slots := fun H locs ls hl hw => lv_tableOut C.1 C.2.1 d h ht (kk H locs ls hl hw)
theorem jr_tableIn (C : CC p s m args meth c y cc n r) {dflt lo hi : Int} {offs : Array Int} {len : Nat} {x : Int32} {off : Int} {tgt : Nat} (d : decode cc pc = .ok (.tableswitch dflt lo hi offs, len)) (h1 : ¬ x.toInt < lo) (h2 : ¬ hi < x.toInt) (ho : offs[(x.toInt - lo).toNat]? = some off) (ht : (pc : Int) + off = (tgt : Int)) (kk : JJ p l e R s m args below meth c n Wd Q tgt lv rest w cells slots) : JJ p l e R s m args below meth c n Wd Q pc lv (.int x :: rest) w cells slots := fun H locs ls hl hw => lv_tableIn C.1 C.2.1 d h1 h2 ho ht (kk H locs ls hl hw)
theorem sw_ne {x k : Int32} {a : Int} (h : ¬ x = k) (hk : k.toInt = a) : x.toInt ≠ a := fun q => h (Int32.toInt_inj.mp (by rw [hk]; exact q))
def mxI (x y : Int32) : Int32 := if x < y then y else x
def mnI (x y : Int32) : Int32 := if y < x then y else x
def mxJ (x y : Int64) : Int64 := if y < x then x else y
def mnJ (x y : Int64) : Int64 := if y < x then y else x
theorem jr_mxI (C : CC p s m args meth c y cc n r) {i : Nat} {x y2 : Int32} (hk : Cond.methodLink y.cls i yJ9_max_7cf53 ∈ lw_tbl) (h1 : 1 ≤ R.frames) (h2 : (rest.map fun v => v.category).sum + 13 ≤ R.locals) (h3 : cells ≤ R.cells) (h4 : slots ≤ R.slots) (d : decode cc pc = .ok (.invokestatic i, 3)) (kk : JJ p l e R s m args below meth c n Wd Q (pc + 3) lv (.int (mxI x y2) :: rest) w cells slots) : JJ p l e R s m args below meth c n Wd Q pc lv (.int y2 :: .int x :: rest) w cells slots := by
  intro H locs ls hl hw
  exact va_mmax C.1 C.2.1 (by rw [C.2.2.1]; exact hl.1.symm) C.2.2.2.2.2.1 (C.2.2.2.2.2.2.2 _ hk rfl) (C.2.2.2.2.2.2.2 _ kw_287 rfl) (C.2.2.2.2.2.2.2 _ kw_77 rfl) (C.2.2.2.2.2.2.2 _ kw_288 rfl) h1 h2 h3 h4 d (kk H locs ls hl hw)
theorem jr_mnI (C : CC p s m args meth c y cc n r) {i : Nat} {x y2 : Int32} (hk : Cond.methodLink y.cls i yJ9_min_7cf53 ∈ lw_tbl) (h1 : 1 ≤ R.frames) (h2 : (rest.map fun v => v.category).sum + 13 ≤ R.locals) (h3 : cells ≤ R.cells) (h4 : slots ≤ R.slots) (d : decode cc pc = .ok (.invokestatic i, 3)) (kk : JJ p l e R s m args below meth c n Wd Q (pc + 3) lv (.int (mnI x y2) :: rest) w cells slots) : JJ p l e R s m args below meth c n Wd Q pc lv (.int y2 :: .int x :: rest) w cells slots := by
  intro H locs ls hl hw
  exact va_mmin C.1 C.2.1 (by rw [C.2.2.1]; exact hl.1.symm) C.2.2.2.2.2.1 (C.2.2.2.2.2.2.2 _ hk rfl) (C.2.2.2.2.2.2.2 _ kw_358 rfl) (C.2.2.2.2.2.2.2 _ kw_77 rfl) (C.2.2.2.2.2.2.2 _ kw_359 rfl) h1 h2 h3 h4 d (kk H locs ls hl hw)
theorem jr_mxJ (C : CC p s m args meth c y cc n r) {i : Nat} {x y2 : Int64} (hk : Cond.methodLink y.cls i yJ9_max_f86c9 ∈ lw_tbl) (h1 : 1 ≤ R.frames) (h2 : (rest.map fun v => v.category).sum + 15 ≤ R.locals) (h3 : cells ≤ R.cells) (h4 : slots ≤ R.slots) (d : decode cc pc = .ok (.invokestatic i, 3)) (kk : JJ p l e R s m args below meth c n Wd Q (pc + 3) lv (.long (mxJ x y2) :: rest) w cells slots) : JJ p l e R s m args below meth c n Wd Q pc lv (.long y2 :: .long x :: rest) w cells slots := by
  intro H locs ls hl hw
  exact va_mmax_long C.1 C.2.1 (by rw [C.2.2.1]; exact hl.1.symm) C.2.2.2.2.2.1 (C.2.2.2.2.2.2.2 _ hk rfl) (C.2.2.2.2.2.2.2 _ kw_447 rfl) (C.2.2.2.2.2.2.2 _ kw_77 rfl) (C.2.2.2.2.2.2.2 _ kw_448 rfl) h1 h2 h3 h4 d (kk H locs ls hl hw)
theorem jr_mnJ (C : CC p s m args meth c y cc n r) {i : Nat} {x y2 : Int64} (hk : Cond.methodLink y.cls i yJ9_min_f86c9 ∈ lw_tbl) (h1 : 1 ≤ R.frames) (h2 : (rest.map fun v => v.category).sum + 15 ≤ R.locals) (h3 : cells ≤ R.cells) (h4 : slots ≤ R.slots) (d : decode cc pc = .ok (.invokestatic i, 3)) (kk : JJ p l e R s m args below meth c n Wd Q (pc + 3) lv (.long (mnJ x y2) :: rest) w cells slots) : JJ p l e R s m args below meth c n Wd Q pc lv (.long y2 :: .long x :: rest) w cells slots := by
  intro H locs ls hl hw
  exact va_mmin_long C.1 C.2.1 (by rw [C.2.2.1]; exact hl.1.symm) C.2.2.2.2.2.1 (C.2.2.2.2.2.2.2 _ hk rfl) (C.2.2.2.2.2.2.2 _ kw_444 rfl) (C.2.2.2.2.2.2.2 _ kw_77 rfl) (C.2.2.2.2.2.2.2 _ kw_445 rfl) h1 h2 h3 h4 d (kk H locs ls hl hw)
/-! pure methods: they change nothing -/
def pu_Q (v : Value) : Array Value → State → Outcome → State → Prop := fun _ st o t => o = .returned (some v) ∧ t.heap = st.heap
def pu_P (As : List Value) : Array Value → State → Prop := fun a _ => a = As.toArray
abbrev pu_r (k : Nat) : Room := { frames := k, cells := 0, slots := 0, locals := 48 * k }
abbrev pu (l : Launch) (y : MethodName) (cc : ByteArray) (n : Nat) (r : Option FieldType) (k : Nat) (As : List Value) (v : Value) : Prop := Met l y (.code y cc n r :: gw_G) (pu_r k) (pu_P As) (pu_Q v) 0 0 (fun _ => False)
def pw (s : State) : Unit → Heap → List Loc → Prop := fun _ H locs => H = s.heap ∧ locs = []
abbrev PJ (p : Program) (l : Launch) (e : Env) (s : State) (m : MethodId) (args : Array Value) (below : List Frame) (meth : Method) (c : Code) (n k : Nat) (v : Value) (pc : Nat) (lv : List (Nat × Value)) (st : List Value) : Prop := JJ p l e (pu_r k) s m args below meth c n (pw s) (MQ below (pu_Q v) args s 0 0 (fun _ => False)) pc lv st () 0 0
theorem pu_of {k : Nat} {As : List Value} {v : Value} (hy : plainName y.cls = true) (hn : (lg_sl As).length ≤ n) (hlv : lv_args 0 As = lv)
    (body : ∀ {p : Program} {e : Env} {s : State} {m : MethodId} {args : Array Value} {below : List Frame} {meth : Method} {c : Code}, CC p s m args meth c y cc n r → PJ p l e s m args below meth c n k v 0 lv []) : pu l y cc n r k As v := by
  refine Met.ofW (cc := cc) (maxL := n) (ret := r) hy rfl ?_
  intro p e s m args below meth c s₁ B hml hv
  have hts := atoms_spec (ws := (Cond.code y cc n r :: gw_G)) B.pre
  have hv' : args = As.toArray := hv
  subst hv'
  subst hlv
  rw [lg_entry_eq]
  exact body ⟨B.exec, B.bytes, hml, B.returns, B.notSynchronized, findClass_of_methodNamed B.named, (name_of_methodNamed B.named B.method).1, fun w hw hg => hts w (List.mem_cons_of_mem _ (gw_in hw hg))⟩ s.heap [] _ (lv_entry As hn) ⟨rfl, rfl⟩
theorem jp_lret {k : Nat} {v : Value} {x : Int64} (C : CC p s m args meth c y cc n (some .long)) (d : decode cc pc = .ok (.lreturn, 1)) (hv : v = .long x) : PJ p l e s m args below meth c n k v pc lv [.long x] := by
  intro H locs ls hl hw
  obtain ⟨rfl, rfl⟩ := hw
  subst hv
  exact W.lret C.1 C.2.1 C.2.2.2.1 (fun t ht hW => ⟨rfl, ht⟩) (fun q h => by cases h) d C.2.2.2.2.1
theorem jp_iret {k : Nat} {v : Value} {x : Int32} (C : CC p s m args meth c y cc n (some .int)) (d : decode cc pc = .ok (.ireturn, 1)) (hv : v = .int x) : PJ p l e s m args below meth c n k v pc lv [.int x] := by
  intro H locs ls hl hw
  obtain ⟨rfl, rfl⟩ := hw
  subst hv
  exact W.iret C.1 C.2.1 C.2.2.2.1 (fun t ht hW => ⟨rfl, ht⟩) (fun q h => by cases h) d C.2.2.2.2.1
theorem jp_zret {k : Nat} {v : Value} {x : Int32} (C : CC p s m args meth c y cc n (some .boolean)) (d : decode cc pc = .ok (.ireturn, 1)) (hn : narrow .boolean (.int x) = .int x) (hv : v = .int x) : PJ p l e s m args below meth c n k v pc lv [.int x] := by
  intro H locs ls hl hw
  obtain ⟨rfl, rfl⟩ := hw
  subst hv
  exact W.zret C.1 C.2.1 C.2.2.2.1 hn (fun t ht hW => ⟨rfl, ht⟩) (fun q h => by cases h) d C.2.2.2.2.1
/-- what a call of a method asks of the tables -/
def ok_s (y : MethodName) (cc : ByteArray) (n : Nat) (r : Option FieldType) (a : Nat) : Prop := Cond.code y cc n r ∈ lw_tbl ∧ Cond.static y ∈ lw_tbl ∧ Cond.initialized y.cls ∈ lw_tbl ∧ (y.cls ≠ "java/lang/invoke/MethodHandle" ∧ y.cls ≠ "java/lang/invoke/VarHandle" ∧ (parseMethodDescriptor y.desc).map (fun d => d.parameters.length) = some a)
theorem pu_call {T : List Cond} {R : Room} {own : String} {y2 : MethodName} {cc2 : ByteArray} {n2 k2 i a : Nat} {r2 : Option FieldType} {As : List Value} {v2 : Value} {H : Heap} {locs : List Loc} {ls : Array Slot} {st : List Value} (hx : p.tables.exec = Jvm.exec) (hb : c.code = cc) (hml : c.maxLocals = ls.size) (hown : s.vm.findClass own = some m.cls) (hts : ∀ w ∈ T, w.before args s = true) (hG : GoodIn T (.code y2 cc2 n2 r2 :: gw_G)) (hin : ∀ w ∈ lw_tbl, goodWord w = true → w.before args s = true)
    (hM : pu l y2 cc2 n2 r2 k2 As v2) (ho : ok_s y2 cc2 n2 r2 a) (hl : Cond.methodLink own i y2 ∈ lw_tbl) (ha : As.length = a) (hR : k2 + 1 ≤ R.frames ∧ 8 + (n2 + 11) + 48 * k2 ≤ R.locals) (hst : st = As.reverse ++ rest) (hW : (rest.map fun v => v.category).sum ≤ 8) (hc : cells ≤ R.cells ∧ slots ≤ R.slots) (d : decode cc pc = .ok (.invokestatic i, 3))
    (kk : W p l e R s m args below meth c H locs cells slots Q (F0 m (pc + 3) ls (v2 :: rest))) : W p l e R s m args below meth c H locs cells slots Q (F0 m pc ls st) := by
  subst hst
  have hr := W.runS (g := F0 m pc ls (As.reverse ++ rest)) (R := R) (H := H) (locs := locs) (cells := cells) (slots := slots) (e := e) (below := below) (meth := meth) (As := As) (rest := rest) ⟨hx, hb, rfl, hown, hts⟩ hM ⟨callB_of a hts hG rfl rfl rfl (hin _ ho.2.2.1 rfl) (hin _ hl rfl) ho.2.2.2 hR, hin _ ho.2.1 rfl⟩ ⟨fun _ _ _ _ q => q, fun _ _ _ => rfl⟩ rfl ha hml.symm rfl (lv_room hW) d hc
  intro T hT X
  obtain ⟨v, st₀, t, T', L, h0, X', hL, e1, ⟨hv, hh⟩, st⟩ := hr T hT X
  cases hv
  obtain ⟨t2, a1, b1⟩ := kk T' (by rw [e1, hh, h0]) (Stand.forget X' (fun q h => (hL q h).elim))
  exact ⟨t2, st t2 a1, b1⟩
theorem jr_pcall {y2 : MethodName} {cc2 : ByteArray} {n2 k2 i a : Nat} {r2 : Option FieldType} {As : List Value} {v2 : Value} {st : List Value} (C : CC p s m args meth c y cc n r)
    (hM : pu l y2 cc2 n2 r2 k2 As v2) (ho : ok_s y2 cc2 n2 r2 a) (hl : Cond.methodLink y.cls i y2 ∈ lw_tbl) (ha : As.length = a) (hR : k2 + 1 ≤ R.frames ∧ 8 + (n2 + 11) + 48 * k2 ≤ R.locals) (hst : st = As.reverse ++ rest) (hW : (rest.map fun v => v.category).sum ≤ 8) (hc : cells ≤ R.cells ∧ slots ≤ R.slots) (d : decode cc pc = .ok (.invokestatic i, 3))
    (kk : JJ p l e R s m args below meth c n Wd Q (pc + 3) lv (v2 :: rest) w cells slots) : JJ p l e R s m args below meth c n Wd Q pc lv st w cells slots := by
  intro H locs ls hls hw
  refine pu_call (T := gw_G) (R := R) C.1 C.2.1 (by rw [C.2.2.1]; exact hls.1.symm) C.2.2.2.2.2.1 (fun w hw => C.2.2.2.2.2.2.2 w (List.mem_filter.mp hw).1 (gw_good hw)) (fun w hw => ?_) C.2.2.2.2.2.2.2 hM ho hl ha hR hst hW hc d (kk H locs ls hls hw)
  rcases List.mem_cons.mp hw with rfl | h2
  · exact ⟨gw_in ho.1 rfl, Or.inl rfl⟩
  · exact ⟨h2, good_of_word (gw_good h2)⟩
end JR
