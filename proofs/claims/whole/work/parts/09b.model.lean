/-! RobotCellModel.makes(ZIJI)I -/
def fX12_makes_86 (S : MS) : Option (Int32 × MS) :=
  some (4, S)
def fX12_makes_115 (S : MS) : Option (Int32 × MS) :=
  some (8, S)
def fX12_makes_177 (S : MS) : Option (Int32 × MS) :=
  some (0, S)
def fX12_makes_166 (r131 : MS → Int32 → Int64 → Int64 → Int32 → Int32 → Option (Int32 × MS)) (S : MS) (v2 : Int32) (v3 : Int64) (v6 : Int64) (v8 : Int32) (v9 : Int32) : Option (Int32 × MS) :=
  r131 S v2 v3 v6 v8 v9
def fX12_makes_163 (r131 : MS → Int32 → Int64 → Int64 → Int32 → Int32 → Option (Int32 × MS)) (S : MS) (v2 : Int32) (v3 : Int64) (v6 : Int64) (v8 : Int32) (v9 : Int32) : Option (Int32 × MS) :=
  fX12_makes_166 r131 S v2 v3 v6 v8 (v9 + 1)
def fX12_makes_131  : Nat → MS → Int32 → Int64 → Int64 → Int32 → Int32 → Option (Int32 × MS)
  | 0, _, _, _, _, _, _ => none
  | q + 1, S, v2, v3, v6, v8, v9 => if v3 ≤ v9.toInt64 then (if inb v2 (mlA 5) = true then fX12_makes_177 (pA S 5 (ix v2) v8) else none) else (if inb v8 (mlA 8) = true then (Option.bind (fX12_newRow S 4 v6.toInt32) (fun c158 => if inb ((gA S 8 (ix v8)) + v9) (mlB 9) = true then fX12_makes_163 (fX12_makes_131  q) (pB c158.2 9 (ix ((gA S 8 (ix v8)) + v9)) c158.1.toInt64) v2 v3 v6 v8 v9 else none)) else none)
def fX12_makes_73 (S : MS) (v2 : Int32) (v3 : Int64) (v6 : Int64) : Option (Int32 × MS) :=
  if v3 < 0 then fX12_makes_86 S else (if 0 ≤ v6 then (if 16 < v3 then fX12_makes_115 S else (if 16 < v6 then fX12_makes_115 S else (Option.bind (fX12_hasRoom S (1 + v3)) (fun c109 => if c109.1 = 0 then fX12_makes_115 c109.2 else (Option.bind (fX12_newRow c109.2 10 v3.toInt32) (fun c123 => fX12_makes_131 20 c123.2 v2 v3 v6 c123.1 0)))))) else fX12_makes_86 S)
def fX12_makes_16 (S : MS) : Option (Int32 × MS) :=
  some (2, S)
def fX12_makes_42 (S : MS) : Option (Int32 × MS) :=
  some (8, S)
def fX12_makes_59 (S : MS) : Option (Int32 × MS) :=
  some (0, S)
def fX12_makes (S : MS) (v1 : Int32) (v2 : Int32) (v3 : Int64) (v5 : Int32) : Option (Int32 × MS) :=
  if v1 = 0 then (if v5 < 0 then fX12_makes_16 S else (if v5 ≤ 9 then (if 0 ≤ v3 then (if 64 < v3 then fX12_makes_42 S else (Option.bind (fX12_hasRoom S 1) (fun c36 => if c36.1 = 0 then fX12_makes_42 c36.2 else (Option.bind (fX12_newRow c36.2 v5 v3.toInt32) (fun c55 => if inb v2 (mlA 5) = true then fX12_makes_59 (pA c55.2 5 (ix v2) c55.1) else none))))) else some (4, S)) else fX12_makes_16 S)) else (if inb (v5 &&& 15) (mlB 3) = true then fX12_makes_73 S v2 v3 (gB S 3 (ix (v5 &&& 15))) else none)
theorem oX12_makes : ok_v yX12_makes cX12_makes 10 (some .int) 4 := ⟨kw_1344, kw_1343, kw_55, kw_73, by decide +kernel⟩
set_option maxRecDepth 100000 in
theorem tX12_makes_86 {p : Program} {l : Launch} {e : Env} {s : State} {m : MethodId} {args : Array Value} {below : List Frame} {meth : Method} {c : Code} {g : MG} (C : CC p s m args meth c yX12_makes cX12_makes 10 (some .int)) (K : mK g s) (G : mSep g)  (S : MS) {w : Int32 × MS} (hv : fX12_makes_86 S = some w) : MJ p l e s m args below meth c 10 2 g (some (.int w.1)) w.2 86 [] [] S := by
  unfold fX12_makes_86 at hv
  refine jr_iconst (v := 4) C dX12_makes_86 (by decide) ?_
  exact jm_iret C K dX12_makes_87 (Option.some.inj hv)
set_option maxRecDepth 100000 in
theorem tX12_makes_115 {p : Program} {l : Launch} {e : Env} {s : State} {m : MethodId} {args : Array Value} {below : List Frame} {meth : Method} {c : Code} {g : MG} (C : CC p s m args meth c yX12_makes cX12_makes 10 (some .int)) (K : mK g s) (G : mSep g)  (S : MS) {w : Int32 × MS} (hv : fX12_makes_115 S = some w) : MJ p l e s m args below meth c 10 2 g (some (.int w.1)) w.2 115 [] [] S := by
  unfold fX12_makes_115 at hv
  refine jr_bipush (v := 8) C dX12_makes_115 (by decide) ?_
  exact jm_iret C K dX12_makes_117 (Option.some.inj hv)
set_option maxRecDepth 100000 in
theorem tX12_makes_177 {p : Program} {l : Launch} {e : Env} {s : State} {m : MethodId} {args : Array Value} {below : List Frame} {meth : Method} {c : Code} {g : MG} (C : CC p s m args meth c yX12_makes cX12_makes 10 (some .int)) (K : mK g s) (G : mSep g)  (S : MS) {w : Int32 × MS} (hv : fX12_makes_177 S = some w) : MJ p l e s m args below meth c 10 2 g (some (.int w.1)) w.2 177 [] [] S := by
  unfold fX12_makes_177 at hv
  refine jr_iconst (v := 0) C dX12_makes_177 (by decide) ?_
  exact jm_iret C K dX12_makes_178 (Option.some.inj hv)
set_option maxRecDepth 100000 in
theorem tX12_makes_166 {p : Program} {l : Launch} {e : Env} {s : State} {m : MethodId} {args : Array Value} {below : List Frame} {meth : Method} {c : Code} {g : MG} (C : CC p s m args meth c yX12_makes cX12_makes 10 (some .int)) (K : mK g s) (G : mSep g) (r131 : MS → Int32 → Int64 → Int64 → Int32 → Int32 → Option (Int32 × MS)) (h131 : ∀ (S : MS) (v2 : Int32) (v3 : Int64) (v6 : Int64) (v8 : Int32) (v9 : Int32) (w : Int32 × MS), r131 S v2 v3 v6 v8 v9 = some w → MJ p l e s m args below meth c 10 2 g (some (.int w.1)) w.2 131 [(0, .ref (mo g)), (2, .int v2), (3, .long v3), (6, .long v6), (8, .int v8), (9, .int v9)] [] S) (S : MS) (v2 : Int32) (v3 : Int64) (v6 : Int64) (v8 : Int32) (v9 : Int32) {w : Int32 × MS} (hv : fX12_makes_166 r131 S v2 v3 v6 v8 v9 = some w) : MJ p l e s m args below meth c 10 2 g (some (.int w.1)) w.2 166 [(0, .ref (mo g)), (2, .int v2), (3, .long v3), (6, .long v6), (8, .int v8), (9, .int v9)] [] S := by
  unfold fX12_makes_166 at hv
  refine jr_goto (tgt := 131) C dX12_makes_166 rfl ?_
  exact h131 S v2 v3 v6 v8 v9 _ hv
set_option maxRecDepth 100000 in
theorem tX12_makes_163 {p : Program} {l : Launch} {e : Env} {s : State} {m : MethodId} {args : Array Value} {below : List Frame} {meth : Method} {c : Code} {g : MG} (C : CC p s m args meth c yX12_makes cX12_makes 10 (some .int)) (K : mK g s) (G : mSep g) (r131 : MS → Int32 → Int64 → Int64 → Int32 → Int32 → Option (Int32 × MS)) (h131 : ∀ (S : MS) (v2 : Int32) (v3 : Int64) (v6 : Int64) (v8 : Int32) (v9 : Int32) (w : Int32 × MS), r131 S v2 v3 v6 v8 v9 = some w → MJ p l e s m args below meth c 10 2 g (some (.int w.1)) w.2 131 [(0, .ref (mo g)), (2, .int v2), (3, .long v3), (6, .long v6), (8, .int v8), (9, .int v9)] [] S) (S : MS) (v2 : Int32) (v3 : Int64) (v6 : Int64) (v8 : Int32) (v9 : Int32) {w : Int32 × MS} (hv : fX12_makes_163 r131 S v2 v3 v6 v8 v9 = some w) : MJ p l e s m args below meth c 10 2 g (some (.int w.1)) w.2 163 [(0, .ref (mo g)), (2, .int v2), (3, .long v3), (6, .long v6), (8, .int v8), (9, .int v9)] [] S := by
  unfold fX12_makes_163 at hv
  refine jr_iinc (v := (v9 + 1)) (lv' := [(9, .int (v9 + 1)), (0, .ref (mo g)), (2, .int v2), (3, .long v3), (6, .long v6), (8, .int v8)]) C dX12_makes_163 5 rfl rfl (by decide) rfl ?_
  exact jr_sub [1, 2, 3, 4, 5, 0] rfl (tX12_makes_166 C K G r131 h131 S v2 v3 v6 v8 (v9 + 1) hv)
set_option maxRecDepth 100000 in
theorem tX12_makes_131 {p : Program} {l : Launch} {e : Env} {s : State} {m : MethodId} {args : Array Value} {below : List Frame} {meth : Method} {c : Code} {g : MG} (C : CC p s m args meth c yX12_makes cX12_makes 10 (some .int)) (K : mK g s) (G : mSep g)  : ∀ (q : Nat) (S : MS) (v2 : Int32) (v3 : Int64) (v6 : Int64) (v8 : Int32) (v9 : Int32) (w : Int32 × MS), fX12_makes_131  q S v2 v3 v6 v8 v9 = some w → MJ p l e s m args below meth c 10 2 g (some (.int w.1)) w.2 131 [(0, .ref (mo g)), (2, .int v2), (3, .long v3), (6, .long v6), (8, .int v8), (9, .int v9)] [] S := by
  intro q
  induction q with
  | zero => intro S v2 v3 v6 v8 v9 w hv; exact absurd hv (by simp [fX12_makes_131])
  | succ q ih =>
    intro S v2 v3 v6 v8 v9 w hv
    unfold fX12_makes_131 at hv
    refine jr_iload C dX12_makes_131 5 rfl ?_
    refine jr_i2l C dX12_makes_133 ?_
    refine jr_lload_n C dX12_makes_134 rfl 2 rfl ?_
    refine jr_lcmp_ge (tgt := 169) C dX12_makes_135 dX12_makes_136 rfl (fun q135 => ?_) (fun q135 => ?_)
    · have hv := (if_pos q135).symm.trans hv
      refine jr_aload_n C dX12_makes_169 rfl 0 rfl ?_
      refine jm_getA C K 5 (by decide) (by decide) kw_1440 rfl dX12_makes_170 ?_
      refine jr_iload_n C dX12_makes_173 rfl 1 rfl ?_
      refine jr_iload C dX12_makes_174 4 rfl ?_
      by_cases z176 : inb v2 (mlA 5) = true
      case neg => exact op_none ((if_neg z176).symm.trans hv)
      have hv := (if_pos z176).symm.trans hv
      refine jm_iast C K G z176 dX12_makes_176 ?_
      exact jr_sub [] rfl (tX12_makes_177 C K G  (pA S 5 (ix v2) v8) hv)
    · have hv := (if_neg q135).symm.trans hv
      refine jr_aload_n C dX12_makes_139 rfl 0 rfl ?_
      refine jm_getA C K 9 (by decide) (by decide) kw_1444 rfl dX12_makes_140 ?_
      refine jr_aload_n C dX12_makes_143 rfl 0 rfl ?_
      refine jm_getA C K 8 (by decide) (by decide) kw_1443 rfl dX12_makes_144 ?_
      refine jr_iload C dX12_makes_147 4 rfl ?_
      by_cases z149 : inb v8 (mlA 8) = true
      case neg => exact op_none ((if_neg z149).symm.trans hv)
      have hv := (if_pos z149).symm.trans hv
      refine jm_iald C K z149 dX12_makes_149 ?_
      refine jr_iload C dX12_makes_150 5 rfl ?_
      refine jr_iadd C dX12_makes_152 ?_
      refine jr_aload_n C dX12_makes_153 rfl 0 rfl ?_
      refine jr_iconst (v := 4) C dX12_makes_154 (by decide) ?_
      refine jr_lload C dX12_makes_155 3 rfl ?_
      refine jr_l2i C dX12_makes_157 ?_
      obtain ⟨c158, hc158, hv⟩ := Option.bind_eq_some_iff.mp hv
      refine jm_call (rest := [.int ((gA S 8 (ix v8)) + v9), .ref (mad g 9)]) C K G (pX12_newRow l G S 4 v6.toInt32 hc158) oX12_newRow rfl kw_1351 rfl ⟨Nat.le_of_ble_eq_true rfl, Nat.le_of_ble_eq_true rfl⟩ rfl (Nat.le_of_ble_eq_true rfl) ⟨Nat.zero_le _, Nat.zero_le _⟩ dX12_makes_158 ?_
      refine jr_i2l C dX12_makes_161 ?_
      by_cases z162 : inb ((gA S 8 (ix v8)) + v9) (mlB 9) = true
      case neg => exact op_none ((if_neg z162).symm.trans hv)
      have hv := (if_pos z162).symm.trans hv
      refine jm_last C K G z162 dX12_makes_162 ?_
      exact tX12_makes_163 C K G (fX12_makes_131  q) ih (pB c158.2 9 (ix ((gA S 8 (ix v8)) + v9)) c158.1.toInt64) v2 v3 v6 v8 v9 hv
set_option maxRecDepth 100000 in
theorem tX12_makes_73 {p : Program} {l : Launch} {e : Env} {s : State} {m : MethodId} {args : Array Value} {below : List Frame} {meth : Method} {c : Code} {g : MG} (C : CC p s m args meth c yX12_makes cX12_makes 10 (some .int)) (K : mK g s) (G : mSep g)  (S : MS) (v2 : Int32) (v3 : Int64) (v6 : Int64) {w : Int32 × MS} (hv : fX12_makes_73 S v2 v3 v6 = some w) : MJ p l e s m args below meth c 10 2 g (some (.int w.1)) w.2 73 [(0, .ref (mo g)), (2, .int v2), (3, .long v3), (6, .long v6)] [] S := by
  unfold fX12_makes_73 at hv
  refine jr_lload_n C dX12_makes_73 rfl 2 rfl ?_
  refine jr_lconst (v := 0) C dX12_makes_74 (by decide) ?_
  refine jr_lcmp_lt (tgt := 86) C dX12_makes_75 dX12_makes_76 rfl (fun q75 => ?_) (fun q75 => ?_)
  · have hv := (if_pos q75).symm.trans hv
    exact jr_sub [] rfl (tX12_makes_86 C K G  S hv)
  · have hv := (if_neg q75).symm.trans hv
    refine jr_lload C dX12_makes_79 3 rfl ?_
    refine jr_lconst (v := 0) C dX12_makes_81 (by decide) ?_
    refine jr_lcmp_ge (tgt := 88) C dX12_makes_82 dX12_makes_83 rfl (fun q82 => ?_) (fun q82 => ?_)
    · have hv := (if_pos q82).symm.trans hv
      refine jr_lload_n C dX12_makes_88 rfl 2 rfl ?_
      refine jr_ldc2 C kw_1359 dX12_makes_89 ?_
      refine jr_lcmp_gt (tgt := 115) C dX12_makes_92 dX12_makes_93 rfl (fun q92 => ?_) (fun q92 => ?_)
      · have hv := (if_pos q92).symm.trans hv
        exact jr_sub [] rfl (tX12_makes_115 C K G  S hv)
      · have hv := (if_neg q92).symm.trans hv
        refine jr_lload C dX12_makes_96 3 rfl ?_
        refine jr_ldc2 C kw_1359 dX12_makes_98 ?_
        refine jr_lcmp_gt (tgt := 115) C dX12_makes_101 dX12_makes_102 rfl (fun q101 => ?_) (fun q101 => ?_)
        · have hv := (if_pos q101).symm.trans hv
          exact jr_sub [] rfl (tX12_makes_115 C K G  S hv)
        · have hv := (if_neg q101).symm.trans hv
          refine jr_aload_n C dX12_makes_105 rfl 0 rfl ?_
          refine jr_lconst (v := 1) C dX12_makes_106 (by decide) ?_
          refine jr_lload_n C dX12_makes_107 rfl 2 rfl ?_
          refine jr_ladd C dX12_makes_108 ?_
          obtain ⟨c109, hc109, hv⟩ := Option.bind_eq_some_iff.mp hv
          refine jm_call (rest := []) C K G (pX12_hasRoom l G S (1 + v3) hc109) oX12_hasRoom rfl kw_1346 rfl ⟨Nat.le_of_ble_eq_true rfl, Nat.le_of_ble_eq_true rfl⟩ rfl (Nat.le_of_ble_eq_true rfl) ⟨Nat.zero_le _, Nat.zero_le _⟩ dX12_makes_109 ?_
          refine jr_if_ne (tgt := 118) C dX12_makes_112 rfl (fun q112 => ?_) (fun q112 => ?_)
          · have hv := (if_neg q112).symm.trans hv
            refine jr_aload_n C dX12_makes_118 rfl 0 rfl ?_
            refine jr_bipush (v := 10) C dX12_makes_119 (by decide) ?_
            refine jr_lload_n C dX12_makes_121 rfl 2 rfl ?_
            refine jr_l2i C dX12_makes_122 ?_
            obtain ⟨c123, hc123, hv⟩ := Option.bind_eq_some_iff.mp hv
            refine jm_call (rest := []) C K G (pX12_newRow l G c109.2 10 v3.toInt32 hc123) oX12_newRow rfl kw_1351 rfl ⟨Nat.le_of_ble_eq_true rfl, Nat.le_of_ble_eq_true rfl⟩ rfl (Nat.le_of_ble_eq_true rfl) ⟨Nat.zero_le _, Nat.zero_le _⟩ dX12_makes_123 ?_
            refine jr_istore (lv' := [(8, .int c123.1), (0, .ref (mo g)), (2, .int v2), (3, .long v3), (6, .long v6)]) C dX12_makes_126 (by decide) rfl ?_
            refine jr_iconst (v := 0) C dX12_makes_128 (by decide) ?_
            refine jr_istore (lv' := [(9, .int 0), (8, .int c123.1), (0, .ref (mo g)), (2, .int v2), (3, .long v3), (6, .long v6)]) C dX12_makes_129 (by decide) rfl ?_
            exact jr_sub [2, 3, 4, 5, 1, 0] rfl (tX12_makes_131 C K G  20 c123.2 v2 v3 v6 c123.1 0 _ hv)
          · have hv := (if_pos q112).symm.trans hv
            exact jr_sub [] rfl (tX12_makes_115 C K G  c109.2 hv)
    · have hv := (if_neg q82).symm.trans hv
      exact jr_sub [] rfl (tX12_makes_86 C K G  S hv)
set_option maxRecDepth 100000 in
theorem tX12_makes_16 {p : Program} {l : Launch} {e : Env} {s : State} {m : MethodId} {args : Array Value} {below : List Frame} {meth : Method} {c : Code} {g : MG} (C : CC p s m args meth c yX12_makes cX12_makes 10 (some .int)) (K : mK g s) (G : mSep g)  (S : MS) {w : Int32 × MS} (hv : fX12_makes_16 S = some w) : MJ p l e s m args below meth c 10 2 g (some (.int w.1)) w.2 16 [] [] S := by
  unfold fX12_makes_16 at hv
  refine jr_iconst (v := 2) C dX12_makes_16 (by decide) ?_
  exact jm_iret C K dX12_makes_17 (Option.some.inj hv)
set_option maxRecDepth 100000 in
theorem tX12_makes_42 {p : Program} {l : Launch} {e : Env} {s : State} {m : MethodId} {args : Array Value} {below : List Frame} {meth : Method} {c : Code} {g : MG} (C : CC p s m args meth c yX12_makes cX12_makes 10 (some .int)) (K : mK g s) (G : mSep g)  (S : MS) {w : Int32 × MS} (hv : fX12_makes_42 S = some w) : MJ p l e s m args below meth c 10 2 g (some (.int w.1)) w.2 42 [] [] S := by
  unfold fX12_makes_42 at hv
  refine jr_bipush (v := 8) C dX12_makes_42 (by decide) ?_
  exact jm_iret C K dX12_makes_44 (Option.some.inj hv)
set_option maxRecDepth 100000 in
theorem tX12_makes_59 {p : Program} {l : Launch} {e : Env} {s : State} {m : MethodId} {args : Array Value} {below : List Frame} {meth : Method} {c : Code} {g : MG} (C : CC p s m args meth c yX12_makes cX12_makes 10 (some .int)) (K : mK g s) (G : mSep g)  (S : MS) {w : Int32 × MS} (hv : fX12_makes_59 S = some w) : MJ p l e s m args below meth c 10 2 g (some (.int w.1)) w.2 59 [] [] S := by
  unfold fX12_makes_59 at hv
  refine jr_iconst (v := 0) C dX12_makes_59 (by decide) ?_
  exact jm_iret C K dX12_makes_60 (Option.some.inj hv)
set_option maxRecDepth 100000 in
theorem tX12_makes_0 {p : Program} {l : Launch} {e : Env} {s : State} {m : MethodId} {args : Array Value} {below : List Frame} {meth : Method} {c : Code} {g : MG} (C : CC p s m args meth c yX12_makes cX12_makes 10 (some .int)) (K : mK g s) (G : mSep g)  (S : MS) (v1 : Int32) (v2 : Int32) (v3 : Int64) (v5 : Int32) {w : Int32 × MS} (hv : fX12_makes S v1 v2 v3 v5 = some w) : MJ p l e s m args below meth c 10 2 g (some (.int w.1)) w.2 0 [(0, .ref (mo g)), (1, .int v1), (2, .int v2), (3, .long v3), (5, .int v5)] [] S := by
  unfold fX12_makes at hv
  refine jr_iload_n C dX12_makes_0 rfl 1 rfl ?_
  refine jr_if_ne (tgt := 61) C dX12_makes_1 rfl (fun q1 => ?_) (fun q1 => ?_)
  · have hv := (if_neg q1).symm.trans hv
    refine jr_aload_n C dX12_makes_61 rfl 0 rfl ?_
    refine jm_getA C K 3 (by decide) (by decide) kw_1438 rfl dX12_makes_62 ?_
    refine jr_iload C dX12_makes_65 4 rfl ?_
    refine jr_bipush (v := 15) C dX12_makes_67 (by decide) ?_
    refine jr_iand C dX12_makes_69 ?_
    by_cases z70 : inb (v5 &&& 15) (mlB 3) = true
    case neg => exact op_none ((if_neg z70).symm.trans hv)
    have hv := (if_pos z70).symm.trans hv
    refine jm_lald C K z70 dX12_makes_70 ?_
    refine jr_lstore (lv' := [(6, .long (gB S 3 (ix (v5 &&& 15)))), (0, .ref (mo g)), (1, .int v1), (2, .int v2), (3, .long v3), (5, .int v5)]) C dX12_makes_71 (by decide) rfl ?_
    exact jr_sub [1, 3, 4, 0] rfl (tX12_makes_73 C K G  S v2 v3 (gB S 3 (ix (v5 &&& 15))) hv)
  · have hv := (if_pos q1).symm.trans hv
    refine jr_iload C dX12_makes_4 4 rfl ?_
    refine jr_if_lt (tgt := 16) C dX12_makes_6 rfl (fun q6 => ?_) (fun q6 => ?_)
    · have hv := (if_pos q6).symm.trans hv
      exact jr_sub [] rfl (tX12_makes_16 C K G  S hv)
    · have hv := (if_neg q6).symm.trans hv
      refine jr_iload C dX12_makes_9 4 rfl ?_
      refine jr_bipush (v := 9) C dX12_makes_11 (by decide) ?_
      refine jr_icmp_le (tgt := 18) C dX12_makes_13 rfl (fun q13 => ?_) (fun q13 => ?_)
      · have hv := (if_pos q13).symm.trans hv
        refine jr_lload_n C dX12_makes_18 rfl 3 rfl ?_
        refine jr_lconst (v := 0) C dX12_makes_19 (by decide) ?_
        refine jr_lcmp_ge (tgt := 26) C dX12_makes_20 dX12_makes_21 rfl (fun q20 => ?_) (fun q20 => ?_)
        · have hv := (if_pos q20).symm.trans hv
          refine jr_lload_n C dX12_makes_26 rfl 3 rfl ?_
          refine jr_ldc2 C kw_1345 dX12_makes_27 ?_
          refine jr_lcmp_gt (tgt := 42) C dX12_makes_30 dX12_makes_31 rfl (fun q30 => ?_) (fun q30 => ?_)
          · have hv := (if_pos q30).symm.trans hv
            exact jr_sub [] rfl (tX12_makes_42 C K G  S hv)
          · have hv := (if_neg q30).symm.trans hv
            refine jr_aload_n C dX12_makes_34 rfl 0 rfl ?_
            refine jr_lconst (v := 1) C dX12_makes_35 (by decide) ?_
            obtain ⟨c36, hc36, hv⟩ := Option.bind_eq_some_iff.mp hv
            refine jm_call (rest := []) C K G (pX12_hasRoom l G S 1 hc36) oX12_hasRoom rfl kw_1346 rfl ⟨Nat.le_of_ble_eq_true rfl, Nat.le_of_ble_eq_true rfl⟩ rfl (Nat.le_of_ble_eq_true rfl) ⟨Nat.zero_le _, Nat.zero_le _⟩ dX12_makes_36 ?_
            refine jr_if_ne (tgt := 45) C dX12_makes_39 rfl (fun q39 => ?_) (fun q39 => ?_)
            · have hv := (if_neg q39).symm.trans hv
              refine jr_aload_n C dX12_makes_45 rfl 0 rfl ?_
              refine jm_getA C K 5 (by decide) (by decide) kw_1440 rfl dX12_makes_46 ?_
              refine jr_iload_n C dX12_makes_49 rfl 2 rfl ?_
              refine jr_aload_n C dX12_makes_50 rfl 0 rfl ?_
              refine jr_iload C dX12_makes_51 4 rfl ?_
              refine jr_lload_n C dX12_makes_53 rfl 3 rfl ?_
              refine jr_l2i C dX12_makes_54 ?_
              obtain ⟨c55, hc55, hv⟩ := Option.bind_eq_some_iff.mp hv
              refine jm_call (rest := [.int v2, .ref (mad g 5)]) C K G (pX12_newRow l G c36.2 v5 v3.toInt32 hc55) oX12_newRow rfl kw_1351 rfl ⟨Nat.le_of_ble_eq_true rfl, Nat.le_of_ble_eq_true rfl⟩ rfl (Nat.le_of_ble_eq_true rfl) ⟨Nat.zero_le _, Nat.zero_le _⟩ dX12_makes_55 ?_
              by_cases z58 : inb v2 (mlA 5) = true
              case neg => exact op_none ((if_neg z58).symm.trans hv)
              have hv := (if_pos z58).symm.trans hv
              refine jm_iast C K G z58 dX12_makes_58 ?_
              exact jr_sub [] rfl (tX12_makes_59 C K G  (pA c55.2 5 (ix v2) c55.1) hv)
            · have hv := (if_pos q39).symm.trans hv
              exact jr_sub [] rfl (tX12_makes_42 C K G  c36.2 hv)
        · have hv := (if_neg q20).symm.trans hv
          refine jr_iconst (v := 4) C dX12_makes_24 (by decide) ?_
          exact jm_iret C K dX12_makes_25 (Option.some.inj hv)
      · have hv := (if_neg q13).symm.trans hv
        exact jr_sub [] rfl (tX12_makes_16 C K G  S hv)
theorem pX12_makes (l : Launch) {g : MG} (G : mSep g) (S : MS) (v1 : Int32) (v2 : Int32) (v3 : Int64) (v5 : Int32) {w : Int32} {S' : MS} (hw : fX12_makes S v1 v2 v3 v5 = some (w, S')) : mC l yX12_makes cX12_makes 10 (some .int) 2 g [.ref (mo g), .int v1, .int v2, .long v3, .int v5] S (some (.int w)) S' := mC_of (by decide +kernel) (Nat.le_of_ble_eq_true rfl) rfl (fun C K => tX12_makes_0 C K G S v1 v2 v3 v5 hw)
/-! RobotCellModel.rows(IIII)I -/
def fX12_rows_56 (S : MS) (v2 : Int32) (v3 : Int32) (v4 : Int32) (t1 : Int32) : Option (Int32 × MS) :=
  if inb (v3 &&& 15) (mlB 3) = true then (Option.bind (fX12_makes S t1 (v2 &&& 15) (gB S 3 (ix (v3 &&& 15))) v4) (fun c71 => some (c71.1, c71.2))) else none
def fX12_rows_44 (S : MS) (v1 : Int32) (v2 : Int32) (v3 : Int32) (v4 : Int32) : Option (Int32 × MS) :=
  if v1 = 41 then fX12_rows_56 S v2 v3 v4 1 else fX12_rows_56 S v2 v3 v4 0
def fX12_rows_132 (S : MS) : Option (Int32 × MS) :=
  some (0, S)
def fX12_rows_97 (S : MS) (v2 : Int32) (v3 : Int32) : Option (Int32 × MS) :=
  Option.bind (fX12_kindOf S v3) (fun c99 => if c99.1 = (-1) then some (1, c99.2) else (if inb (v3 &&& 15) (mlA 5) = true then (if inb (gA c99.2 5 (ix (v3 &&& 15))) (mlA 7) = true then (if inb (v2 &&& 15) (mlB 3) = true then fX12_rows_132 (pB c99.2 3 (ix (v2 &&& 15)) ((gA c99.2 7 (ix (gA c99.2 5 (ix (v3 &&& 15))))).toInt64)) else none) else none) else none))
def fX12_rows_323 (S : MS) : Option (Int32 × MS) :=
  some (0, S)
def fX12_rows_309 (r264 : MS → Int32 → Int32 → Int32 → Int32 → Option (Int32 × MS)) (S : MS) (v2 : Int32) (v5 : Int32) (v6 : Int32) (v7 : Int32) : Option (Int32 × MS) :=
  r264 S v2 v5 v6 v7
def fX12_rows_306 (r264 : MS → Int32 → Int32 → Int32 → Int32 → Option (Int32 × MS)) (S : MS) (v2 : Int32) (v5 : Int32) (v6 : Int32) (v7 : Int32) : Option (Int32 × MS) :=
  fX12_rows_309 r264 S v2 v5 v6 (v7 + 1)
def fX12_rows_264  : Nat → MS → Int32 → Int32 → Int32 → Int32 → Option (Int32 × MS)
  | 0, _, _, _, _, _ => none
  | q + 1, S, v2, v5, v6, v7 => if inb v5 (mlA 7) = true then (if (gA S 7 (ix v5)) ≤ v7 then (if inb (v2 &&& 15) (mlA 5) = true then fX12_rows_323 (pA S 5 (ix (v2 &&& 15)) v6) else none) else (if inb v6 (mlA 8) = true then (if inb v5 (mlA 8) = true then (if inb ((gA S 8 (ix v5)) + v7) (mlB 9) = true then (if inb ((gA S 8 (ix v6)) + v7) (mlB 9) = true then fX12_rows_306 (fX12_rows_264  q) (pB S 9 (ix ((gA S 8 (ix v6)) + v7)) (gB S 9 (ix ((gA S 8 (ix v5)) + v7)))) v2 v5 v6 v7 else none) else none) else none) else none)) else none
def fX12_rows_247 (S : MS) (v2 : Int32) (v5 : Int32) : Option (Int32 × MS) :=
  if inb v5 (mlA 7) = true then (Option.bind (fX12_newRow S 4 (gA S 7 (ix v5))) (fun c256 => fX12_rows_264 70 c256.2 v2 v5 c256.1 0)) else none
def fX12_rows_214 (S : MS) (v2 : Int32) (v3 : Int32) : Option (Int32 × MS) :=
  Option.bind (fX12_kindOf S v3) (fun c216 => if c216.1 = (-1) then some (1, c216.2) else (Option.bind (fX12_hasRoom c216.2 1) (fun c227 => if c227.1 = 0 then some (8, c227.2) else (if inb (v3 &&& 15) (mlA 5) = true then fX12_rows_247 c227.2 v2 (gA c227.2 5 (ix (v3 &&& 15))) else none))))
def fX12_rows_340 (S : MS) : Option (Int32 × MS) :=
  some (0, S)
def fX12_rows_360 (S : MS) : Option (Int32 × MS) :=
  some (0, S)
def fX12_rows_372 (S : MS) : Option (Int32 × MS) :=
  some (0, S)
def fX12_rows (S : MS) (v1 : Int32) (v2 : Int32) (v3 : Int32) (v4 : Int32) : Option (Int32 × MS) :=
  if v1 = 40 then fX12_rows_44 S v1 v2 v3 v4 else if v1 = 41 then fX12_rows_44 S v1 v2 v3 v4 else if v1 = 42 then (Option.bind (fX12_kindOf S v3) (fun c77 => if c77.1 = (-1) then fX12_rows_97 c77.2 v2 v3 else (Option.bind (fX12_kindOf c77.2 v3) (fun c86 => if (fX12_isRow c86.1) = 0 then some (2, c86.2) else fX12_rows_97 c86.2 v2 v3)))) else if v1 = 43 then (if inb (v2 &&& 15) (mlA 5) = true then (if inb (v3 &&& 15) (mlA 5) = true then (if inb (v4 &&& 15) (mlB 3) = true then (if inb ((v4 + 1) &&& 15) (mlB 3) = true then (if inb ((v4 + 2) &&& 15) (mlB 3) = true then (Option.bind (fX12_copies S (gA S 5 (ix (v2 &&& 15))) (gA S 5 (ix (v3 &&& 15))) ((gB S 3 (ix (v4 &&& 15))).toInt32) ((gB S 3 (ix ((v4 + 1) &&& 15))).toInt32) ((gB S 3 (ix ((v4 + 2) &&& 15))).toInt32)) (fun c190 => some (c190.1, c190.2))) else none) else none) else none) else none) else none) else if v1 = 44 then (Option.bind (fX12_kindOf S v3) (fun c196 => if c196.1 = (-1) then fX12_rows_214 c196.2 v2 v3 else (Option.bind (fX12_kindOf c196.2 v3) (fun c205 => if c205.1 = 4 then fX12_rows_214 c205.2 v2 v3 else some (2, c205.2))))) else if v1 = 45 then (Option.bind (fX12_kindOf S v3) (fun c335 => if inb (v2 &&& 15) (mlB 3) = true then fX12_rows_340 (pB c335.2 3 (ix (v2 &&& 15)) c335.1.toInt64) else none)) else if v1 = 46 then (if inb (v3 &&& 15) (mlA 5) = true then (if inb (v2 &&& 15) (mlA 5) = true then fX12_rows_360 (pA S 5 (ix (v2 &&& 15)) (gA S 5 (ix (v3 &&& 15)))) else none) else none) else (if inb (v2 &&& 15) (mlA 5) = true then fX12_rows_372 (pA S 5 (ix (v2 &&& 15)) 0) else none)
theorem oX12_rows : ok_v yX12_rows cX12_rows 8 (some .int) 4 := ⟨kw_1340, kw_1339, kw_54, kw_73, by decide +kernel⟩
set_option maxRecDepth 100000 in
theorem tX12_rows_56 {p : Program} {l : Launch} {e : Env} {s : State} {m : MethodId} {args : Array Value} {below : List Frame} {meth : Method} {c : Code} {g : MG} (C : CC p s m args meth c yX12_rows cX12_rows 8 (some .int)) (K : mK g s) (G : mSep g)  (S : MS) (v2 : Int32) (v3 : Int32) (v4 : Int32) (t1 : Int32) {w : Int32 × MS} (hv : fX12_rows_56 S v2 v3 v4 t1 = some w) : MJ p l e s m args below meth c 8 3 g (some (.int w.1)) w.2 56 [(0, .ref (mo g)), (2, .int v2), (3, .int v3), (4, .int v4)] [.int t1, .ref (mo g)] S := by
  unfold fX12_rows_56 at hv
  refine jr_iload_n C dX12_rows_56 rfl 1 rfl ?_
  refine jr_bipush (v := 15) C dX12_rows_57 (by decide) ?_
  refine jr_iand C dX12_rows_59 ?_
  refine jr_aload_n C dX12_rows_60 rfl 0 rfl ?_
  refine jm_getA C K 3 (by decide) (by decide) kw_1438 rfl dX12_rows_61 ?_
  refine jr_iload_n C dX12_rows_64 rfl 2 rfl ?_
  refine jr_bipush (v := 15) C dX12_rows_65 (by decide) ?_
  refine jr_iand C dX12_rows_67 ?_
  by_cases z68 : inb (v3 &&& 15) (mlB 3) = true
  case neg => exact op_none ((if_neg z68).symm.trans hv)
  have hv := (if_pos z68).symm.trans hv
  refine jm_lald C K z68 dX12_rows_68 ?_
  refine jr_iload C dX12_rows_69 3 rfl ?_
  obtain ⟨c71, hc71, hv⟩ := Option.bind_eq_some_iff.mp hv
  refine jm_call (rest := []) C K G (pX12_makes l G S t1 (v2 &&& 15) (gB S 3 (ix (v3 &&& 15))) v4 hc71) oX12_makes rfl kw_1341 rfl ⟨Nat.le_of_ble_eq_true rfl, Nat.le_of_ble_eq_true rfl⟩ rfl (Nat.le_of_ble_eq_true rfl) ⟨Nat.zero_le _, Nat.zero_le _⟩ dX12_rows_71 ?_
  exact jm_iret C K dX12_rows_74 (Option.some.inj hv)
set_option maxRecDepth 100000 in
theorem tX12_rows_44 {p : Program} {l : Launch} {e : Env} {s : State} {m : MethodId} {args : Array Value} {below : List Frame} {meth : Method} {c : Code} {g : MG} (C : CC p s m args meth c yX12_rows cX12_rows 8 (some .int)) (K : mK g s) (G : mSep g)  (S : MS) (v1 : Int32) (v2 : Int32) (v3 : Int32) (v4 : Int32) {w : Int32 × MS} (hv : fX12_rows_44 S v1 v2 v3 v4 = some w) : MJ p l e s m args below meth c 8 3 g (some (.int w.1)) w.2 44 [(0, .ref (mo g)), (1, .int v1), (2, .int v2), (3, .int v3), (4, .int v4)] [] S := by
  unfold fX12_rows_44 at hv
  refine jr_aload_n C dX12_rows_44 rfl 0 rfl ?_
  refine jr_iload_n C dX12_rows_45 rfl 1 rfl ?_
  refine jr_bipush (v := 41) C dX12_rows_46 (by decide) ?_
  refine jr_icmp_ne (tgt := 55) C dX12_rows_48 rfl (fun q48 => ?_) (fun q48 => ?_)
  · have hv := (if_neg q48).symm.trans hv
    refine jr_iconst (v := 0) C dX12_rows_55 (by decide) ?_
    exact jr_sub [0, 2, 3, 4] rfl (tX12_rows_56 C K G  S v2 v3 v4 0 hv)
  · have hv := (if_pos q48).symm.trans hv
    refine jr_iconst (v := 1) C dX12_rows_51 (by decide) ?_
    refine jr_goto (tgt := 56) C dX12_rows_52 rfl ?_
    exact jr_sub [0, 2, 3, 4] rfl (tX12_rows_56 C K G  S v2 v3 v4 1 hv)
set_option maxRecDepth 100000 in
theorem tX12_rows_132 {p : Program} {l : Launch} {e : Env} {s : State} {m : MethodId} {args : Array Value} {below : List Frame} {meth : Method} {c : Code} {g : MG} (C : CC p s m args meth c yX12_rows cX12_rows 8 (some .int)) (K : mK g s) (G : mSep g)  (S : MS) {w : Int32 × MS} (hv : fX12_rows_132 S = some w) : MJ p l e s m args below meth c 8 3 g (some (.int w.1)) w.2 132 [] [] S := by
  unfold fX12_rows_132 at hv
  refine jr_iconst (v := 0) C dX12_rows_132 (by decide) ?_
  exact jm_iret C K dX12_rows_133 (Option.some.inj hv)
set_option maxRecDepth 100000 in
theorem tX12_rows_97 {p : Program} {l : Launch} {e : Env} {s : State} {m : MethodId} {args : Array Value} {below : List Frame} {meth : Method} {c : Code} {g : MG} (C : CC p s m args meth c yX12_rows cX12_rows 8 (some .int)) (K : mK g s) (G : mSep g)  (S : MS) (v2 : Int32) (v3 : Int32) {w : Int32 × MS} (hv : fX12_rows_97 S v2 v3 = some w) : MJ p l e s m args below meth c 8 3 g (some (.int w.1)) w.2 97 [(0, .ref (mo g)), (2, .int v2), (3, .int v3)] [] S := by
  unfold fX12_rows_97 at hv
  refine jr_aload_n C dX12_rows_97 rfl 0 rfl ?_
  refine jr_iload_n C dX12_rows_98 rfl 2 rfl ?_
  obtain ⟨c99, hc99, hv⟩ := Option.bind_eq_some_iff.mp hv
  refine jm_call (rest := []) C K G (pX12_kindOf l G S v3 hc99) oX12_kindOf rfl kw_1360 rfl ⟨Nat.le_of_ble_eq_true rfl, Nat.le_of_ble_eq_true rfl⟩ rfl (Nat.le_of_ble_eq_true rfl) ⟨Nat.zero_le _, Nat.zero_le _⟩ dX12_rows_99 ?_
  refine jr_iconst (v := (-1)) C dX12_rows_102 (by decide) ?_
  refine jr_icmp_ne (tgt := 108) C dX12_rows_103 rfl (fun q103 => ?_) (fun q103 => ?_)
  · have hv := (if_neg q103).symm.trans hv
    refine jr_aload_n C dX12_rows_108 rfl 0 rfl ?_
    refine jm_getA C K 3 (by decide) (by decide) kw_1438 rfl dX12_rows_109 ?_
    refine jr_iload_n C dX12_rows_112 rfl 1 rfl ?_
    refine jr_bipush (v := 15) C dX12_rows_113 (by decide) ?_
    refine jr_iand C dX12_rows_115 ?_
    refine jr_aload_n C dX12_rows_116 rfl 0 rfl ?_
    refine jm_getA C K 7 (by decide) (by decide) kw_1442 rfl dX12_rows_117 ?_
    refine jr_aload_n C dX12_rows_120 rfl 0 rfl ?_
    refine jm_getA C K 5 (by decide) (by decide) kw_1440 rfl dX12_rows_121 ?_
    refine jr_iload_n C dX12_rows_124 rfl 2 rfl ?_
    refine jr_bipush (v := 15) C dX12_rows_125 (by decide) ?_
    refine jr_iand C dX12_rows_127 ?_
    by_cases z128 : inb (v3 &&& 15) (mlA 5) = true
    case neg => exact op_none ((if_neg z128).symm.trans hv)
    have hv := (if_pos z128).symm.trans hv
    refine jm_iald C K z128 dX12_rows_128 ?_
    by_cases z129 : inb (gA c99.2 5 (ix (v3 &&& 15))) (mlA 7) = true
    case neg => exact op_none ((if_neg z129).symm.trans hv)
    have hv := (if_pos z129).symm.trans hv
    refine jm_iald C K z129 dX12_rows_129 ?_
    refine jr_i2l C dX12_rows_130 ?_
    by_cases z131 : inb (v2 &&& 15) (mlB 3) = true
    case neg => exact op_none ((if_neg z131).symm.trans hv)
    have hv := (if_pos z131).symm.trans hv
    refine jm_last C K G z131 dX12_rows_131 ?_
    exact jr_sub [] rfl (tX12_rows_132 C K G  (pB c99.2 3 (ix (v2 &&& 15)) ((gA c99.2 7 (ix (gA c99.2 5 (ix (v3 &&& 15))))).toInt64)) hv)
  · have hv := (if_pos q103).symm.trans hv
    refine jr_iconst (v := 1) C dX12_rows_106 (by decide) ?_
    exact jm_iret C K dX12_rows_107 (Option.some.inj hv)
set_option maxRecDepth 100000 in
theorem tX12_rows_323 {p : Program} {l : Launch} {e : Env} {s : State} {m : MethodId} {args : Array Value} {below : List Frame} {meth : Method} {c : Code} {g : MG} (C : CC p s m args meth c yX12_rows cX12_rows 8 (some .int)) (K : mK g s) (G : mSep g)  (S : MS) {w : Int32 × MS} (hv : fX12_rows_323 S = some w) : MJ p l e s m args below meth c 8 3 g (some (.int w.1)) w.2 323 [] [] S := by
  unfold fX12_rows_323 at hv
  refine jr_iconst (v := 0) C dX12_rows_323 (by decide) ?_
  exact jm_iret C K dX12_rows_324 (Option.some.inj hv)
set_option maxRecDepth 100000 in
theorem tX12_rows_309 {p : Program} {l : Launch} {e : Env} {s : State} {m : MethodId} {args : Array Value} {below : List Frame} {meth : Method} {c : Code} {g : MG} (C : CC p s m args meth c yX12_rows cX12_rows 8 (some .int)) (K : mK g s) (G : mSep g) (r264 : MS → Int32 → Int32 → Int32 → Int32 → Option (Int32 × MS)) (h264 : ∀ (S : MS) (v2 : Int32) (v5 : Int32) (v6 : Int32) (v7 : Int32) (w : Int32 × MS), r264 S v2 v5 v6 v7 = some w → MJ p l e s m args below meth c 8 3 g (some (.int w.1)) w.2 264 [(0, .ref (mo g)), (2, .int v2), (5, .int v5), (6, .int v6), (7, .int v7)] [] S) (S : MS) (v2 : Int32) (v5 : Int32) (v6 : Int32) (v7 : Int32) {w : Int32 × MS} (hv : fX12_rows_309 r264 S v2 v5 v6 v7 = some w) : MJ p l e s m args below meth c 8 3 g (some (.int w.1)) w.2 309 [(0, .ref (mo g)), (2, .int v2), (5, .int v5), (6, .int v6), (7, .int v7)] [] S := by
  unfold fX12_rows_309 at hv
  refine jr_goto (tgt := 264) C dX12_rows_309 rfl ?_
  exact h264 S v2 v5 v6 v7 _ hv
set_option maxRecDepth 100000 in
theorem tX12_rows_306 {p : Program} {l : Launch} {e : Env} {s : State} {m : MethodId} {args : Array Value} {below : List Frame} {meth : Method} {c : Code} {g : MG} (C : CC p s m args meth c yX12_rows cX12_rows 8 (some .int)) (K : mK g s) (G : mSep g) (r264 : MS → Int32 → Int32 → Int32 → Int32 → Option (Int32 × MS)) (h264 : ∀ (S : MS) (v2 : Int32) (v5 : Int32) (v6 : Int32) (v7 : Int32) (w : Int32 × MS), r264 S v2 v5 v6 v7 = some w → MJ p l e s m args below meth c 8 3 g (some (.int w.1)) w.2 264 [(0, .ref (mo g)), (2, .int v2), (5, .int v5), (6, .int v6), (7, .int v7)] [] S) (S : MS) (v2 : Int32) (v5 : Int32) (v6 : Int32) (v7 : Int32) {w : Int32 × MS} (hv : fX12_rows_306 r264 S v2 v5 v6 v7 = some w) : MJ p l e s m args below meth c 8 3 g (some (.int w.1)) w.2 306 [(0, .ref (mo g)), (2, .int v2), (5, .int v5), (6, .int v6), (7, .int v7)] [] S := by
  unfold fX12_rows_306 at hv
  refine jr_iinc (v := (v7 + 1)) (lv' := [(7, .int (v7 + 1)), (0, .ref (mo g)), (2, .int v2), (5, .int v5), (6, .int v6)]) C dX12_rows_306 4 rfl rfl (by decide) rfl ?_
  exact jr_sub [1, 2, 3, 4, 0] rfl (tX12_rows_309 C K G r264 h264 S v2 v5 v6 (v7 + 1) hv)
set_option maxRecDepth 100000 in
theorem tX12_rows_264 {p : Program} {l : Launch} {e : Env} {s : State} {m : MethodId} {args : Array Value} {below : List Frame} {meth : Method} {c : Code} {g : MG} (C : CC p s m args meth c yX12_rows cX12_rows 8 (some .int)) (K : mK g s) (G : mSep g)  : ∀ (q : Nat) (S : MS) (v2 : Int32) (v5 : Int32) (v6 : Int32) (v7 : Int32) (w : Int32 × MS), fX12_rows_264  q S v2 v5 v6 v7 = some w → MJ p l e s m args below meth c 8 3 g (some (.int w.1)) w.2 264 [(0, .ref (mo g)), (2, .int v2), (5, .int v5), (6, .int v6), (7, .int v7)] [] S := by
  intro q
  induction q with
  | zero => intro S v2 v5 v6 v7 w hv; exact absurd hv (by simp [fX12_rows_264])
  | succ q ih =>
    intro S v2 v5 v6 v7 w hv
    unfold fX12_rows_264 at hv
    refine jr_iload C dX12_rows_264 4 rfl ?_
    refine jr_aload_n C dX12_rows_266 rfl 0 rfl ?_
    refine jm_getA C K 7 (by decide) (by decide) kw_1442 rfl dX12_rows_267 ?_
    refine jr_iload C dX12_rows_270 2 rfl ?_
    by_cases z272 : inb v5 (mlA 7) = true
    case neg => exact op_none ((if_neg z272).symm.trans hv)
    have hv := (if_pos z272).symm.trans hv
    refine jm_iald C K z272 dX12_rows_272 ?_
    refine jr_icmp_ge (tgt := 312) C dX12_rows_273 rfl (fun q273 => ?_) (fun q273 => ?_)
    · have hv := (if_pos q273).symm.trans hv
      refine jr_aload_n C dX12_rows_312 rfl 0 rfl ?_
      refine jm_getA C K 5 (by decide) (by decide) kw_1440 rfl dX12_rows_313 ?_
      refine jr_iload_n C dX12_rows_316 rfl 1 rfl ?_
      refine jr_bipush (v := 15) C dX12_rows_317 (by decide) ?_
      refine jr_iand C dX12_rows_319 ?_
      refine jr_iload C dX12_rows_320 3 rfl ?_
      by_cases z322 : inb (v2 &&& 15) (mlA 5) = true
      case neg => exact op_none ((if_neg z322).symm.trans hv)
      have hv := (if_pos z322).symm.trans hv
      refine jm_iast C K G z322 dX12_rows_322 ?_
      exact jr_sub [] rfl (tX12_rows_323 C K G  (pA S 5 (ix (v2 &&& 15)) v6) hv)
    · have hv := (if_neg q273).symm.trans hv
      refine jr_aload_n C dX12_rows_276 rfl 0 rfl ?_
      refine jm_getA C K 9 (by decide) (by decide) kw_1444 rfl dX12_rows_277 ?_
      refine jr_aload_n C dX12_rows_280 rfl 0 rfl ?_
      refine jm_getA C K 8 (by decide) (by decide) kw_1443 rfl dX12_rows_281 ?_
      refine jr_iload C dX12_rows_284 3 rfl ?_
      by_cases z286 : inb v6 (mlA 8) = true
      case neg => exact op_none ((if_neg z286).symm.trans hv)
      have hv := (if_pos z286).symm.trans hv
      refine jm_iald C K z286 dX12_rows_286 ?_
      refine jr_iload C dX12_rows_287 4 rfl ?_
      refine jr_iadd C dX12_rows_289 ?_
      refine jr_aload_n C dX12_rows_290 rfl 0 rfl ?_
      refine jm_getA C K 9 (by decide) (by decide) kw_1444 rfl dX12_rows_291 ?_
      refine jr_aload_n C dX12_rows_294 rfl 0 rfl ?_
      refine jm_getA C K 8 (by decide) (by decide) kw_1443 rfl dX12_rows_295 ?_
      refine jr_iload C dX12_rows_298 2 rfl ?_
      by_cases z300 : inb v5 (mlA 8) = true
      case neg => exact op_none ((if_neg z300).symm.trans hv)
      have hv := (if_pos z300).symm.trans hv
      refine jm_iald C K z300 dX12_rows_300 ?_
      refine jr_iload C dX12_rows_301 4 rfl ?_
      refine jr_iadd C dX12_rows_303 ?_
      by_cases z304 : inb ((gA S 8 (ix v5)) + v7) (mlB 9) = true
      case neg => exact op_none ((if_neg z304).symm.trans hv)
      have hv := (if_pos z304).symm.trans hv
      refine jm_lald C K z304 dX12_rows_304 ?_
      by_cases z305 : inb ((gA S 8 (ix v6)) + v7) (mlB 9) = true
      case neg => exact op_none ((if_neg z305).symm.trans hv)
      have hv := (if_pos z305).symm.trans hv
      refine jm_last C K G z305 dX12_rows_305 ?_
      exact tX12_rows_306 C K G (fX12_rows_264  q) ih (pB S 9 (ix ((gA S 8 (ix v6)) + v7)) (gB S 9 (ix ((gA S 8 (ix v5)) + v7)))) v2 v5 v6 v7 hv
set_option maxRecDepth 100000 in
theorem tX12_rows_247 {p : Program} {l : Launch} {e : Env} {s : State} {m : MethodId} {args : Array Value} {below : List Frame} {meth : Method} {c : Code} {g : MG} (C : CC p s m args meth c yX12_rows cX12_rows 8 (some .int)) (K : mK g s) (G : mSep g)  (S : MS) (v2 : Int32) (v5 : Int32) {w : Int32 × MS} (hv : fX12_rows_247 S v2 v5 = some w) : MJ p l e s m args below meth c 8 3 g (some (.int w.1)) w.2 247 [(0, .ref (mo g)), (2, .int v2), (5, .int v5)] [] S := by
  unfold fX12_rows_247 at hv
  refine jr_aload_n C dX12_rows_247 rfl 0 rfl ?_
  refine jr_iconst (v := 4) C dX12_rows_248 (by decide) ?_
  refine jr_aload_n C dX12_rows_249 rfl 0 rfl ?_
  refine jm_getA C K 7 (by decide) (by decide) kw_1442 rfl dX12_rows_250 ?_
  refine jr_iload C dX12_rows_253 2 rfl ?_
  by_cases z255 : inb v5 (mlA 7) = true
  case neg => exact op_none ((if_neg z255).symm.trans hv)
  have hv := (if_pos z255).symm.trans hv
  refine jm_iald C K z255 dX12_rows_255 ?_
  obtain ⟨c256, hc256, hv⟩ := Option.bind_eq_some_iff.mp hv
  refine jm_call (rest := []) C K G (pX12_newRow l G S 4 (gA S 7 (ix v5)) hc256) oX12_newRow rfl kw_1351 rfl ⟨Nat.le_of_ble_eq_true rfl, Nat.le_of_ble_eq_true rfl⟩ rfl (Nat.le_of_ble_eq_true rfl) ⟨Nat.zero_le _, Nat.zero_le _⟩ dX12_rows_256 ?_
  refine jr_istore (lv' := [(6, .int c256.1), (0, .ref (mo g)), (2, .int v2), (5, .int v5)]) C dX12_rows_259 (by decide) rfl ?_
  refine jr_iconst (v := 0) C dX12_rows_261 (by decide) ?_
  refine jr_istore (lv' := [(7, .int 0), (6, .int c256.1), (0, .ref (mo g)), (2, .int v2), (5, .int v5)]) C dX12_rows_262 (by decide) rfl ?_
  exact jr_sub [2, 3, 4, 1, 0] rfl (tX12_rows_264 C K G  70 c256.2 v2 v5 c256.1 0 _ hv)
set_option maxRecDepth 100000 in
theorem tX12_rows_214 {p : Program} {l : Launch} {e : Env} {s : State} {m : MethodId} {args : Array Value} {below : List Frame} {meth : Method} {c : Code} {g : MG} (C : CC p s m args meth c yX12_rows cX12_rows 8 (some .int)) (K : mK g s) (G : mSep g)  (S : MS) (v2 : Int32) (v3 : Int32) {w : Int32 × MS} (hv : fX12_rows_214 S v2 v3 = some w) : MJ p l e s m args below meth c 8 3 g (some (.int w.1)) w.2 214 [(0, .ref (mo g)), (2, .int v2), (3, .int v3)] [] S := by
  unfold fX12_rows_214 at hv
  refine jr_aload_n C dX12_rows_214 rfl 0 rfl ?_
  refine jr_iload_n C dX12_rows_215 rfl 2 rfl ?_
  obtain ⟨c216, hc216, hv⟩ := Option.bind_eq_some_iff.mp hv
  refine jm_call (rest := []) C K G (pX12_kindOf l G S v3 hc216) oX12_kindOf rfl kw_1360 rfl ⟨Nat.le_of_ble_eq_true rfl, Nat.le_of_ble_eq_true rfl⟩ rfl (Nat.le_of_ble_eq_true rfl) ⟨Nat.zero_le _, Nat.zero_le _⟩ dX12_rows_216 ?_
  refine jr_iconst (v := (-1)) C dX12_rows_219 (by decide) ?_
  refine jr_icmp_ne (tgt := 225) C dX12_rows_220 rfl (fun q220 => ?_) (fun q220 => ?_)
  · have hv := (if_neg q220).symm.trans hv
    refine jr_aload_n C dX12_rows_225 rfl 0 rfl ?_
    refine jr_lconst (v := 1) C dX12_rows_226 (by decide) ?_
    obtain ⟨c227, hc227, hv⟩ := Option.bind_eq_some_iff.mp hv
    refine jm_call (rest := []) C K G (pX12_hasRoom l G c216.2 1 hc227) oX12_hasRoom rfl kw_1346 rfl ⟨Nat.le_of_ble_eq_true rfl, Nat.le_of_ble_eq_true rfl⟩ rfl (Nat.le_of_ble_eq_true rfl) ⟨Nat.zero_le _, Nat.zero_le _⟩ dX12_rows_227 ?_
    refine jr_if_ne (tgt := 236) C dX12_rows_230 rfl (fun q230 => ?_) (fun q230 => ?_)
    · have hv := (if_neg q230).symm.trans hv
      refine jr_aload_n C dX12_rows_236 rfl 0 rfl ?_
      refine jm_getA C K 5 (by decide) (by decide) kw_1440 rfl dX12_rows_237 ?_
      refine jr_iload_n C dX12_rows_240 rfl 2 rfl ?_
      refine jr_bipush (v := 15) C dX12_rows_241 (by decide) ?_
      refine jr_iand C dX12_rows_243 ?_
      by_cases z244 : inb (v3 &&& 15) (mlA 5) = true
      case neg => exact op_none ((if_neg z244).symm.trans hv)
      have hv := (if_pos z244).symm.trans hv
      refine jm_iald C K z244 dX12_rows_244 ?_
      refine jr_istore (lv' := [(5, .int (gA c227.2 5 (ix (v3 &&& 15)))), (0, .ref (mo g)), (2, .int v2), (3, .int v3)]) C dX12_rows_245 (by decide) rfl ?_
      exact jr_sub [1, 2, 0] rfl (tX12_rows_247 C K G  c227.2 v2 (gA c227.2 5 (ix (v3 &&& 15))) hv)
    · have hv := (if_pos q230).symm.trans hv
      refine jr_bipush (v := 8) C dX12_rows_233 (by decide) ?_
      exact jm_iret C K dX12_rows_235 (Option.some.inj hv)
  · have hv := (if_pos q220).symm.trans hv
    refine jr_iconst (v := 1) C dX12_rows_223 (by decide) ?_
    exact jm_iret C K dX12_rows_224 (Option.some.inj hv)
set_option maxRecDepth 100000 in
theorem tX12_rows_340 {p : Program} {l : Launch} {e : Env} {s : State} {m : MethodId} {args : Array Value} {below : List Frame} {meth : Method} {c : Code} {g : MG} (C : CC p s m args meth c yX12_rows cX12_rows 8 (some .int)) (K : mK g s) (G : mSep g)  (S : MS) {w : Int32 × MS} (hv : fX12_rows_340 S = some w) : MJ p l e s m args below meth c 8 3 g (some (.int w.1)) w.2 340 [] [] S := by
  unfold fX12_rows_340 at hv
  refine jr_iconst (v := 0) C dX12_rows_340 (by decide) ?_
  exact jm_iret C K dX12_rows_341 (Option.some.inj hv)
set_option maxRecDepth 100000 in
theorem tX12_rows_360 {p : Program} {l : Launch} {e : Env} {s : State} {m : MethodId} {args : Array Value} {below : List Frame} {meth : Method} {c : Code} {g : MG} (C : CC p s m args meth c yX12_rows cX12_rows 8 (some .int)) (K : mK g s) (G : mSep g)  (S : MS) {w : Int32 × MS} (hv : fX12_rows_360 S = some w) : MJ p l e s m args below meth c 8 3 g (some (.int w.1)) w.2 360 [] [] S := by
  unfold fX12_rows_360 at hv
  refine jr_iconst (v := 0) C dX12_rows_360 (by decide) ?_
  exact jm_iret C K dX12_rows_361 (Option.some.inj hv)
set_option maxRecDepth 100000 in
theorem tX12_rows_372 {p : Program} {l : Launch} {e : Env} {s : State} {m : MethodId} {args : Array Value} {below : List Frame} {meth : Method} {c : Code} {g : MG} (C : CC p s m args meth c yX12_rows cX12_rows 8 (some .int)) (K : mK g s) (G : mSep g)  (S : MS) {w : Int32 × MS} (hv : fX12_rows_372 S = some w) : MJ p l e s m args below meth c 8 3 g (some (.int w.1)) w.2 372 [] [] S := by
  unfold fX12_rows_372 at hv
  refine jr_iconst (v := 0) C dX12_rows_372 (by decide) ?_
  exact jm_iret C K dX12_rows_373 (Option.some.inj hv)
set_option maxRecDepth 100000 in
theorem tX12_rows_0 {p : Program} {l : Launch} {e : Env} {s : State} {m : MethodId} {args : Array Value} {below : List Frame} {meth : Method} {c : Code} {g : MG} (C : CC p s m args meth c yX12_rows cX12_rows 8 (some .int)) (K : mK g s) (G : mSep g)  (S : MS) (v1 : Int32) (v2 : Int32) (v3 : Int32) (v4 : Int32) {w : Int32 × MS} (hv : fX12_rows S v1 v2 v3 v4 = some w) : MJ p l e s m args below meth c 8 3 g (some (.int w.1)) w.2 0 [(0, .ref (mo g)), (1, .int v1), (2, .int v2), (3, .int v3), (4, .int v4)] [] S := by
  unfold fX12_rows at hv
  refine jr_iload_n C dX12_rows_0 rfl 1 rfl ?_
  by_cases q1_0 : v1 = 40
  · have hv := (if_pos q1_0).symm.trans hv
    refine jr_tableIn (off := 43) (tgt := 44) C dX12_rows_1 (by rw [q1_0]; decide) (by rw [q1_0]; decide) (by rw [q1_0]; rfl) rfl ?_
    exact tX12_rows_44 C K G  S v1 v2 v3 v4 hv
  have hv := (if_neg q1_0).symm.trans hv
  by_cases q1_1 : v1 = 41
  · have hv := (if_pos q1_1).symm.trans hv
    refine jr_tableIn (off := 43) (tgt := 44) C dX12_rows_1 (by rw [q1_1]; decide) (by rw [q1_1]; decide) (by rw [q1_1]; rfl) rfl ?_
    exact tX12_rows_44 C K G  S v1 v2 v3 v4 hv
  have hv := (if_neg q1_1).symm.trans hv
  by_cases q1_2 : v1 = 42
  · have hv := (if_pos q1_2).symm.trans hv
    refine jr_tableIn (off := 74) (tgt := 75) C dX12_rows_1 (by rw [q1_2]; decide) (by rw [q1_2]; decide) (by rw [q1_2]; rfl) rfl ?_
    refine jr_aload_n C dX12_rows_75 rfl 0 rfl ?_
    refine jr_iload_n C dX12_rows_76 rfl 3 rfl ?_
    obtain ⟨c77, hc77, hv⟩ := Option.bind_eq_some_iff.mp hv
    refine jm_call (rest := []) C K G (pX12_kindOf l G S v3 hc77) oX12_kindOf rfl kw_1360 rfl ⟨Nat.le_of_ble_eq_true rfl, Nat.le_of_ble_eq_true rfl⟩ rfl (Nat.le_of_ble_eq_true rfl) ⟨Nat.zero_le _, Nat.zero_le _⟩ dX12_rows_77 ?_
    refine jr_iconst (v := (-1)) C dX12_rows_80 (by decide) ?_
    refine jr_icmp_eq (tgt := 97) C dX12_rows_81 rfl (fun q81 => ?_) (fun q81 => ?_)
    · have hv := (if_pos q81).symm.trans hv
      exact jr_sub [0, 2, 3] rfl (tX12_rows_97 C K G  c77.2 v2 v3 hv)
    · have hv := (if_neg q81).symm.trans hv
      refine jr_aload_n C dX12_rows_84 rfl 0 rfl ?_
      refine jr_iload_n C dX12_rows_85 rfl 3 rfl ?_
      obtain ⟨c86, hc86, hv⟩ := Option.bind_eq_some_iff.mp hv
      refine jm_call (rest := []) C K G (pX12_kindOf l G c77.2 v3 hc86) oX12_kindOf rfl kw_1360 rfl ⟨Nat.le_of_ble_eq_true rfl, Nat.le_of_ble_eq_true rfl⟩ rfl (Nat.le_of_ble_eq_true rfl) ⟨Nat.zero_le _, Nat.zero_le _⟩ dX12_rows_86 ?_
      refine jr_pcall (rest := []) C (pX12_isRow l c86.1) oX12_isRow kw_1364 rfl ⟨Nat.le_of_ble_eq_true rfl, Nat.le_of_ble_eq_true rfl⟩ rfl (Nat.le_of_ble_eq_true rfl) ⟨Nat.zero_le _, Nat.zero_le _⟩ dX12_rows_89 ?_
      refine jr_if_ne (tgt := 97) C dX12_rows_92 rfl (fun q92 => ?_) (fun q92 => ?_)
      · have hv := (if_neg q92).symm.trans hv
        exact jr_sub [0, 2, 3] rfl (tX12_rows_97 C K G  c86.2 v2 v3 hv)
      · have hv := (if_pos q92).symm.trans hv
        refine jr_iconst (v := 2) C dX12_rows_95 (by decide) ?_
        exact jm_iret C K dX12_rows_96 (Option.some.inj hv)
  have hv := (if_neg q1_2).symm.trans hv
  by_cases q1_3 : v1 = 43
  · have hv := (if_pos q1_3).symm.trans hv
    refine jr_tableIn (off := 133) (tgt := 134) C dX12_rows_1 (by rw [q1_3]; decide) (by rw [q1_3]; decide) (by rw [q1_3]; rfl) rfl ?_
    refine jr_aload_n C dX12_rows_134 rfl 0 rfl ?_
    refine jr_aload_n C dX12_rows_135 rfl 0 rfl ?_
    refine jm_getA C K 5 (by decide) (by decide) kw_1440 rfl dX12_rows_136 ?_
    refine jr_iload_n C dX12_rows_139 rfl 2 rfl ?_
    refine jr_bipush (v := 15) C dX12_rows_140 (by decide) ?_
    refine jr_iand C dX12_rows_142 ?_
    by_cases z143 : inb (v2 &&& 15) (mlA 5) = true
    case neg => exact op_none ((if_neg z143).symm.trans hv)
    have hv := (if_pos z143).symm.trans hv
    refine jm_iald C K z143 dX12_rows_143 ?_
    refine jr_aload_n C dX12_rows_144 rfl 0 rfl ?_
    refine jm_getA C K 5 (by decide) (by decide) kw_1440 rfl dX12_rows_145 ?_
    refine jr_iload_n C dX12_rows_148 rfl 3 rfl ?_
    refine jr_bipush (v := 15) C dX12_rows_149 (by decide) ?_
    refine jr_iand C dX12_rows_151 ?_
    by_cases z152 : inb (v3 &&& 15) (mlA 5) = true
    case neg => exact op_none ((if_neg z152).symm.trans hv)
    have hv := (if_pos z152).symm.trans hv
    refine jm_iald C K z152 dX12_rows_152 ?_
    refine jr_aload_n C dX12_rows_153 rfl 0 rfl ?_
    refine jm_getA C K 3 (by decide) (by decide) kw_1438 rfl dX12_rows_154 ?_
    refine jr_iload C dX12_rows_157 4 rfl ?_
    refine jr_bipush (v := 15) C dX12_rows_159 (by decide) ?_
    refine jr_iand C dX12_rows_161 ?_
    by_cases z162 : inb (v4 &&& 15) (mlB 3) = true
    case neg => exact op_none ((if_neg z162).symm.trans hv)
    have hv := (if_pos z162).symm.trans hv
    refine jm_lald C K z162 dX12_rows_162 ?_
    refine jr_l2i C dX12_rows_163 ?_
    refine jr_aload_n C dX12_rows_164 rfl 0 rfl ?_
    refine jm_getA C K 3 (by decide) (by decide) kw_1438 rfl dX12_rows_165 ?_
    refine jr_iload C dX12_rows_168 4 rfl ?_
    refine jr_iconst (v := 1) C dX12_rows_170 (by decide) ?_
    refine jr_iadd C dX12_rows_171 ?_
    refine jr_bipush (v := 15) C dX12_rows_172 (by decide) ?_
    refine jr_iand C dX12_rows_174 ?_
    by_cases z175 : inb ((v4 + 1) &&& 15) (mlB 3) = true
    case neg => exact op_none ((if_neg z175).symm.trans hv)
    have hv := (if_pos z175).symm.trans hv
    refine jm_lald C K z175 dX12_rows_175 ?_
    refine jr_l2i C dX12_rows_176 ?_
    refine jr_aload_n C dX12_rows_177 rfl 0 rfl ?_
    refine jm_getA C K 3 (by decide) (by decide) kw_1438 rfl dX12_rows_178 ?_
    refine jr_iload C dX12_rows_181 4 rfl ?_
    refine jr_iconst (v := 2) C dX12_rows_183 (by decide) ?_
    refine jr_iadd C dX12_rows_184 ?_
    refine jr_bipush (v := 15) C dX12_rows_185 (by decide) ?_
    refine jr_iand C dX12_rows_187 ?_
    by_cases z188 : inb ((v4 + 2) &&& 15) (mlB 3) = true
    case neg => exact op_none ((if_neg z188).symm.trans hv)
    have hv := (if_pos z188).symm.trans hv
    refine jm_lald C K z188 dX12_rows_188 ?_
    refine jr_l2i C dX12_rows_189 ?_
    obtain ⟨c190, hc190, hv⟩ := Option.bind_eq_some_iff.mp hv
    refine jm_call (rest := []) C K G (pX12_copies l G S (gA S 5 (ix (v2 &&& 15))) (gA S 5 (ix (v3 &&& 15))) ((gB S 3 (ix (v4 &&& 15))).toInt32) ((gB S 3 (ix ((v4 + 1) &&& 15))).toInt32) ((gB S 3 (ix ((v4 + 2) &&& 15))).toInt32) hc190) oX12_copies rfl kw_1367 rfl ⟨Nat.le_of_ble_eq_true rfl, Nat.le_of_ble_eq_true rfl⟩ rfl (Nat.le_of_ble_eq_true rfl) ⟨Nat.zero_le _, Nat.zero_le _⟩ dX12_rows_190 ?_
    exact jm_iret C K dX12_rows_193 (Option.some.inj hv)
  have hv := (if_neg q1_3).symm.trans hv
  by_cases q1_4 : v1 = 44
  · have hv := (if_pos q1_4).symm.trans hv
    refine jr_tableIn (off := 193) (tgt := 194) C dX12_rows_1 (by rw [q1_4]; decide) (by rw [q1_4]; decide) (by rw [q1_4]; rfl) rfl ?_
    refine jr_aload_n C dX12_rows_194 rfl 0 rfl ?_
    refine jr_iload_n C dX12_rows_195 rfl 3 rfl ?_
    obtain ⟨c196, hc196, hv⟩ := Option.bind_eq_some_iff.mp hv
    refine jm_call (rest := []) C K G (pX12_kindOf l G S v3 hc196) oX12_kindOf rfl kw_1360 rfl ⟨Nat.le_of_ble_eq_true rfl, Nat.le_of_ble_eq_true rfl⟩ rfl (Nat.le_of_ble_eq_true rfl) ⟨Nat.zero_le _, Nat.zero_le _⟩ dX12_rows_196 ?_
    refine jr_iconst (v := (-1)) C dX12_rows_199 (by decide) ?_
    refine jr_icmp_eq (tgt := 214) C dX12_rows_200 rfl (fun q200 => ?_) (fun q200 => ?_)
    · have hv := (if_pos q200).symm.trans hv
      exact jr_sub [0, 2, 3] rfl (tX12_rows_214 C K G  c196.2 v2 v3 hv)
    · have hv := (if_neg q200).symm.trans hv
      refine jr_aload_n C dX12_rows_203 rfl 0 rfl ?_
      refine jr_iload_n C dX12_rows_204 rfl 3 rfl ?_
      obtain ⟨c205, hc205, hv⟩ := Option.bind_eq_some_iff.mp hv
      refine jm_call (rest := []) C K G (pX12_kindOf l G c196.2 v3 hc205) oX12_kindOf rfl kw_1360 rfl ⟨Nat.le_of_ble_eq_true rfl, Nat.le_of_ble_eq_true rfl⟩ rfl (Nat.le_of_ble_eq_true rfl) ⟨Nat.zero_le _, Nat.zero_le _⟩ dX12_rows_205 ?_
      refine jr_iconst (v := 4) C dX12_rows_208 (by decide) ?_
      refine jr_icmp_eq (tgt := 214) C dX12_rows_209 rfl (fun q209 => ?_) (fun q209 => ?_)
      · have hv := (if_pos q209).symm.trans hv
        exact jr_sub [0, 2, 3] rfl (tX12_rows_214 C K G  c205.2 v2 v3 hv)
      · have hv := (if_neg q209).symm.trans hv
        refine jr_iconst (v := 2) C dX12_rows_212 (by decide) ?_
        exact jm_iret C K dX12_rows_213 (Option.some.inj hv)
  have hv := (if_neg q1_4).symm.trans hv
  by_cases q1_5 : v1 = 45
  · have hv := (if_pos q1_5).symm.trans hv
    refine jr_tableIn (off := 324) (tgt := 325) C dX12_rows_1 (by rw [q1_5]; decide) (by rw [q1_5]; decide) (by rw [q1_5]; rfl) rfl ?_
    refine jr_aload_n C dX12_rows_325 rfl 0 rfl ?_
    refine jm_getA C K 3 (by decide) (by decide) kw_1438 rfl dX12_rows_326 ?_
    refine jr_iload_n C dX12_rows_329 rfl 2 rfl ?_
    refine jr_bipush (v := 15) C dX12_rows_330 (by decide) ?_
    refine jr_iand C dX12_rows_332 ?_
    refine jr_aload_n C dX12_rows_333 rfl 0 rfl ?_
    refine jr_iload_n C dX12_rows_334 rfl 3 rfl ?_
    obtain ⟨c335, hc335, hv⟩ := Option.bind_eq_some_iff.mp hv
    refine jm_call (rest := [.int (v2 &&& 15), .ref (mad g 3)]) C K G (pX12_kindOf l G S v3 hc335) oX12_kindOf rfl kw_1360 rfl ⟨Nat.le_of_ble_eq_true rfl, Nat.le_of_ble_eq_true rfl⟩ rfl (Nat.le_of_ble_eq_true rfl) ⟨Nat.zero_le _, Nat.zero_le _⟩ dX12_rows_335 ?_
    refine jr_i2l C dX12_rows_338 ?_
    by_cases z339 : inb (v2 &&& 15) (mlB 3) = true
    case neg => exact op_none ((if_neg z339).symm.trans hv)
    have hv := (if_pos z339).symm.trans hv
    refine jm_last C K G z339 dX12_rows_339 ?_
    exact jr_sub [] rfl (tX12_rows_340 C K G  (pB c335.2 3 (ix (v2 &&& 15)) c335.1.toInt64) hv)
  have hv := (if_neg q1_5).symm.trans hv
  by_cases q1_6 : v1 = 46
  · have hv := (if_pos q1_6).symm.trans hv
    refine jr_tableIn (off := 341) (tgt := 342) C dX12_rows_1 (by rw [q1_6]; decide) (by rw [q1_6]; decide) (by rw [q1_6]; rfl) rfl ?_
    refine jr_aload_n C dX12_rows_342 rfl 0 rfl ?_
    refine jm_getA C K 5 (by decide) (by decide) kw_1440 rfl dX12_rows_343 ?_
    refine jr_iload_n C dX12_rows_346 rfl 2 rfl ?_
    refine jr_bipush (v := 15) C dX12_rows_347 (by decide) ?_
    refine jr_iand C dX12_rows_349 ?_
    refine jr_aload_n C dX12_rows_350 rfl 0 rfl ?_
    refine jm_getA C K 5 (by decide) (by decide) kw_1440 rfl dX12_rows_351 ?_
    refine jr_iload_n C dX12_rows_354 rfl 3 rfl ?_
    refine jr_bipush (v := 15) C dX12_rows_355 (by decide) ?_
    refine jr_iand C dX12_rows_357 ?_
    by_cases z358 : inb (v3 &&& 15) (mlA 5) = true
    case neg => exact op_none ((if_neg z358).symm.trans hv)
    have hv := (if_pos z358).symm.trans hv
    refine jm_iald C K z358 dX12_rows_358 ?_
    by_cases z359 : inb (v2 &&& 15) (mlA 5) = true
    case neg => exact op_none ((if_neg z359).symm.trans hv)
    have hv := (if_pos z359).symm.trans hv
    refine jm_iast C K G z359 dX12_rows_359 ?_
    exact jr_sub [] rfl (tX12_rows_360 C K G  (pA S 5 (ix (v2 &&& 15)) (gA S 5 (ix (v3 &&& 15)))) hv)
  have hv := (if_neg q1_6).symm.trans hv
  refine jr_tableOut (tgt := 362) C dX12_rows_1 (by have := sw_ne (a := 40) q1_0 (by decide); have := sw_ne (a := 41) q1_1 (by decide); have := sw_ne (a := 42) q1_2 (by decide); have := sw_ne (a := 43) q1_3 (by decide); have := sw_ne (a := 44) q1_4 (by decide); have := sw_ne (a := 45) q1_5 (by decide); have := sw_ne (a := 46) q1_6 (by decide); omega) rfl ?_
  refine jr_aload_n C dX12_rows_362 rfl 0 rfl ?_
  refine jm_getA C K 5 (by decide) (by decide) kw_1440 rfl dX12_rows_363 ?_
  refine jr_iload_n C dX12_rows_366 rfl 2 rfl ?_
  refine jr_bipush (v := 15) C dX12_rows_367 (by decide) ?_
  refine jr_iand C dX12_rows_369 ?_
  refine jr_iconst (v := 0) C dX12_rows_370 (by decide) ?_
  by_cases z371 : inb (v2 &&& 15) (mlA 5) = true
  case neg => exact op_none ((if_neg z371).symm.trans hv)
  have hv := (if_pos z371).symm.trans hv
  refine jm_iast C K G z371 dX12_rows_371 ?_
  exact jr_sub [] rfl (tX12_rows_372 C K G  (pA S 5 (ix (v2 &&& 15)) 0) hv)
theorem pX12_rows (l : Launch) {g : MG} (G : mSep g) (S : MS) (v1 : Int32) (v2 : Int32) (v3 : Int32) (v4 : Int32) {w : Int32} {S' : MS} (hw : fX12_rows S v1 v2 v3 v4 = some (w, S')) : mC l yX12_rows cX12_rows 8 (some .int) 3 g [.ref (mo g), .int v1, .int v2, .int v3, .int v4] S (some (.int w)) S' := mC_of (by decide +kernel) (Nat.le_of_ble_eq_true rfl) rfl (fun C K => tX12_rows_0 C K G S v1 v2 v3 v4 hw)
/-! RobotCellModel.loads(IIII)I -/
def fX12_loads_83 (S : MS) : Option (Int32 × MS) :=
  some (3, S)
def fX12_loads_145 (S : MS) : Option (Int32 × MS) :=
  some (0, S)
def fX12_loads_133 (S : MS) : Option (Int32 × MS) :=
  fX12_loads_145 S
def fX12_loads_116 (S : MS) : Option (Int32 × MS) :=
  fX12_loads_145 S
def fX12_loads_102 (S : MS) (v1 : Int32) (v2 : Int32) (v8 : Int64) : Option (Int32 × MS) :=
  if 6 ≤ v1 then (if 8 ≤ v1 then (if inb v2 (mlA 5) = true then fX12_loads_145 (pA S 5 (ix v2) v8.toInt32) else none) else (if inb v2 (mlB 4) = true then fX12_loads_133 (pB S 4 (ix v2) v8) else none)) else (if inb v2 (mlB 3) = true then fX12_loads_116 (pB S 3 (ix v2) v8) else none)
def fX12_loads_66 (S : MS) (v1 : Int32) (v2 : Int32) (v6 : Int32) (v7 : Int32) : Option (Int32 × MS) :=
  if v7 < 0 then fX12_loads_83 S else (if inb v6 (mlA 7) = true then (if v7 < (gA S 7 (ix v6)) then (if inb v6 (mlA 8) = true then (if inb ((gA S 8 (ix v6)) + v7) (mlB 9) = true then fX12_loads_102 S v1 v2 (gB S 9 (ix ((gA S 8 (ix v6)) + v7))) else none) else none) else fX12_loads_83 S) else none)
def fX12_loads_53 (S : MS) (v1 : Int32) (v2 : Int32) (v4 : Int32) (v6 : Int32) : Option (Int32 × MS) :=
  if inb (v4 &&& 15) (mlB 3) = true then fX12_loads_66 S v1 v2 v6 ((gB S 3 (ix (v4 &&& 15))).toInt32) else none
def fX12_loads_34 (S : MS) (v1 : Int32) (v2 : Int32) (v3 : Int32) (v4 : Int32) (v5 : Int32) : Option (Int32 × MS) :=
  if v5 = (-1) then some (1, S) else (if inb (v3 &&& 15) (mlA 5) = true then fX12_loads_53 S v1 v2 v4 (gA S 5 (ix (v3 &&& 15))) else none)
def fX12_loads_32 (S : MS) : Option (Int32 × MS) :=
  some (2, S)
def fX12_loads (S : MS) (v1 : Int32) (v2 : Int32) (v3 : Int32) (v4 : Int32) : Option (Int32 × MS) :=
  Option.bind (fX12_kindOf S v3) (fun c2 => if c2.1 = (-1) then fX12_loads_34 c2.2 v1 v2 v3 v4 c2.1 else (if c2.1 = v1 then fX12_loads_34 c2.2 v1 v2 v3 v4 c2.1 else (if v1 = 8 then (if c2.1 = 9 then fX12_loads_34 c2.2 v1 v2 v3 v4 c2.1 else fX12_loads_32 c2.2) else fX12_loads_32 c2.2)))
theorem oX12_loads : ok_v yX12_loads cX12_loads 10 (some .int) 4 := ⟨kw_1381, kw_1380, kw_62, kw_73, by decide +kernel⟩
set_option maxRecDepth 100000 in
theorem tX12_loads_83 {p : Program} {l : Launch} {e : Env} {s : State} {m : MethodId} {args : Array Value} {below : List Frame} {meth : Method} {c : Code} {g : MG} (C : CC p s m args meth c yX12_loads cX12_loads 10 (some .int)) (K : mK g s) (G : mSep g)  (S : MS) {w : Int32 × MS} (hv : fX12_loads_83 S = some w) : MJ p l e s m args below meth c 10 1 g (some (.int w.1)) w.2 83 [] [] S := by
  unfold fX12_loads_83 at hv
  refine jr_iconst (v := 3) C dX12_loads_83 (by decide) ?_
  exact jm_iret C K dX12_loads_84 (Option.some.inj hv)
set_option maxRecDepth 100000 in
theorem tX12_loads_145 {p : Program} {l : Launch} {e : Env} {s : State} {m : MethodId} {args : Array Value} {below : List Frame} {meth : Method} {c : Code} {g : MG} (C : CC p s m args meth c yX12_loads cX12_loads 10 (some .int)) (K : mK g s) (G : mSep g)  (S : MS) {w : Int32 × MS} (hv : fX12_loads_145 S = some w) : MJ p l e s m args below meth c 10 1 g (some (.int w.1)) w.2 145 [] [] S := by
  unfold fX12_loads_145 at hv
  refine jr_iconst (v := 0) C dX12_loads_145 (by decide) ?_
  exact jm_iret C K dX12_loads_146 (Option.some.inj hv)
set_option maxRecDepth 100000 in
theorem tX12_loads_133 {p : Program} {l : Launch} {e : Env} {s : State} {m : MethodId} {args : Array Value} {below : List Frame} {meth : Method} {c : Code} {g : MG} (C : CC p s m args meth c yX12_loads cX12_loads 10 (some .int)) (K : mK g s) (G : mSep g)  (S : MS) {w : Int32 × MS} (hv : fX12_loads_133 S = some w) : MJ p l e s m args below meth c 10 1 g (some (.int w.1)) w.2 133 [] [] S := by
  unfold fX12_loads_133 at hv
  refine jr_goto (tgt := 145) C dX12_loads_133 rfl ?_
  exact tX12_loads_145 C K G  S hv
set_option maxRecDepth 100000 in
theorem tX12_loads_116 {p : Program} {l : Launch} {e : Env} {s : State} {m : MethodId} {args : Array Value} {below : List Frame} {meth : Method} {c : Code} {g : MG} (C : CC p s m args meth c yX12_loads cX12_loads 10 (some .int)) (K : mK g s) (G : mSep g)  (S : MS) {w : Int32 × MS} (hv : fX12_loads_116 S = some w) : MJ p l e s m args below meth c 10 1 g (some (.int w.1)) w.2 116 [] [] S := by
  unfold fX12_loads_116 at hv
  refine jr_goto (tgt := 145) C dX12_loads_116 rfl ?_
  exact tX12_loads_145 C K G  S hv
set_option maxRecDepth 100000 in
theorem tX12_loads_102 {p : Program} {l : Launch} {e : Env} {s : State} {m : MethodId} {args : Array Value} {below : List Frame} {meth : Method} {c : Code} {g : MG} (C : CC p s m args meth c yX12_loads cX12_loads 10 (some .int)) (K : mK g s) (G : mSep g)  (S : MS) (v1 : Int32) (v2 : Int32) (v8 : Int64) {w : Int32 × MS} (hv : fX12_loads_102 S v1 v2 v8 = some w) : MJ p l e s m args below meth c 10 1 g (some (.int w.1)) w.2 102 [(0, .ref (mo g)), (1, .int v1), (2, .int v2), (8, .long v8)] [] S := by
  unfold fX12_loads_102 at hv
  refine jr_iload_n C dX12_loads_102 rfl 1 rfl ?_
  refine jr_bipush (v := 6) C dX12_loads_103 (by decide) ?_
  refine jr_icmp_ge (tgt := 119) C dX12_loads_105 rfl (fun q105 => ?_) (fun q105 => ?_)
  · have hv := (if_pos q105).symm.trans hv
    refine jr_iload_n C dX12_loads_119 rfl 1 rfl ?_
    refine jr_bipush (v := 8) C dX12_loads_120 (by decide) ?_
    refine jr_icmp_ge (tgt := 136) C dX12_loads_122 rfl (fun q122 => ?_) (fun q122 => ?_)
    · have hv := (if_pos q122).symm.trans hv
      refine jr_aload_n C dX12_loads_136 rfl 0 rfl ?_
      refine jm_getA C K 5 (by decide) (by decide) kw_1440 rfl dX12_loads_137 ?_
      refine jr_iload_n C dX12_loads_140 rfl 2 rfl ?_
      refine jr_lload C dX12_loads_141 3 rfl ?_
      refine jr_l2i C dX12_loads_143 ?_
      by_cases z144 : inb v2 (mlA 5) = true
      case neg => exact op_none ((if_neg z144).symm.trans hv)
      have hv := (if_pos z144).symm.trans hv
      refine jm_iast C K G z144 dX12_loads_144 ?_
      exact jr_sub [] rfl (tX12_loads_145 C K G  (pA S 5 (ix v2) v8.toInt32) hv)
    · have hv := (if_neg q122).symm.trans hv
      refine jr_aload_n C dX12_loads_125 rfl 0 rfl ?_
      refine jm_getA C K 4 (by decide) (by decide) kw_1439 rfl dX12_loads_126 ?_
      refine jr_iload_n C dX12_loads_129 rfl 2 rfl ?_
      refine jr_lload C dX12_loads_130 3 rfl ?_
      by_cases z132 : inb v2 (mlB 4) = true
      case neg => exact op_none ((if_neg z132).symm.trans hv)
      have hv := (if_pos z132).symm.trans hv
      refine jm_last C K G z132 dX12_loads_132 ?_
      exact jr_sub [] rfl (tX12_loads_133 C K G  (pB S 4 (ix v2) v8) hv)
  · have hv := (if_neg q105).symm.trans hv
    refine jr_aload_n C dX12_loads_108 rfl 0 rfl ?_
    refine jm_getA C K 3 (by decide) (by decide) kw_1438 rfl dX12_loads_109 ?_
    refine jr_iload_n C dX12_loads_112 rfl 2 rfl ?_
    refine jr_lload C dX12_loads_113 3 rfl ?_
    by_cases z115 : inb v2 (mlB 3) = true
    case neg => exact op_none ((if_neg z115).symm.trans hv)
    have hv := (if_pos z115).symm.trans hv
    refine jm_last C K G z115 dX12_loads_115 ?_
    exact jr_sub [] rfl (tX12_loads_116 C K G  (pB S 3 (ix v2) v8) hv)
set_option maxRecDepth 100000 in
theorem tX12_loads_66 {p : Program} {l : Launch} {e : Env} {s : State} {m : MethodId} {args : Array Value} {below : List Frame} {meth : Method} {c : Code} {g : MG} (C : CC p s m args meth c yX12_loads cX12_loads 10 (some .int)) (K : mK g s) (G : mSep g)  (S : MS) (v1 : Int32) (v2 : Int32) (v6 : Int32) (v7 : Int32) {w : Int32 × MS} (hv : fX12_loads_66 S v1 v2 v6 v7 = some w) : MJ p l e s m args below meth c 10 1 g (some (.int w.1)) w.2 66 [(0, .ref (mo g)), (1, .int v1), (2, .int v2), (6, .int v6), (7, .int v7)] [] S := by
  unfold fX12_loads_66 at hv
  refine jr_iload C dX12_loads_66 4 rfl ?_
  refine jr_if_lt (tgt := 83) C dX12_loads_68 rfl (fun q68 => ?_) (fun q68 => ?_)
  · have hv := (if_pos q68).symm.trans hv
    exact jr_sub [] rfl (tX12_loads_83 C K G  S hv)
  · have hv := (if_neg q68).symm.trans hv
    refine jr_iload C dX12_loads_71 4 rfl ?_
    refine jr_aload_n C dX12_loads_73 rfl 0 rfl ?_
    refine jm_getA C K 7 (by decide) (by decide) kw_1442 rfl dX12_loads_74 ?_
    refine jr_iload C dX12_loads_77 3 rfl ?_
    by_cases z79 : inb v6 (mlA 7) = true
    case neg => exact op_none ((if_neg z79).symm.trans hv)
    have hv := (if_pos z79).symm.trans hv
    refine jm_iald C K z79 dX12_loads_79 ?_
    refine jr_icmp_lt (tgt := 85) C dX12_loads_80 rfl (fun q80 => ?_) (fun q80 => ?_)
    · have hv := (if_pos q80).symm.trans hv
      refine jr_aload_n C dX12_loads_85 rfl 0 rfl ?_
      refine jm_getA C K 9 (by decide) (by decide) kw_1444 rfl dX12_loads_86 ?_
      refine jr_aload_n C dX12_loads_89 rfl 0 rfl ?_
      refine jm_getA C K 8 (by decide) (by decide) kw_1443 rfl dX12_loads_90 ?_
      refine jr_iload C dX12_loads_93 3 rfl ?_
      by_cases z95 : inb v6 (mlA 8) = true
      case neg => exact op_none ((if_neg z95).symm.trans hv)
      have hv := (if_pos z95).symm.trans hv
      refine jm_iald C K z95 dX12_loads_95 ?_
      refine jr_iload C dX12_loads_96 4 rfl ?_
      refine jr_iadd C dX12_loads_98 ?_
      by_cases z99 : inb ((gA S 8 (ix v6)) + v7) (mlB 9) = true
      case neg => exact op_none ((if_neg z99).symm.trans hv)
      have hv := (if_pos z99).symm.trans hv
      refine jm_lald C K z99 dX12_loads_99 ?_
      refine jr_lstore (lv' := [(8, .long (gB S 9 (ix ((gA S 8 (ix v6)) + v7)))), (0, .ref (mo g)), (1, .int v1), (2, .int v2), (6, .int v6), (7, .int v7)]) C dX12_loads_100 (by decide) rfl ?_
      exact jr_sub [1, 2, 3, 0] rfl (tX12_loads_102 C K G  S v1 v2 (gB S 9 (ix ((gA S 8 (ix v6)) + v7))) hv)
    · have hv := (if_neg q80).symm.trans hv
      exact jr_sub [] rfl (tX12_loads_83 C K G  S hv)
set_option maxRecDepth 100000 in
theorem tX12_loads_53 {p : Program} {l : Launch} {e : Env} {s : State} {m : MethodId} {args : Array Value} {below : List Frame} {meth : Method} {c : Code} {g : MG} (C : CC p s m args meth c yX12_loads cX12_loads 10 (some .int)) (K : mK g s) (G : mSep g)  (S : MS) (v1 : Int32) (v2 : Int32) (v4 : Int32) (v6 : Int32) {w : Int32 × MS} (hv : fX12_loads_53 S v1 v2 v4 v6 = some w) : MJ p l e s m args below meth c 10 1 g (some (.int w.1)) w.2 53 [(0, .ref (mo g)), (1, .int v1), (2, .int v2), (4, .int v4), (6, .int v6)] [] S := by
  unfold fX12_loads_53 at hv
  refine jr_aload_n C dX12_loads_53 rfl 0 rfl ?_
  refine jm_getA C K 3 (by decide) (by decide) kw_1438 rfl dX12_loads_54 ?_
  refine jr_iload C dX12_loads_57 3 rfl ?_
  refine jr_bipush (v := 15) C dX12_loads_59 (by decide) ?_
  refine jr_iand C dX12_loads_61 ?_
  by_cases z62 : inb (v4 &&& 15) (mlB 3) = true
  case neg => exact op_none ((if_neg z62).symm.trans hv)
  have hv := (if_pos z62).symm.trans hv
  refine jm_lald C K z62 dX12_loads_62 ?_
  refine jr_l2i C dX12_loads_63 ?_
  refine jr_istore (lv' := [(7, .int ((gB S 3 (ix (v4 &&& 15))).toInt32)), (0, .ref (mo g)), (1, .int v1), (2, .int v2), (4, .int v4), (6, .int v6)]) C dX12_loads_64 (by decide) rfl ?_
  exact jr_sub [1, 2, 3, 5, 0] rfl (tX12_loads_66 C K G  S v1 v2 v6 ((gB S 3 (ix (v4 &&& 15))).toInt32) hv)
set_option maxRecDepth 100000 in
theorem tX12_loads_34 {p : Program} {l : Launch} {e : Env} {s : State} {m : MethodId} {args : Array Value} {below : List Frame} {meth : Method} {c : Code} {g : MG} (C : CC p s m args meth c yX12_loads cX12_loads 10 (some .int)) (K : mK g s) (G : mSep g)  (S : MS) (v1 : Int32) (v2 : Int32) (v3 : Int32) (v4 : Int32) (v5 : Int32) {w : Int32 × MS} (hv : fX12_loads_34 S v1 v2 v3 v4 v5 = some w) : MJ p l e s m args below meth c 10 1 g (some (.int w.1)) w.2 34 [(0, .ref (mo g)), (1, .int v1), (2, .int v2), (3, .int v3), (4, .int v4), (5, .int v5)] [] S := by
  unfold fX12_loads_34 at hv
  refine jr_iload C dX12_loads_34 5 rfl ?_
  refine jr_iconst (v := (-1)) C dX12_loads_36 (by decide) ?_
  refine jr_icmp_ne (tgt := 42) C dX12_loads_37 rfl (fun q37 => ?_) (fun q37 => ?_)
  · have hv := (if_neg q37).symm.trans hv
    refine jr_aload_n C dX12_loads_42 rfl 0 rfl ?_
    refine jm_getA C K 5 (by decide) (by decide) kw_1440 rfl dX12_loads_43 ?_
    refine jr_iload_n C dX12_loads_46 rfl 3 rfl ?_
    refine jr_bipush (v := 15) C dX12_loads_47 (by decide) ?_
    refine jr_iand C dX12_loads_49 ?_
    by_cases z50 : inb (v3 &&& 15) (mlA 5) = true
    case neg => exact op_none ((if_neg z50).symm.trans hv)
    have hv := (if_pos z50).symm.trans hv
    refine jm_iald C K z50 dX12_loads_50 ?_
    refine jr_istore (lv' := [(6, .int (gA S 5 (ix (v3 &&& 15)))), (0, .ref (mo g)), (1, .int v1), (2, .int v2), (3, .int v3), (4, .int v4), (5, .int v5)]) C dX12_loads_51 (by decide) rfl ?_
    exact jr_sub [1, 2, 3, 5, 0] rfl (tX12_loads_53 C K G  S v1 v2 v4 (gA S 5 (ix (v3 &&& 15))) hv)
  · have hv := (if_pos q37).symm.trans hv
    refine jr_iconst (v := 1) C dX12_loads_40 (by decide) ?_
    exact jm_iret C K dX12_loads_41 (Option.some.inj hv)
set_option maxRecDepth 100000 in
theorem tX12_loads_32 {p : Program} {l : Launch} {e : Env} {s : State} {m : MethodId} {args : Array Value} {below : List Frame} {meth : Method} {c : Code} {g : MG} (C : CC p s m args meth c yX12_loads cX12_loads 10 (some .int)) (K : mK g s) (G : mSep g)  (S : MS) {w : Int32 × MS} (hv : fX12_loads_32 S = some w) : MJ p l e s m args below meth c 10 1 g (some (.int w.1)) w.2 32 [] [] S := by
  unfold fX12_loads_32 at hv
  refine jr_iconst (v := 2) C dX12_loads_32 (by decide) ?_
  exact jm_iret C K dX12_loads_33 (Option.some.inj hv)
set_option maxRecDepth 100000 in
theorem tX12_loads_0 {p : Program} {l : Launch} {e : Env} {s : State} {m : MethodId} {args : Array Value} {below : List Frame} {meth : Method} {c : Code} {g : MG} (C : CC p s m args meth c yX12_loads cX12_loads 10 (some .int)) (K : mK g s) (G : mSep g)  (S : MS) (v1 : Int32) (v2 : Int32) (v3 : Int32) (v4 : Int32) {w : Int32 × MS} (hv : fX12_loads S v1 v2 v3 v4 = some w) : MJ p l e s m args below meth c 10 1 g (some (.int w.1)) w.2 0 [(0, .ref (mo g)), (1, .int v1), (2, .int v2), (3, .int v3), (4, .int v4)] [] S := by
  unfold fX12_loads at hv
  refine jr_aload_n C dX12_loads_0 rfl 0 rfl ?_
  refine jr_iload_n C dX12_loads_1 rfl 3 rfl ?_
  obtain ⟨c2, hc2, hv⟩ := Option.bind_eq_some_iff.mp hv
  refine jm_call (rest := []) C K G (pX12_kindOf l G S v3 hc2) oX12_kindOf rfl kw_1360 rfl ⟨Nat.le_of_ble_eq_true rfl, Nat.le_of_ble_eq_true rfl⟩ rfl (Nat.le_of_ble_eq_true rfl) ⟨Nat.zero_le _, Nat.zero_le _⟩ dX12_loads_2 ?_
  refine jr_istore (lv' := [(5, .int c2.1), (0, .ref (mo g)), (1, .int v1), (2, .int v2), (3, .int v3), (4, .int v4)]) C dX12_loads_5 (by decide) rfl ?_
  refine jr_iload C dX12_loads_7 0 rfl ?_
  refine jr_iconst (v := (-1)) C dX12_loads_9 (by decide) ?_
  refine jr_icmp_eq (tgt := 34) C dX12_loads_10 rfl (fun q10 => ?_) (fun q10 => ?_)
  · have hv := (if_pos q10).symm.trans hv
    exact jr_sub [1, 2, 3, 4, 5, 0] rfl (tX12_loads_34 C K G  c2.2 v1 v2 v3 v4 c2.1 hv)
  · have hv := (if_neg q10).symm.trans hv
    refine jr_iload C dX12_loads_13 0 rfl ?_
    refine jr_iload_n C dX12_loads_15 rfl 2 rfl ?_
    refine jr_icmp_eq (tgt := 34) C dX12_loads_16 rfl (fun q16 => ?_) (fun q16 => ?_)
    · have hv := (if_pos q16).symm.trans hv
      exact jr_sub [1, 2, 3, 4, 5, 0] rfl (tX12_loads_34 C K G  c2.2 v1 v2 v3 v4 c2.1 hv)
    · have hv := (if_neg q16).symm.trans hv
      refine jr_iload_n C dX12_loads_19 rfl 2 rfl ?_
      refine jr_bipush (v := 8) C dX12_loads_20 (by decide) ?_
      refine jr_icmp_ne (tgt := 32) C dX12_loads_22 rfl (fun q22 => ?_) (fun q22 => ?_)
      · have hv := (if_neg q22).symm.trans hv
        exact jr_sub [] rfl (tX12_loads_32 C K G  c2.2 hv)
      · have hv := (if_pos q22).symm.trans hv
        refine jr_iload C dX12_loads_25 0 rfl ?_
        refine jr_bipush (v := 9) C dX12_loads_27 (by decide) ?_
        refine jr_icmp_eq (tgt := 34) C dX12_loads_29 rfl (fun q29 => ?_) (fun q29 => ?_)
        · have hv := (if_pos q29).symm.trans hv
          exact jr_sub [1, 2, 3, 4, 5, 0] rfl (tX12_loads_34 C K G  c2.2 v1 v2 v3 v4 c2.1 hv)
        · have hv := (if_neg q29).symm.trans hv
          exact jr_sub [] rfl (tX12_loads_32 C K G  c2.2 hv)
theorem pX12_loads (l : Launch) {g : MG} (G : mSep g) (S : MS) (v1 : Int32) (v2 : Int32) (v3 : Int32) (v4 : Int32) {w : Int32} {S' : MS} (hw : fX12_loads S v1 v2 v3 v4 = some (w, S')) : mC l yX12_loads cX12_loads 10 (some .int) 1 g [.ref (mo g), .int v1, .int v2, .int v3, .int v4] S (some (.int w)) S' := mC_of (by decide +kernel) (Nat.le_of_ble_eq_true rfl) rfl (fun C K => tX12_loads_0 C K G S v1 v2 v3 v4 hw)
/-! RobotCellModel.stores(IIII)I -/
def fX12_stores_143 (S : MS) : Option (Int32 × MS) :=
  some (3, S)
def fX12_stores_311 (S : MS) : Option (Int32 × MS) :=
  some (0, S)
def fX12_stores_310 (S : MS) (t0 : Nat) (t1 : Int32) (t2 : Int64) : Option (Int32 × MS) :=
  if inb t1 (mlB t0) = true then fX12_stores_311 (pB S t0 (ix t1) t2) else none
def fX12_stores_175 (S : MS) (v1 : Int32) (v2 : Int32) (v7 : Int32) (v8 : Int32) (v9 : Int64) : Option (Int32 × MS) :=
  if inb v7 (mlA 8) = true then (if v1 = 0 then (if v9 = 0 then fX12_stores_310 S 9 ((gA S 8 (ix v7)) + v8) 0 else fX12_stores_310 S 9 ((gA S 8 (ix v7)) + v8) 1) else (if v1 = 1 then fX12_stores_310 S 9 ((gA S 8 (ix v7)) + v8) (v9 &&& 65535) else (if v1 = 2 then fX12_stores_310 S 9 ((gA S 8 (ix v7)) + v8) v9.toInt32.toInt8.toInt32.toInt64 else (if v1 = 3 then fX12_stores_310 S 9 ((gA S 8 (ix v7)) + v8) v9.toInt32.toInt16.toInt32.toInt64 else (if v1 = 4 then fX12_stores_310 S 9 ((gA S 8 (ix v7)) + v8) v9.toInt32.toInt64 else (if v1 = 5 then fX12_stores_310 S 9 ((gA S 8 (ix v7)) + v8) v9 else (if v1 = 6 then (if inb v2 (mlB 4) = true then (Option.bind (fX12_small (gB S 4 (ix v2))) (fun c282 => fX12_stores_310 S 9 ((gA S 8 (ix v7)) + v8) c282)) else none) else (if v1 = 7 then (if inb v2 (mlB 4) = true then fX12_stores_310 S 9 ((gA S 8 (ix v7)) + v8) (gB S 4 (ix v2)) else none) else (if inb v2 (mlA 5) = true then fX12_stores_310 S 9 ((gA S 8 (ix v7)) + v8) ((gA S 5 (ix v2)).toInt64) else none))))))))) else none
def fX12_stores_167 (S : MS) (v1 : Int32) (v2 : Int32) (v7 : Int32) (v8 : Int32) : Option (Int32 × MS) :=
  if inb v2 (mlB 3) = true then fX12_stores_175 S v1 v2 v7 v8 (gB S 3 (ix v2)) else none
def fX12_stores_126 (S : MS) (v1 : Int32) (v2 : Int32) (v5 : Int32) (v6 : Int32) (v7 : Int32) (v8 : Int32) : Option (Int32 × MS) :=
  if v8 < 0 then fX12_stores_143 S else (if inb v7 (mlA 7) = true then (if v8 < (gA S 7 (ix v7)) then (if v1 = 8 then (if v6 = 9 then (if v5 = 11 then some (5, S) else fX12_stores_167 S v1 v2 v7 v8) else fX12_stores_167 S v1 v2 v7 v8) else fX12_stores_167 S v1 v2 v7 v8) else fX12_stores_143 S) else none)
def fX12_stores_113 (S : MS) (v1 : Int32) (v2 : Int32) (v4 : Int32) (v5 : Int32) (v6 : Int32) (v7 : Int32) : Option (Int32 × MS) :=
  if inb (v4 &&& 15) (mlB 3) = true then fX12_stores_126 S v1 v2 v5 v6 v7 ((gB S 3 (ix (v4 &&& 15))).toInt32) else none
def fX12_stores_94 (S : MS) (v1 : Int32) (v2 : Int32) (v3 : Int32) (v4 : Int32) (v5 : Int32) (v6 : Int32) : Option (Int32 × MS) :=
  if v6 = (-1) then some (1, S) else (if inb (v3 &&& 15) (mlA 5) = true then fX12_stores_113 S v1 v2 v4 v5 v6 (gA S 5 (ix (v3 &&& 15))) else none)
def fX12_stores_92 (S : MS) : Option (Int32 × MS) :=
  some (2, S)
def fX12_stores_60 (S : MS) (v1 : Int32) (v2 : Int32) (v3 : Int32) (v4 : Int32) (v5 : Int32) : Option (Int32 × MS) :=
  Option.bind (fX12_kindOf S v3) (fun c62 => if c62.1 = (-1) then fX12_stores_94 c62.2 v1 v2 v3 v4 v5 c62.1 else (if c62.1 = v1 then fX12_stores_94 c62.2 v1 v2 v3 v4 v5 c62.1 else (if v1 = 8 then (if c62.1 = 9 then fX12_stores_94 c62.2 v1 v2 v3 v4 v5 c62.1 else fX12_stores_92 c62.2) else fX12_stores_92 c62.2)))
def fX12_stores_58 (S : MS) : Option (Int32 × MS) :=
  some (2, S)
def fX12_stores (S : MS) (v1 : Int32) (v2 : Int32) (v3 : Int32) (v4 : Int32) : Option (Int32 × MS) :=
  Option.bind (fX12_kindOf S v2) (fun c2 => if v1 ≤ 7 then fX12_stores_60 c2.2 v1 v2 v3 v4 c2.1 else (if c2.1 = (-1) then fX12_stores_60 c2.2 v1 v2 v3 v4 c2.1 else (if v1 = 8 then (if (fX12_isPose c2.1) = 0 then fX12_stores_58 c2.2 else fX12_stores_60 c2.2 v1 v2 v3 v4 c2.1) else (if v1 = 9 then (if c2.1 = 12 then fX12_stores_60 c2.2 v1 v2 v3 v4 c2.1 else fX12_stores_58 c2.2) else (if c2.1 = 4 then fX12_stores_60 c2.2 v1 v2 v3 v4 c2.1 else fX12_stores_58 c2.2)))))
theorem oX12_stores : ok_v yX12_stores cX12_stores 11 (some .int) 4 := ⟨kw_1385, kw_1384, kw_63, kw_73, by decide +kernel⟩
set_option maxRecDepth 100000 in
theorem tX12_stores_143 {p : Program} {l : Launch} {e : Env} {s : State} {m : MethodId} {args : Array Value} {below : List Frame} {meth : Method} {c : Code} {g : MG} (C : CC p s m args meth c yX12_stores cX12_stores 11 (some .int)) (K : mK g s) (G : mSep g)  (S : MS) {w : Int32 × MS} (hv : fX12_stores_143 S = some w) : MJ p l e s m args below meth c 11 3 g (some (.int w.1)) w.2 143 [] [] S := by
  unfold fX12_stores_143 at hv
  refine jr_iconst (v := 3) C dX12_stores_143 (by decide) ?_
  exact jm_iret C K dX12_stores_144 (Option.some.inj hv)
set_option maxRecDepth 100000 in
theorem tX12_stores_311 {p : Program} {l : Launch} {e : Env} {s : State} {m : MethodId} {args : Array Value} {below : List Frame} {meth : Method} {c : Code} {g : MG} (C : CC p s m args meth c yX12_stores cX12_stores 11 (some .int)) (K : mK g s) (G : mSep g)  (S : MS) {w : Int32 × MS} (hv : fX12_stores_311 S = some w) : MJ p l e s m args below meth c 11 3 g (some (.int w.1)) w.2 311 [] [] S := by
  unfold fX12_stores_311 at hv
  refine jr_iconst (v := 0) C dX12_stores_311 (by decide) ?_
  exact jm_iret C K dX12_stores_312 (Option.some.inj hv)
set_option maxRecDepth 100000 in
theorem tX12_stores_310 {p : Program} {l : Launch} {e : Env} {s : State} {m : MethodId} {args : Array Value} {below : List Frame} {meth : Method} {c : Code} {g : MG} (C : CC p s m args meth c yX12_stores cX12_stores 11 (some .int)) (K : mK g s) (G : mSep g)  (S : MS) (t0 : Nat) (t1 : Int32) (t2 : Int64) {w : Int32 × MS} (hv : fX12_stores_310 S t0 t1 t2 = some w) : MJ p l e s m args below meth c 11 3 g (some (.int w.1)) w.2 310 [] [.long t2, .int t1, .ref (mad g t0)] S := by
  unfold fX12_stores_310 at hv
  by_cases z310 : inb t1 (mlB t0) = true
  case neg => exact op_none ((if_neg z310).symm.trans hv)
  have hv := (if_pos z310).symm.trans hv
  refine jm_last C K G z310 dX12_stores_310 ?_
  exact tX12_stores_311 C K G  (pB S t0 (ix t1) t2) hv
set_option maxRecDepth 100000 in
theorem tX12_stores_175 {p : Program} {l : Launch} {e : Env} {s : State} {m : MethodId} {args : Array Value} {below : List Frame} {meth : Method} {c : Code} {g : MG} (C : CC p s m args meth c yX12_stores cX12_stores 11 (some .int)) (K : mK g s) (G : mSep g)  (S : MS) (v1 : Int32) (v2 : Int32) (v7 : Int32) (v8 : Int32) (v9 : Int64) {w : Int32 × MS} (hv : fX12_stores_175 S v1 v2 v7 v8 v9 = some w) : MJ p l e s m args below meth c 11 3 g (some (.int w.1)) w.2 175 [(0, .ref (mo g)), (1, .int v1), (2, .int v2), (7, .int v7), (8, .int v8), (9, .long v9)] [] S := by
  unfold fX12_stores_175 at hv
  refine jr_aload_n C dX12_stores_175 rfl 0 rfl ?_
  refine jm_getA C K 9 (by decide) (by decide) kw_1444 rfl dX12_stores_176 ?_
  refine jr_aload_n C dX12_stores_179 rfl 0 rfl ?_
  refine jm_getA C K 8 (by decide) (by decide) kw_1443 rfl dX12_stores_180 ?_
  refine jr_iload C dX12_stores_183 3 rfl ?_
  by_cases z185 : inb v7 (mlA 8) = true
  case neg => exact op_none ((if_neg z185).symm.trans hv)
  have hv := (if_pos z185).symm.trans hv
  refine jm_iald C K z185 dX12_stores_185 ?_
  refine jr_iload C dX12_stores_186 4 rfl ?_
  refine jr_iadd C dX12_stores_188 ?_
  refine jr_iload_n C dX12_stores_189 rfl 1 rfl ?_
  refine jr_if_ne (tgt := 208) C dX12_stores_190 rfl (fun q190 => ?_) (fun q190 => ?_)
  · have hv := (if_neg q190).symm.trans hv
    refine jr_iload_n C dX12_stores_208 rfl 1 rfl ?_
    refine jr_iconst (v := 1) C dX12_stores_209 (by decide) ?_
    refine jr_icmp_ne (tgt := 222) C dX12_stores_210 rfl (fun q210 => ?_) (fun q210 => ?_)
    · have hv := (if_neg q210).symm.trans hv
      refine jr_iload_n C dX12_stores_222 rfl 1 rfl ?_
      refine jr_iconst (v := 2) C dX12_stores_223 (by decide) ?_
      refine jr_icmp_ne (tgt := 235) C dX12_stores_224 rfl (fun q224 => ?_) (fun q224 => ?_)
      · have hv := (if_neg q224).symm.trans hv
        refine jr_iload_n C dX12_stores_235 rfl 1 rfl ?_
        refine jr_iconst (v := 3) C dX12_stores_236 (by decide) ?_
        refine jr_icmp_ne (tgt := 248) C dX12_stores_237 rfl (fun q237 => ?_) (fun q237 => ?_)
        · have hv := (if_neg q237).symm.trans hv
          refine jr_iload_n C dX12_stores_248 rfl 1 rfl ?_
          refine jr_iconst (v := 4) C dX12_stores_249 (by decide) ?_
          refine jr_icmp_ne (tgt := 260) C dX12_stores_250 rfl (fun q250 => ?_) (fun q250 => ?_)
          · have hv := (if_neg q250).symm.trans hv
            refine jr_iload_n C dX12_stores_260 rfl 1 rfl ?_
            refine jr_iconst (v := 5) C dX12_stores_261 (by decide) ?_
            refine jr_icmp_ne (tgt := 270) C dX12_stores_262 rfl (fun q262 => ?_) (fun q262 => ?_)
            · have hv := (if_neg q262).symm.trans hv
              refine jr_iload_n C dX12_stores_270 rfl 1 rfl ?_
              refine jr_bipush (v := 6) C dX12_stores_271 (by decide) ?_
              refine jr_icmp_ne (tgt := 288) C dX12_stores_273 rfl (fun q273 => ?_) (fun q273 => ?_)
              · have hv := (if_neg q273).symm.trans hv
                refine jr_iload_n C dX12_stores_288 rfl 1 rfl ?_
                refine jr_bipush (v := 7) C dX12_stores_289 (by decide) ?_
                refine jr_icmp_ne (tgt := 303) C dX12_stores_291 rfl (fun q291 => ?_) (fun q291 => ?_)
                · have hv := (if_neg q291).symm.trans hv
                  refine jr_aload_n C dX12_stores_303 rfl 0 rfl ?_
                  refine jm_getA C K 5 (by decide) (by decide) kw_1440 rfl dX12_stores_304 ?_
                  refine jr_iload_n C dX12_stores_307 rfl 2 rfl ?_
                  by_cases z308 : inb v2 (mlA 5) = true
                  case neg => exact op_none ((if_neg z308).symm.trans hv)
                  have hv := (if_pos z308).symm.trans hv
                  refine jm_iald C K z308 dX12_stores_308 ?_
                  refine jr_i2l C dX12_stores_309 ?_
                  exact jr_sub [] rfl (tX12_stores_310 C K G  S 9 ((gA S 8 (ix v7)) + v8) ((gA S 5 (ix v2)).toInt64) hv)
                · have hv := (if_pos q291).symm.trans hv
                  refine jr_aload_n C dX12_stores_294 rfl 0 rfl ?_
                  refine jm_getA C K 4 (by decide) (by decide) kw_1439 rfl dX12_stores_295 ?_
                  refine jr_iload_n C dX12_stores_298 rfl 2 rfl ?_
                  by_cases z299 : inb v2 (mlB 4) = true
                  case neg => exact op_none ((if_neg z299).symm.trans hv)
                  have hv := (if_pos z299).symm.trans hv
                  refine jm_lald C K z299 dX12_stores_299 ?_
                  refine jr_goto (tgt := 310) C dX12_stores_300 rfl ?_
                  exact jr_sub [] rfl (tX12_stores_310 C K G  S 9 ((gA S 8 (ix v7)) + v8) (gB S 4 (ix v2)) hv)
              · have hv := (if_pos q273).symm.trans hv
                refine jr_aload_n C dX12_stores_276 rfl 0 rfl ?_
                refine jm_getA C K 4 (by decide) (by decide) kw_1439 rfl dX12_stores_277 ?_
                refine jr_iload_n C dX12_stores_280 rfl 2 rfl ?_
                by_cases z281 : inb v2 (mlB 4) = true
                case neg => exact op_none ((if_neg z281).symm.trans hv)
                have hv := (if_pos z281).symm.trans hv
                refine jm_lald C K z281 dX12_stores_281 ?_
                obtain ⟨c282, hc282, hv⟩ := Option.bind_eq_some_iff.mp hv
                refine jr_pcall (rest := [.int ((gA S 8 (ix v7)) + v8), .ref (mad g 9)]) C (pX12_small l (gB S 4 (ix v2)) hc282) oX12_small kw_1293 rfl ⟨Nat.le_of_ble_eq_true rfl, Nat.le_of_ble_eq_true rfl⟩ rfl (Nat.le_of_ble_eq_true rfl) ⟨Nat.zero_le _, Nat.zero_le _⟩ dX12_stores_282 ?_
                refine jr_goto (tgt := 310) C dX12_stores_285 rfl ?_
                exact jr_sub [] rfl (tX12_stores_310 C K G  S 9 ((gA S 8 (ix v7)) + v8) c282 hv)
            · have hv := (if_pos q262).symm.trans hv
              refine jr_lload C dX12_stores_265 5 rfl ?_
              refine jr_goto (tgt := 310) C dX12_stores_267 rfl ?_
              exact jr_sub [] rfl (tX12_stores_310 C K G  S 9 ((gA S 8 (ix v7)) + v8) v9 hv)
          · have hv := (if_pos q250).symm.trans hv
            refine jr_lload C dX12_stores_253 5 rfl ?_
            refine jr_l2i C dX12_stores_255 ?_
            refine jr_i2l C dX12_stores_256 ?_
            refine jr_goto (tgt := 310) C dX12_stores_257 rfl ?_
            exact jr_sub [] rfl (tX12_stores_310 C K G  S 9 ((gA S 8 (ix v7)) + v8) v9.toInt32.toInt64 hv)
        · have hv := (if_pos q237).symm.trans hv
          refine jr_lload C dX12_stores_240 5 rfl ?_
          refine jr_l2i C dX12_stores_242 ?_
          refine jr_i2s C dX12_stores_243 ?_
          refine jr_i2l C dX12_stores_244 ?_
          refine jr_goto (tgt := 310) C dX12_stores_245 rfl ?_
          exact jr_sub [] rfl (tX12_stores_310 C K G  S 9 ((gA S 8 (ix v7)) + v8) v9.toInt32.toInt16.toInt32.toInt64 hv)
      · have hv := (if_pos q224).symm.trans hv
        refine jr_lload C dX12_stores_227 5 rfl ?_
        refine jr_l2i C dX12_stores_229 ?_
        refine jr_i2b C dX12_stores_230 ?_
        refine jr_i2l C dX12_stores_231 ?_
        refine jr_goto (tgt := 310) C dX12_stores_232 rfl ?_
        exact jr_sub [] rfl (tX12_stores_310 C K G  S 9 ((gA S 8 (ix v7)) + v8) v9.toInt32.toInt8.toInt32.toInt64 hv)
    · have hv := (if_pos q210).symm.trans hv
      refine jr_lload C dX12_stores_213 5 rfl ?_
      refine jr_ldc2 C kw_1386 dX12_stores_215 ?_
      refine jr_land C dX12_stores_218 ?_
      refine jr_goto (tgt := 310) C dX12_stores_219 rfl ?_
      exact jr_sub [] rfl (tX12_stores_310 C K G  S 9 ((gA S 8 (ix v7)) + v8) (v9 &&& 65535) hv)
  · have hv := (if_pos q190).symm.trans hv
    refine jr_lload C dX12_stores_193 5 rfl ?_
    refine jr_lconst (v := 0) C dX12_stores_195 (by decide) ?_
    refine jr_lcmp_eq (tgt := 204) C dX12_stores_196 dX12_stores_197 rfl (fun q196 => ?_) (fun q196 => ?_)
    · have hv := (if_pos q196).symm.trans hv
      refine jr_lconst (v := 0) C dX12_stores_204 (by decide) ?_
      refine jr_goto (tgt := 310) C dX12_stores_205 rfl ?_
      exact jr_sub [] rfl (tX12_stores_310 C K G  S 9 ((gA S 8 (ix v7)) + v8) 0 hv)
    · have hv := (if_neg q196).symm.trans hv
      refine jr_lconst (v := 1) C dX12_stores_200 (by decide) ?_
      refine jr_goto (tgt := 310) C dX12_stores_201 rfl ?_
      exact jr_sub [] rfl (tX12_stores_310 C K G  S 9 ((gA S 8 (ix v7)) + v8) 1 hv)
set_option maxRecDepth 100000 in
theorem tX12_stores_167 {p : Program} {l : Launch} {e : Env} {s : State} {m : MethodId} {args : Array Value} {below : List Frame} {meth : Method} {c : Code} {g : MG} (C : CC p s m args meth c yX12_stores cX12_stores 11 (some .int)) (K : mK g s) (G : mSep g)  (S : MS) (v1 : Int32) (v2 : Int32) (v7 : Int32) (v8 : Int32) {w : Int32 × MS} (hv : fX12_stores_167 S v1 v2 v7 v8 = some w) : MJ p l e s m args below meth c 11 3 g (some (.int w.1)) w.2 167 [(0, .ref (mo g)), (1, .int v1), (2, .int v2), (7, .int v7), (8, .int v8)] [] S := by
  unfold fX12_stores_167 at hv
  refine jr_aload_n C dX12_stores_167 rfl 0 rfl ?_
  refine jm_getA C K 3 (by decide) (by decide) kw_1438 rfl dX12_stores_168 ?_
  refine jr_iload_n C dX12_stores_171 rfl 2 rfl ?_
  by_cases z172 : inb v2 (mlB 3) = true
  case neg => exact op_none ((if_neg z172).symm.trans hv)
  have hv := (if_pos z172).symm.trans hv
  refine jm_lald C K z172 dX12_stores_172 ?_
  refine jr_lstore (lv' := [(9, .long (gB S 3 (ix v2))), (0, .ref (mo g)), (1, .int v1), (2, .int v2), (7, .int v7), (8, .int v8)]) C dX12_stores_173 (by decide) rfl ?_
  exact jr_sub [1, 2, 3, 4, 5, 0] rfl (tX12_stores_175 C K G  S v1 v2 v7 v8 (gB S 3 (ix v2)) hv)
set_option maxRecDepth 100000 in
theorem tX12_stores_126 {p : Program} {l : Launch} {e : Env} {s : State} {m : MethodId} {args : Array Value} {below : List Frame} {meth : Method} {c : Code} {g : MG} (C : CC p s m args meth c yX12_stores cX12_stores 11 (some .int)) (K : mK g s) (G : mSep g)  (S : MS) (v1 : Int32) (v2 : Int32) (v5 : Int32) (v6 : Int32) (v7 : Int32) (v8 : Int32) {w : Int32 × MS} (hv : fX12_stores_126 S v1 v2 v5 v6 v7 v8 = some w) : MJ p l e s m args below meth c 11 3 g (some (.int w.1)) w.2 126 [(0, .ref (mo g)), (1, .int v1), (2, .int v2), (5, .int v5), (6, .int v6), (7, .int v7), (8, .int v8)] [] S := by
  unfold fX12_stores_126 at hv
  refine jr_iload C dX12_stores_126 6 rfl ?_
  refine jr_if_lt (tgt := 143) C dX12_stores_128 rfl (fun q128 => ?_) (fun q128 => ?_)
  · have hv := (if_pos q128).symm.trans hv
    exact jr_sub [] rfl (tX12_stores_143 C K G  S hv)
  · have hv := (if_neg q128).symm.trans hv
    refine jr_iload C dX12_stores_131 6 rfl ?_
    refine jr_aload_n C dX12_stores_133 rfl 0 rfl ?_
    refine jm_getA C K 7 (by decide) (by decide) kw_1442 rfl dX12_stores_134 ?_
    refine jr_iload C dX12_stores_137 5 rfl ?_
    by_cases z139 : inb v7 (mlA 7) = true
    case neg => exact op_none ((if_neg z139).symm.trans hv)
    have hv := (if_pos z139).symm.trans hv
    refine jm_iald C K z139 dX12_stores_139 ?_
    refine jr_icmp_lt (tgt := 145) C dX12_stores_140 rfl (fun q140 => ?_) (fun q140 => ?_)
    · have hv := (if_pos q140).symm.trans hv
      refine jr_iload_n C dX12_stores_145 rfl 1 rfl ?_
      refine jr_bipush (v := 8) C dX12_stores_146 (by decide) ?_
      refine jr_icmp_ne (tgt := 167) C dX12_stores_148 rfl (fun q148 => ?_) (fun q148 => ?_)
      · have hv := (if_neg q148).symm.trans hv
        exact jr_sub [0, 1, 2, 5, 6] rfl (tX12_stores_167 C K G  S v1 v2 v7 v8 hv)
      · have hv := (if_pos q148).symm.trans hv
        refine jr_iload C dX12_stores_151 4 rfl ?_
        refine jr_bipush (v := 9) C dX12_stores_153 (by decide) ?_
        refine jr_icmp_ne (tgt := 167) C dX12_stores_155 rfl (fun q155 => ?_) (fun q155 => ?_)
        · have hv := (if_neg q155).symm.trans hv
          exact jr_sub [0, 1, 2, 5, 6] rfl (tX12_stores_167 C K G  S v1 v2 v7 v8 hv)
        · have hv := (if_pos q155).symm.trans hv
          refine jr_iload C dX12_stores_158 3 rfl ?_
          refine jr_bipush (v := 11) C dX12_stores_160 (by decide) ?_
          refine jr_icmp_ne (tgt := 167) C dX12_stores_162 rfl (fun q162 => ?_) (fun q162 => ?_)
          · have hv := (if_neg q162).symm.trans hv
            exact jr_sub [0, 1, 2, 5, 6] rfl (tX12_stores_167 C K G  S v1 v2 v7 v8 hv)
          · have hv := (if_pos q162).symm.trans hv
            refine jr_iconst (v := 5) C dX12_stores_165 (by decide) ?_
            exact jm_iret C K dX12_stores_166 (Option.some.inj hv)
    · have hv := (if_neg q140).symm.trans hv
      exact jr_sub [] rfl (tX12_stores_143 C K G  S hv)
set_option maxRecDepth 100000 in
theorem tX12_stores_113 {p : Program} {l : Launch} {e : Env} {s : State} {m : MethodId} {args : Array Value} {below : List Frame} {meth : Method} {c : Code} {g : MG} (C : CC p s m args meth c yX12_stores cX12_stores 11 (some .int)) (K : mK g s) (G : mSep g)  (S : MS) (v1 : Int32) (v2 : Int32) (v4 : Int32) (v5 : Int32) (v6 : Int32) (v7 : Int32) {w : Int32 × MS} (hv : fX12_stores_113 S v1 v2 v4 v5 v6 v7 = some w) : MJ p l e s m args below meth c 11 3 g (some (.int w.1)) w.2 113 [(0, .ref (mo g)), (1, .int v1), (2, .int v2), (4, .int v4), (5, .int v5), (6, .int v6), (7, .int v7)] [] S := by
  unfold fX12_stores_113 at hv
  refine jr_aload_n C dX12_stores_113 rfl 0 rfl ?_
  refine jm_getA C K 3 (by decide) (by decide) kw_1438 rfl dX12_stores_114 ?_
  refine jr_iload C dX12_stores_117 3 rfl ?_
  refine jr_bipush (v := 15) C dX12_stores_119 (by decide) ?_
  refine jr_iand C dX12_stores_121 ?_
  by_cases z122 : inb (v4 &&& 15) (mlB 3) = true
  case neg => exact op_none ((if_neg z122).symm.trans hv)
  have hv := (if_pos z122).symm.trans hv
  refine jm_lald C K z122 dX12_stores_122 ?_
  refine jr_l2i C dX12_stores_123 ?_
  refine jr_istore (lv' := [(8, .int ((gB S 3 (ix (v4 &&& 15))).toInt32)), (0, .ref (mo g)), (1, .int v1), (2, .int v2), (4, .int v4), (5, .int v5), (6, .int v6), (7, .int v7)]) C dX12_stores_124 (by decide) rfl ?_
  exact jr_sub [1, 2, 3, 5, 6, 7, 0] rfl (tX12_stores_126 C K G  S v1 v2 v5 v6 v7 ((gB S 3 (ix (v4 &&& 15))).toInt32) hv)
set_option maxRecDepth 100000 in
theorem tX12_stores_94 {p : Program} {l : Launch} {e : Env} {s : State} {m : MethodId} {args : Array Value} {below : List Frame} {meth : Method} {c : Code} {g : MG} (C : CC p s m args meth c yX12_stores cX12_stores 11 (some .int)) (K : mK g s) (G : mSep g)  (S : MS) (v1 : Int32) (v2 : Int32) (v3 : Int32) (v4 : Int32) (v5 : Int32) (v6 : Int32) {w : Int32 × MS} (hv : fX12_stores_94 S v1 v2 v3 v4 v5 v6 = some w) : MJ p l e s m args below meth c 11 3 g (some (.int w.1)) w.2 94 [(0, .ref (mo g)), (1, .int v1), (2, .int v2), (3, .int v3), (4, .int v4), (5, .int v5), (6, .int v6)] [] S := by
  unfold fX12_stores_94 at hv
  refine jr_iload C dX12_stores_94 6 rfl ?_
  refine jr_iconst (v := (-1)) C dX12_stores_96 (by decide) ?_
  refine jr_icmp_ne (tgt := 102) C dX12_stores_97 rfl (fun q97 => ?_) (fun q97 => ?_)
  · have hv := (if_neg q97).symm.trans hv
    refine jr_aload_n C dX12_stores_102 rfl 0 rfl ?_
    refine jm_getA C K 5 (by decide) (by decide) kw_1440 rfl dX12_stores_103 ?_
    refine jr_iload_n C dX12_stores_106 rfl 3 rfl ?_
    refine jr_bipush (v := 15) C dX12_stores_107 (by decide) ?_
    refine jr_iand C dX12_stores_109 ?_
    by_cases z110 : inb (v3 &&& 15) (mlA 5) = true
    case neg => exact op_none ((if_neg z110).symm.trans hv)
    have hv := (if_pos z110).symm.trans hv
    refine jm_iald C K z110 dX12_stores_110 ?_
    refine jr_istore (lv' := [(7, .int (gA S 5 (ix (v3 &&& 15)))), (0, .ref (mo g)), (1, .int v1), (2, .int v2), (3, .int v3), (4, .int v4), (5, .int v5), (6, .int v6)]) C dX12_stores_111 (by decide) rfl ?_
    exact jr_sub [1, 2, 3, 5, 6, 7, 0] rfl (tX12_stores_113 C K G  S v1 v2 v4 v5 v6 (gA S 5 (ix (v3 &&& 15))) hv)
  · have hv := (if_pos q97).symm.trans hv
    refine jr_iconst (v := 1) C dX12_stores_100 (by decide) ?_
    exact jm_iret C K dX12_stores_101 (Option.some.inj hv)
set_option maxRecDepth 100000 in
theorem tX12_stores_92 {p : Program} {l : Launch} {e : Env} {s : State} {m : MethodId} {args : Array Value} {below : List Frame} {meth : Method} {c : Code} {g : MG} (C : CC p s m args meth c yX12_stores cX12_stores 11 (some .int)) (K : mK g s) (G : mSep g)  (S : MS) {w : Int32 × MS} (hv : fX12_stores_92 S = some w) : MJ p l e s m args below meth c 11 3 g (some (.int w.1)) w.2 92 [] [] S := by
  unfold fX12_stores_92 at hv
  refine jr_iconst (v := 2) C dX12_stores_92 (by decide) ?_
  exact jm_iret C K dX12_stores_93 (Option.some.inj hv)
set_option maxRecDepth 100000 in
theorem tX12_stores_60 {p : Program} {l : Launch} {e : Env} {s : State} {m : MethodId} {args : Array Value} {below : List Frame} {meth : Method} {c : Code} {g : MG} (C : CC p s m args meth c yX12_stores cX12_stores 11 (some .int)) (K : mK g s) (G : mSep g)  (S : MS) (v1 : Int32) (v2 : Int32) (v3 : Int32) (v4 : Int32) (v5 : Int32) {w : Int32 × MS} (hv : fX12_stores_60 S v1 v2 v3 v4 v5 = some w) : MJ p l e s m args below meth c 11 3 g (some (.int w.1)) w.2 60 [(0, .ref (mo g)), (1, .int v1), (2, .int v2), (3, .int v3), (4, .int v4), (5, .int v5)] [] S := by
  unfold fX12_stores_60 at hv
  refine jr_aload_n C dX12_stores_60 rfl 0 rfl ?_
  refine jr_iload_n C dX12_stores_61 rfl 3 rfl ?_
  obtain ⟨c62, hc62, hv⟩ := Option.bind_eq_some_iff.mp hv
  refine jm_call (rest := []) C K G (pX12_kindOf l G S v3 hc62) oX12_kindOf rfl kw_1360 rfl ⟨Nat.le_of_ble_eq_true rfl, Nat.le_of_ble_eq_true rfl⟩ rfl (Nat.le_of_ble_eq_true rfl) ⟨Nat.zero_le _, Nat.zero_le _⟩ dX12_stores_62 ?_
  refine jr_istore (lv' := [(6, .int c62.1), (0, .ref (mo g)), (1, .int v1), (2, .int v2), (3, .int v3), (4, .int v4), (5, .int v5)]) C dX12_stores_65 (by decide) rfl ?_
  refine jr_iload C dX12_stores_67 0 rfl ?_
  refine jr_iconst (v := (-1)) C dX12_stores_69 (by decide) ?_
  refine jr_icmp_eq (tgt := 94) C dX12_stores_70 rfl (fun q70 => ?_) (fun q70 => ?_)
  · have hv := (if_pos q70).symm.trans hv
    exact jr_sub [1, 2, 3, 4, 5, 6, 0] rfl (tX12_stores_94 C K G  c62.2 v1 v2 v3 v4 v5 c62.1 hv)
  · have hv := (if_neg q70).symm.trans hv
    refine jr_iload C dX12_stores_73 0 rfl ?_
    refine jr_iload_n C dX12_stores_75 rfl 2 rfl ?_
    refine jr_icmp_eq (tgt := 94) C dX12_stores_76 rfl (fun q76 => ?_) (fun q76 => ?_)
    · have hv := (if_pos q76).symm.trans hv
      exact jr_sub [1, 2, 3, 4, 5, 6, 0] rfl (tX12_stores_94 C K G  c62.2 v1 v2 v3 v4 v5 c62.1 hv)
    · have hv := (if_neg q76).symm.trans hv
      refine jr_iload_n C dX12_stores_79 rfl 2 rfl ?_
      refine jr_bipush (v := 8) C dX12_stores_80 (by decide) ?_
      refine jr_icmp_ne (tgt := 92) C dX12_stores_82 rfl (fun q82 => ?_) (fun q82 => ?_)
      · have hv := (if_neg q82).symm.trans hv
        exact jr_sub [] rfl (tX12_stores_92 C K G  c62.2 hv)
      · have hv := (if_pos q82).symm.trans hv
        refine jr_iload C dX12_stores_85 0 rfl ?_
        refine jr_bipush (v := 9) C dX12_stores_87 (by decide) ?_
        refine jr_icmp_eq (tgt := 94) C dX12_stores_89 rfl (fun q89 => ?_) (fun q89 => ?_)
        · have hv := (if_pos q89).symm.trans hv
          exact jr_sub [1, 2, 3, 4, 5, 6, 0] rfl (tX12_stores_94 C K G  c62.2 v1 v2 v3 v4 v5 c62.1 hv)
        · have hv := (if_neg q89).symm.trans hv
          exact jr_sub [] rfl (tX12_stores_92 C K G  c62.2 hv)
set_option maxRecDepth 100000 in
theorem tX12_stores_58 {p : Program} {l : Launch} {e : Env} {s : State} {m : MethodId} {args : Array Value} {below : List Frame} {meth : Method} {c : Code} {g : MG} (C : CC p s m args meth c yX12_stores cX12_stores 11 (some .int)) (K : mK g s) (G : mSep g)  (S : MS) {w : Int32 × MS} (hv : fX12_stores_58 S = some w) : MJ p l e s m args below meth c 11 3 g (some (.int w.1)) w.2 58 [] [] S := by
  unfold fX12_stores_58 at hv
  refine jr_iconst (v := 2) C dX12_stores_58 (by decide) ?_
  exact jm_iret C K dX12_stores_59 (Option.some.inj hv)
set_option maxRecDepth 100000 in
theorem tX12_stores_0 {p : Program} {l : Launch} {e : Env} {s : State} {m : MethodId} {args : Array Value} {below : List Frame} {meth : Method} {c : Code} {g : MG} (C : CC p s m args meth c yX12_stores cX12_stores 11 (some .int)) (K : mK g s) (G : mSep g)  (S : MS) (v1 : Int32) (v2 : Int32) (v3 : Int32) (v4 : Int32) {w : Int32 × MS} (hv : fX12_stores S v1 v2 v3 v4 = some w) : MJ p l e s m args below meth c 11 3 g (some (.int w.1)) w.2 0 [(0, .ref (mo g)), (1, .int v1), (2, .int v2), (3, .int v3), (4, .int v4)] [] S := by
  unfold fX12_stores at hv
  refine jr_aload_n C dX12_stores_0 rfl 0 rfl ?_
  refine jr_iload_n C dX12_stores_1 rfl 2 rfl ?_
  obtain ⟨c2, hc2, hv⟩ := Option.bind_eq_some_iff.mp hv
  refine jm_call (rest := []) C K G (pX12_kindOf l G S v2 hc2) oX12_kindOf rfl kw_1360 rfl ⟨Nat.le_of_ble_eq_true rfl, Nat.le_of_ble_eq_true rfl⟩ rfl (Nat.le_of_ble_eq_true rfl) ⟨Nat.zero_le _, Nat.zero_le _⟩ dX12_stores_2 ?_
  refine jr_istore (lv' := [(5, .int c2.1), (0, .ref (mo g)), (1, .int v1), (2, .int v2), (3, .int v3), (4, .int v4)]) C dX12_stores_5 (by decide) rfl ?_
  refine jr_iload_n C dX12_stores_7 rfl 2 rfl ?_
  refine jr_bipush (v := 7) C dX12_stores_8 (by decide) ?_
  refine jr_icmp_le (tgt := 60) C dX12_stores_10 rfl (fun q10 => ?_) (fun q10 => ?_)
  · have hv := (if_pos q10).symm.trans hv
    exact jr_sub [1, 2, 3, 4, 5, 0] rfl (tX12_stores_60 C K G  c2.2 v1 v2 v3 v4 c2.1 hv)
  · have hv := (if_neg q10).symm.trans hv
    refine jr_iload C dX12_stores_13 0 rfl ?_
    refine jr_iconst (v := (-1)) C dX12_stores_15 (by decide) ?_
    refine jr_icmp_eq (tgt := 60) C dX12_stores_16 rfl (fun q16 => ?_) (fun q16 => ?_)
    · have hv := (if_pos q16).symm.trans hv
      exact jr_sub [1, 2, 3, 4, 5, 0] rfl (tX12_stores_60 C K G  c2.2 v1 v2 v3 v4 c2.1 hv)
    · have hv := (if_neg q16).symm.trans hv
      refine jr_iload_n C dX12_stores_19 rfl 2 rfl ?_
      refine jr_bipush (v := 8) C dX12_stores_20 (by decide) ?_
      refine jr_icmp_ne (tgt := 36) C dX12_stores_22 rfl (fun q22 => ?_) (fun q22 => ?_)
      · have hv := (if_neg q22).symm.trans hv
        refine jr_iload_n C dX12_stores_36 rfl 2 rfl ?_
        refine jr_bipush (v := 9) C dX12_stores_37 (by decide) ?_
        refine jr_icmp_ne (tgt := 52) C dX12_stores_39 rfl (fun q39 => ?_) (fun q39 => ?_)
        · have hv := (if_neg q39).symm.trans hv
          refine jr_iload C dX12_stores_52 0 rfl ?_
          refine jr_iconst (v := 4) C dX12_stores_54 (by decide) ?_
          refine jr_icmp_eq (tgt := 60) C dX12_stores_55 rfl (fun q55 => ?_) (fun q55 => ?_)
          · have hv := (if_pos q55).symm.trans hv
            exact jr_sub [1, 2, 3, 4, 5, 0] rfl (tX12_stores_60 C K G  c2.2 v1 v2 v3 v4 c2.1 hv)
          · have hv := (if_neg q55).symm.trans hv
            exact jr_sub [] rfl (tX12_stores_58 C K G  c2.2 hv)
        · have hv := (if_pos q39).symm.trans hv
          refine jr_iload C dX12_stores_42 0 rfl ?_
          refine jr_bipush (v := 12) C dX12_stores_44 (by decide) ?_
          refine jr_icmp_eq (tgt := 60) C dX12_stores_46 rfl (fun q46 => ?_) (fun q46 => ?_)
          · have hv := (if_pos q46).symm.trans hv
            exact jr_sub [1, 2, 3, 4, 5, 0] rfl (tX12_stores_60 C K G  c2.2 v1 v2 v3 v4 c2.1 hv)
          · have hv := (if_neg q46).symm.trans hv
            refine jr_goto (tgt := 58) C dX12_stores_49 rfl ?_
            exact jr_sub [] rfl (tX12_stores_58 C K G  c2.2 hv)
      · have hv := (if_pos q22).symm.trans hv
        refine jr_iload C dX12_stores_25 0 rfl ?_
        refine jr_pcall (rest := []) C (pX12_isPose l c2.1) oX12_isPose kw_1375 rfl ⟨Nat.le_of_ble_eq_true rfl, Nat.le_of_ble_eq_true rfl⟩ rfl (Nat.le_of_ble_eq_true rfl) ⟨Nat.zero_le _, Nat.zero_le _⟩ dX12_stores_27 ?_
        refine jr_if_ne (tgt := 60) C dX12_stores_30 rfl (fun q30 => ?_) (fun q30 => ?_)
        · have hv := (if_neg q30).symm.trans hv
          exact jr_sub [1, 2, 3, 4, 5, 0] rfl (tX12_stores_60 C K G  c2.2 v1 v2 v3 v4 c2.1 hv)
        · have hv := (if_pos q30).symm.trans hv
          refine jr_goto (tgt := 58) C dX12_stores_33 rfl ?_
          exact jr_sub [] rfl (tX12_stores_58 C K G  c2.2 hv)
theorem pX12_stores (l : Launch) {g : MG} (G : mSep g) (S : MS) (v1 : Int32) (v2 : Int32) (v3 : Int32) (v4 : Int32) {w : Int32} {S' : MS} (hw : fX12_stores S v1 v2 v3 v4 = some (w, S')) : mC l yX12_stores cX12_stores 11 (some .int) 3 g [.ref (mo g), .int v1, .int v2, .int v3, .int v4] S (some (.int w)) S' := mC_of (by decide +kernel) (Nat.le_of_ble_eq_true rfl) rfl (fun C K => tX12_stores_0 C K G S v1 v2 v3 v4 hw)
/-! RobotCellModel.looksAt(ZIII)I -/
def fX12_looksAt_318 (S : MS) : Option (Int32 × MS) :=
  some (0, S)
def fX12_looksAt_175 (S : MS) : Option (Int32 × MS) :=
  fX12_looksAt_318 S
def fX12_looksAt_161 (S : MS) : Option (Int32 × MS) :=
  fX12_looksAt_175 S
def fX12_looksAt_144 (S : MS) (v1 : Int32) (v2 : Int32) (v6 : Int32) (t0 : Nat) : Option (Int32 × MS) :=
  if v1 = 0 then (if inb v6 (mlB t0) = true then (if inb v2 (mlB 4) = true then fX12_looksAt_175 (pB S 4 (ix v2) (gB S t0 (ix v6))) else none) else none) else (if inb v2 (mlB 4) = true then (if inb v6 (mlB t0) = true then fX12_looksAt_161 (pB S t0 (ix v6) (gB S 4 (ix v2))) else none) else none)
def fX12_looksAt_102 (S : MS) (v1 : Int32) (v2 : Int32) (v4 : Int32) (v6 : Int32) : Option (Int32 × MS) :=
  if v4 = 0 then fX12_looksAt_144 S v1 v2 v6 12 else (if v4 = 1 then fX12_looksAt_144 S v1 v2 v6 13 else (if v4 = 2 then fX12_looksAt_144 S v1 v2 v6 14 else fX12_looksAt_144 S v1 v2 v6 15))
def fX12_looksAt_309 (S : MS) (v2 : Int32) (v7 : Int32) : Option (Int32 × MS) :=
  if inb v2 (mlB 3) = true then fX12_looksAt_318 (pB S 3 (ix v2) v7.toInt64) else none
def fX12_looksAt_306 (r282 : MS → Int32 → Int32 → Int32 → Option (Int32 × MS)) (S : MS) (v2 : Int32) (v7 : Int32) (v8 : Int32) : Option (Int32 × MS) :=
  r282 S v2 v7 v8
def fX12_looksAt_297 (r282 : MS → Int32 → Int32 → Int32 → Option (Int32 × MS)) (S : MS) (v2 : Int32) (v7 : Int32) (v8 : Int32) : Option (Int32 × MS) :=
  if inb v8 (mlA 17) = true then fX12_looksAt_306 r282 S v2 v7 (gA S 17 (ix v8)) else none
def fX12_looksAt_282  : Nat → MS → Int32 → Int32 → Int32 → Option (Int32 × MS)
  | 0, _, _, _, _ => none
  | q + 1, S, v2, v7, v8 => if v8 = 0 then fX12_looksAt_309 S v2 v7 else (if 100 ≤ v7 then fX12_looksAt_309 S v2 v7 else fX12_looksAt_297 (fX12_looksAt_282  q) S v2 (v7 + 1) v8)
def fX12_looksAt_261 (S : MS) : Option (Int32 × MS) :=
  fX12_looksAt_318 S
def fX12_looksAt_245 (S : MS) : Option (Int32 × MS) :=
  fX12_looksAt_318 S
def fX12_looksAt_219 (S : MS) : Option (Int32 × MS) :=
  fX12_looksAt_318 S
def fX12_looksAt_202 (S : MS) : Option (Int32 × MS) :=
  fX12_looksAt_318 S
def fX12_looksAt_90 (S : MS) (v1 : Int32) (v2 : Int32) (v4 : Int32) (v6 : Int32) : Option (Int32 × MS) :=
  if v4 < 3 then fX12_looksAt_102 S v1 v2 v4 v6 else (if v4 = 5 then fX12_looksAt_102 S v1 v2 v4 v6 else (if v4 = 3 then (if v1 = 0 then (if inb v6 (mlA 16) = true then (if inb v2 (mlB 3) = true then fX12_looksAt_219 (pB S 3 (ix v2) ((gA S 16 (ix v6)).toInt64)) else none) else none) else (if inb v2 (mlB 3) = true then (if inb v6 (mlA 16) = true then fX12_looksAt_202 (pA S 16 (ix v6) ((gB S 3 (ix v2)).toInt32)) else none) else none)) else (if v4 = 4 then (if v1 = 0 then (if inb v6 (mlA 17) = true then (if inb v2 (mlA 5) = true then fX12_looksAt_261 (pA S 5 (ix v2) (gA S 17 (ix v6))) else none) else none) else (if inb v2 (mlA 5) = true then (if inb v6 (mlA 17) = true then fX12_looksAt_245 (pA S 17 (ix v6) (gA S 5 (ix v2))) else none) else none)) else (if v4 = 6 then (if v1 = 0 then fX12_looksAt_282 110 S v2 0 v6 else fX12_looksAt_318 S) else fX12_looksAt_318 S))))
def fX12_looksAt_71 (S : MS) (v1 : Int32) (v2 : Int32) (v3 : Int32) (v4 : Int32) (v5 : Int32) : Option (Int32 × MS) :=
  if v5 = (-1) then some (1, S) else (if inb (v3 &&& 15) (mlA 5) = true then fX12_looksAt_90 S v1 v2 v4 (gA S 5 (ix (v3 &&& 15))) else none)
def fX12_looksAt_69 (S : MS) : Option (Int32 × MS) :=
  some (2, S)
def fX12_looksAt_32 (S : MS) (v1 : Int32) (v2 : Int32) (v3 : Int32) (v4 : Int32) : Option (Int32 × MS) :=
  Option.bind (fX12_kindOf S v3) (fun c34 => if c34.1 = (-1) then fX12_looksAt_71 c34.2 v1 v2 v3 v4 c34.1 else (if v4 = 5 then (if c34.1 = 12 then fX12_looksAt_71 c34.2 v1 v2 v3 v4 c34.1 else fX12_looksAt_69 c34.2) else (if (fX12_isPose c34.1) = 0 then fX12_looksAt_69 c34.2 else fX12_looksAt_71 c34.2 v1 v2 v3 v4 c34.1)))
def fX12_looksAt (S : MS) (v1 : Int32) (v2 : Int32) (v3 : Int32) (v4 : Int32) : Option (Int32 × MS) :=
  if v1 = 0 then fX12_looksAt_32 S v1 v2 v3 v4 else (if v4 = 4 then (Option.bind (fX12_kindOf S v2) (fun c12 => if c12.1 = (-1) then fX12_looksAt_32 c12.2 v1 v2 v3 v4 else (Option.bind (fX12_kindOf c12.2 v2) (fun c21 => if (fX12_isPose c21.1) = 0 then some (2, c21.2) else fX12_looksAt_32 c21.2 v1 v2 v3 v4)))) else fX12_looksAt_32 S v1 v2 v3 v4)
theorem oX12_looksAt : ok_v yX12_looksAt cX12_looksAt 9 (some .int) 4 := ⟨kw_1394, kw_1393, kw_65, kw_73, by decide +kernel⟩
set_option maxRecDepth 100000 in
theorem tX12_looksAt_318 {p : Program} {l : Launch} {e : Env} {s : State} {m : MethodId} {args : Array Value} {below : List Frame} {meth : Method} {c : Code} {g : MG} (C : CC p s m args meth c yX12_looksAt cX12_looksAt 9 (some .int)) (K : mK g s) (G : mSep g)  (S : MS) {w : Int32 × MS} (hv : fX12_looksAt_318 S = some w) : MJ p l e s m args below meth c 9 1 g (some (.int w.1)) w.2 318 [] [] S := by
  unfold fX12_looksAt_318 at hv
  refine jr_iconst (v := 0) C dX12_looksAt_318 (by decide) ?_
  exact jm_iret C K dX12_looksAt_319 (Option.some.inj hv)
set_option maxRecDepth 100000 in
theorem tX12_looksAt_175 {p : Program} {l : Launch} {e : Env} {s : State} {m : MethodId} {args : Array Value} {below : List Frame} {meth : Method} {c : Code} {g : MG} (C : CC p s m args meth c yX12_looksAt cX12_looksAt 9 (some .int)) (K : mK g s) (G : mSep g)  (S : MS) {w : Int32 × MS} (hv : fX12_looksAt_175 S = some w) : MJ p l e s m args below meth c 9 1 g (some (.int w.1)) w.2 175 [] [] S := by
  unfold fX12_looksAt_175 at hv
  refine jr_goto (tgt := 318) C dX12_looksAt_175 rfl ?_
  exact tX12_looksAt_318 C K G  S hv
set_option maxRecDepth 100000 in
theorem tX12_looksAt_161 {p : Program} {l : Launch} {e : Env} {s : State} {m : MethodId} {args : Array Value} {below : List Frame} {meth : Method} {c : Code} {g : MG} (C : CC p s m args meth c yX12_looksAt cX12_looksAt 9 (some .int)) (K : mK g s) (G : mSep g)  (S : MS) {w : Int32 × MS} (hv : fX12_looksAt_161 S = some w) : MJ p l e s m args below meth c 9 1 g (some (.int w.1)) w.2 161 [] [] S := by
  unfold fX12_looksAt_161 at hv
  refine jr_goto (tgt := 175) C dX12_looksAt_161 rfl ?_
  exact tX12_looksAt_175 C K G  S hv
set_option maxRecDepth 100000 in
theorem tX12_looksAt_144 {p : Program} {l : Launch} {e : Env} {s : State} {m : MethodId} {args : Array Value} {below : List Frame} {meth : Method} {c : Code} {g : MG} (C : CC p s m args meth c yX12_looksAt cX12_looksAt 9 (some .int)) (K : mK g s) (G : mSep g)  (S : MS) (v1 : Int32) (v2 : Int32) (v6 : Int32) (t0 : Nat) {w : Int32 × MS} (hv : fX12_looksAt_144 S v1 v2 v6 t0 = some w) : MJ p l e s m args below meth c 9 1 g (some (.int w.1)) w.2 144 [(0, .ref (mo g)), (1, .int v1), (2, .int v2), (6, .int v6)] [.ref (mad g t0)] S := by
  unfold fX12_looksAt_144 at hv
  refine jr_astore (lv' := [(7, .ref (mad g t0)), (0, .ref (mo g)), (1, .int v1), (2, .int v2), (6, .int v6)]) C dX12_looksAt_144 (by decide) rfl ?_
  refine jr_iload_n C dX12_looksAt_146 rfl 2 rfl ?_
  refine jr_if_eq (tgt := 164) C dX12_looksAt_147 rfl (fun q147 => ?_) (fun q147 => ?_)
  · have hv := (if_pos q147).symm.trans hv
    refine jr_aload_n C dX12_looksAt_164 rfl 1 rfl ?_
    refine jm_getA C K 4 (by decide) (by decide) kw_1439 rfl dX12_looksAt_165 ?_
    refine jr_iload_n C dX12_looksAt_168 rfl 3 rfl ?_
    refine jr_aload C dX12_looksAt_169 0 rfl ?_
    refine jr_iload C dX12_looksAt_171 4 rfl ?_
    by_cases z173 : inb v6 (mlB t0) = true
    case neg => exact op_none ((if_neg z173).symm.trans hv)
    have hv := (if_pos z173).symm.trans hv
    refine jm_lald C K z173 dX12_looksAt_173 ?_
    by_cases z174 : inb v2 (mlB 4) = true
    case neg => exact op_none ((if_neg z174).symm.trans hv)
    have hv := (if_pos z174).symm.trans hv
    refine jm_last C K G z174 dX12_looksAt_174 ?_
    exact jr_sub [] rfl (tX12_looksAt_175 C K G  (pB S 4 (ix v2) (gB S t0 (ix v6))) hv)
  · have hv := (if_neg q147).symm.trans hv
    refine jr_aload C dX12_looksAt_150 0 rfl ?_
    refine jr_iload C dX12_looksAt_152 4 rfl ?_
    refine jr_aload_n C dX12_looksAt_154 rfl 1 rfl ?_
    refine jm_getA C K 4 (by decide) (by decide) kw_1439 rfl dX12_looksAt_155 ?_
    refine jr_iload_n C dX12_looksAt_158 rfl 3 rfl ?_
    by_cases z159 : inb v2 (mlB 4) = true
    case neg => exact op_none ((if_neg z159).symm.trans hv)
    have hv := (if_pos z159).symm.trans hv
    refine jm_lald C K z159 dX12_looksAt_159 ?_
    by_cases z160 : inb v6 (mlB t0) = true
    case neg => exact op_none ((if_neg z160).symm.trans hv)
    have hv := (if_pos z160).symm.trans hv
    refine jm_last C K G z160 dX12_looksAt_160 ?_
    exact jr_sub [] rfl (tX12_looksAt_161 C K G  (pB S t0 (ix v6) (gB S 4 (ix v2))) hv)
set_option maxRecDepth 100000 in
theorem tX12_looksAt_102 {p : Program} {l : Launch} {e : Env} {s : State} {m : MethodId} {args : Array Value} {below : List Frame} {meth : Method} {c : Code} {g : MG} (C : CC p s m args meth c yX12_looksAt cX12_looksAt 9 (some .int)) (K : mK g s) (G : mSep g)  (S : MS) (v1 : Int32) (v2 : Int32) (v4 : Int32) (v6 : Int32) {w : Int32 × MS} (hv : fX12_looksAt_102 S v1 v2 v4 v6 = some w) : MJ p l e s m args below meth c 9 1 g (some (.int w.1)) w.2 102 [(0, .ref (mo g)), (1, .int v1), (2, .int v2), (4, .int v4), (6, .int v6)] [] S := by
  unfold fX12_looksAt_102 at hv
  refine jr_iload C dX12_looksAt_102 3 rfl ?_
  refine jr_if_ne (tgt := 114) C dX12_looksAt_104 rfl (fun q104 => ?_) (fun q104 => ?_)
  · have hv := (if_neg q104).symm.trans hv
    refine jr_iload C dX12_looksAt_114 3 rfl ?_
    refine jr_iconst (v := 1) C dX12_looksAt_116 (by decide) ?_
    refine jr_icmp_ne (tgt := 127) C dX12_looksAt_117 rfl (fun q117 => ?_) (fun q117 => ?_)
    · have hv := (if_neg q117).symm.trans hv
      refine jr_iload C dX12_looksAt_127 3 rfl ?_
      refine jr_iconst (v := 2) C dX12_looksAt_129 (by decide) ?_
      refine jr_icmp_ne (tgt := 140) C dX12_looksAt_130 rfl (fun q130 => ?_) (fun q130 => ?_)
      · have hv := (if_neg q130).symm.trans hv
        refine jr_aload_n C dX12_looksAt_140 rfl 0 rfl ?_
        refine jm_getA C K 15 (by decide) (by decide) kw_1450 rfl dX12_looksAt_141 ?_
        exact jr_sub [0, 1, 2, 4] rfl (tX12_looksAt_144 C K G  S v1 v2 v6 15 hv)
      · have hv := (if_pos q130).symm.trans hv
        refine jr_aload_n C dX12_looksAt_133 rfl 0 rfl ?_
        refine jm_getA C K 14 (by decide) (by decide) kw_1449 rfl dX12_looksAt_134 ?_
        refine jr_goto (tgt := 144) C dX12_looksAt_137 rfl ?_
        exact jr_sub [0, 1, 2, 4] rfl (tX12_looksAt_144 C K G  S v1 v2 v6 14 hv)
    · have hv := (if_pos q117).symm.trans hv
      refine jr_aload_n C dX12_looksAt_120 rfl 0 rfl ?_
      refine jm_getA C K 13 (by decide) (by decide) kw_1448 rfl dX12_looksAt_121 ?_
      refine jr_goto (tgt := 144) C dX12_looksAt_124 rfl ?_
      exact jr_sub [0, 1, 2, 4] rfl (tX12_looksAt_144 C K G  S v1 v2 v6 13 hv)
  · have hv := (if_pos q104).symm.trans hv
    refine jr_aload_n C dX12_looksAt_107 rfl 0 rfl ?_
    refine jm_getA C K 12 (by decide) (by decide) kw_1447 rfl dX12_looksAt_108 ?_
    refine jr_goto (tgt := 144) C dX12_looksAt_111 rfl ?_
    exact jr_sub [0, 1, 2, 4] rfl (tX12_looksAt_144 C K G  S v1 v2 v6 12 hv)
set_option maxRecDepth 100000 in
theorem tX12_looksAt_309 {p : Program} {l : Launch} {e : Env} {s : State} {m : MethodId} {args : Array Value} {below : List Frame} {meth : Method} {c : Code} {g : MG} (C : CC p s m args meth c yX12_looksAt cX12_looksAt 9 (some .int)) (K : mK g s) (G : mSep g)  (S : MS) (v2 : Int32) (v7 : Int32) {w : Int32 × MS} (hv : fX12_looksAt_309 S v2 v7 = some w) : MJ p l e s m args below meth c 9 1 g (some (.int w.1)) w.2 309 [(0, .ref (mo g)), (2, .int v2), (7, .int v7)] [] S := by
  unfold fX12_looksAt_309 at hv
  refine jr_aload_n C dX12_looksAt_309 rfl 0 rfl ?_
  refine jm_getA C K 3 (by decide) (by decide) kw_1438 rfl dX12_looksAt_310 ?_
  refine jr_iload_n C dX12_looksAt_313 rfl 1 rfl ?_
  refine jr_iload C dX12_looksAt_314 2 rfl ?_
  refine jr_i2l C dX12_looksAt_316 ?_
  by_cases z317 : inb v2 (mlB 3) = true
  case neg => exact op_none ((if_neg z317).symm.trans hv)
  have hv := (if_pos z317).symm.trans hv
  refine jm_last C K G z317 dX12_looksAt_317 ?_
  exact jr_sub [] rfl (tX12_looksAt_318 C K G  (pB S 3 (ix v2) v7.toInt64) hv)
set_option maxRecDepth 100000 in
theorem tX12_looksAt_306 {p : Program} {l : Launch} {e : Env} {s : State} {m : MethodId} {args : Array Value} {below : List Frame} {meth : Method} {c : Code} {g : MG} (C : CC p s m args meth c yX12_looksAt cX12_looksAt 9 (some .int)) (K : mK g s) (G : mSep g) (r282 : MS → Int32 → Int32 → Int32 → Option (Int32 × MS)) (h282 : ∀ (S : MS) (v2 : Int32) (v7 : Int32) (v8 : Int32) (w : Int32 × MS), r282 S v2 v7 v8 = some w → MJ p l e s m args below meth c 9 1 g (some (.int w.1)) w.2 282 [(0, .ref (mo g)), (2, .int v2), (7, .int v7), (8, .int v8)] [] S) (S : MS) (v2 : Int32) (v7 : Int32) (v8 : Int32) {w : Int32 × MS} (hv : fX12_looksAt_306 r282 S v2 v7 v8 = some w) : MJ p l e s m args below meth c 9 1 g (some (.int w.1)) w.2 306 [(0, .ref (mo g)), (2, .int v2), (7, .int v7), (8, .int v8)] [] S := by
  unfold fX12_looksAt_306 at hv
  refine jr_goto (tgt := 282) C dX12_looksAt_306 rfl ?_
  exact h282 S v2 v7 v8 _ hv
set_option maxRecDepth 100000 in
theorem tX12_looksAt_297 {p : Program} {l : Launch} {e : Env} {s : State} {m : MethodId} {args : Array Value} {below : List Frame} {meth : Method} {c : Code} {g : MG} (C : CC p s m args meth c yX12_looksAt cX12_looksAt 9 (some .int)) (K : mK g s) (G : mSep g) (r282 : MS → Int32 → Int32 → Int32 → Option (Int32 × MS)) (h282 : ∀ (S : MS) (v2 : Int32) (v7 : Int32) (v8 : Int32) (w : Int32 × MS), r282 S v2 v7 v8 = some w → MJ p l e s m args below meth c 9 1 g (some (.int w.1)) w.2 282 [(0, .ref (mo g)), (2, .int v2), (7, .int v7), (8, .int v8)] [] S) (S : MS) (v2 : Int32) (v7 : Int32) (v8 : Int32) {w : Int32 × MS} (hv : fX12_looksAt_297 r282 S v2 v7 v8 = some w) : MJ p l e s m args below meth c 9 1 g (some (.int w.1)) w.2 297 [(0, .ref (mo g)), (2, .int v2), (7, .int v7), (8, .int v8)] [] S := by
  unfold fX12_looksAt_297 at hv
  refine jr_aload_n C dX12_looksAt_297 rfl 0 rfl ?_
  refine jm_getA C K 17 (by decide) (by decide) kw_1452 rfl dX12_looksAt_298 ?_
  refine jr_iload C dX12_looksAt_301 3 rfl ?_
  by_cases z303 : inb v8 (mlA 17) = true
  case neg => exact op_none ((if_neg z303).symm.trans hv)
  have hv := (if_pos z303).symm.trans hv
  refine jm_iald C K z303 dX12_looksAt_303 ?_
  refine jr_istore (lv' := [(8, .int (gA S 17 (ix v8))), (0, .ref (mo g)), (2, .int v2), (7, .int v7)]) C dX12_looksAt_304 (by decide) rfl ?_
  exact jr_sub [1, 2, 3, 0] rfl (tX12_looksAt_306 C K G r282 h282 S v2 v7 (gA S 17 (ix v8)) hv)
set_option maxRecDepth 100000 in
theorem tX12_looksAt_282 {p : Program} {l : Launch} {e : Env} {s : State} {m : MethodId} {args : Array Value} {below : List Frame} {meth : Method} {c : Code} {g : MG} (C : CC p s m args meth c yX12_looksAt cX12_looksAt 9 (some .int)) (K : mK g s) (G : mSep g)  : ∀ (q : Nat) (S : MS) (v2 : Int32) (v7 : Int32) (v8 : Int32) (w : Int32 × MS), fX12_looksAt_282  q S v2 v7 v8 = some w → MJ p l e s m args below meth c 9 1 g (some (.int w.1)) w.2 282 [(0, .ref (mo g)), (2, .int v2), (7, .int v7), (8, .int v8)] [] S := by
  intro q
  induction q with
  | zero => intro S v2 v7 v8 w hv; exact absurd hv (by simp [fX12_looksAt_282])
  | succ q ih =>
    intro S v2 v7 v8 w hv
    unfold fX12_looksAt_282 at hv
    refine jr_iload C dX12_looksAt_282 3 rfl ?_
    refine jr_if_eq (tgt := 309) C dX12_looksAt_284 rfl (fun q284 => ?_) (fun q284 => ?_)
    · have hv := (if_pos q284).symm.trans hv
      exact jr_sub [0, 1, 2] rfl (tX12_looksAt_309 C K G  S v2 v7 hv)
    · have hv := (if_neg q284).symm.trans hv
      refine jr_iload C dX12_looksAt_287 2 rfl ?_
      refine jr_bipush (v := 100) C dX12_looksAt_289 (by decide) ?_
      refine jr_icmp_ge (tgt := 309) C dX12_looksAt_291 rfl (fun q291 => ?_) (fun q291 => ?_)
      · have hv := (if_pos q291).symm.trans hv
        exact jr_sub [0, 1, 2] rfl (tX12_looksAt_309 C K G  S v2 v7 hv)
      · have hv := (if_neg q291).symm.trans hv
        refine jr_iinc (v := (v7 + 1)) (lv' := [(7, .int (v7 + 1)), (0, .ref (mo g)), (2, .int v2), (8, .int v8)]) C dX12_looksAt_294 2 rfl rfl (by decide) rfl ?_
        exact jr_sub [1, 2, 0, 3] rfl (tX12_looksAt_297 C K G (fX12_looksAt_282  q) ih S v2 (v7 + 1) v8 hv)
set_option maxRecDepth 100000 in
theorem tX12_looksAt_261 {p : Program} {l : Launch} {e : Env} {s : State} {m : MethodId} {args : Array Value} {below : List Frame} {meth : Method} {c : Code} {g : MG} (C : CC p s m args meth c yX12_looksAt cX12_looksAt 9 (some .int)) (K : mK g s) (G : mSep g)  (S : MS) {w : Int32 × MS} (hv : fX12_looksAt_261 S = some w) : MJ p l e s m args below meth c 9 1 g (some (.int w.1)) w.2 261 [] [] S := by
  unfold fX12_looksAt_261 at hv
  refine jr_goto (tgt := 318) C dX12_looksAt_261 rfl ?_
  exact tX12_looksAt_318 C K G  S hv
set_option maxRecDepth 100000 in
theorem tX12_looksAt_245 {p : Program} {l : Launch} {e : Env} {s : State} {m : MethodId} {args : Array Value} {below : List Frame} {meth : Method} {c : Code} {g : MG} (C : CC p s m args meth c yX12_looksAt cX12_looksAt 9 (some .int)) (K : mK g s) (G : mSep g)  (S : MS) {w : Int32 × MS} (hv : fX12_looksAt_245 S = some w) : MJ p l e s m args below meth c 9 1 g (some (.int w.1)) w.2 245 [] [] S := by
  unfold fX12_looksAt_245 at hv
  refine jr_goto (tgt := 318) C dX12_looksAt_245 rfl ?_
  exact tX12_looksAt_318 C K G  S hv
set_option maxRecDepth 100000 in
theorem tX12_looksAt_219 {p : Program} {l : Launch} {e : Env} {s : State} {m : MethodId} {args : Array Value} {below : List Frame} {meth : Method} {c : Code} {g : MG} (C : CC p s m args meth c yX12_looksAt cX12_looksAt 9 (some .int)) (K : mK g s) (G : mSep g)  (S : MS) {w : Int32 × MS} (hv : fX12_looksAt_219 S = some w) : MJ p l e s m args below meth c 9 1 g (some (.int w.1)) w.2 219 [] [] S := by
  unfold fX12_looksAt_219 at hv
  refine jr_goto (tgt := 318) C dX12_looksAt_219 rfl ?_
  exact tX12_looksAt_318 C K G  S hv
set_option maxRecDepth 100000 in
theorem tX12_looksAt_202 {p : Program} {l : Launch} {e : Env} {s : State} {m : MethodId} {args : Array Value} {below : List Frame} {meth : Method} {c : Code} {g : MG} (C : CC p s m args meth c yX12_looksAt cX12_looksAt 9 (some .int)) (K : mK g s) (G : mSep g)  (S : MS) {w : Int32 × MS} (hv : fX12_looksAt_202 S = some w) : MJ p l e s m args below meth c 9 1 g (some (.int w.1)) w.2 202 [] [] S := by
  unfold fX12_looksAt_202 at hv
  refine jr_goto (tgt := 318) C dX12_looksAt_202 rfl ?_
  exact tX12_looksAt_318 C K G  S hv
set_option maxRecDepth 100000 in
theorem tX12_looksAt_90 {p : Program} {l : Launch} {e : Env} {s : State} {m : MethodId} {args : Array Value} {below : List Frame} {meth : Method} {c : Code} {g : MG} (C : CC p s m args meth c yX12_looksAt cX12_looksAt 9 (some .int)) (K : mK g s) (G : mSep g)  (S : MS) (v1 : Int32) (v2 : Int32) (v4 : Int32) (v6 : Int32) {w : Int32 × MS} (hv : fX12_looksAt_90 S v1 v2 v4 v6 = some w) : MJ p l e s m args below meth c 9 1 g (some (.int w.1)) w.2 90 [(0, .ref (mo g)), (1, .int v1), (2, .int v2), (4, .int v4), (6, .int v6)] [] S := by
  unfold fX12_looksAt_90 at hv
  refine jr_iload C dX12_looksAt_90 3 rfl ?_
  refine jr_iconst (v := 3) C dX12_looksAt_92 (by decide) ?_
  refine jr_icmp_lt (tgt := 102) C dX12_looksAt_93 rfl (fun q93 => ?_) (fun q93 => ?_)
  · have hv := (if_pos q93).symm.trans hv
    exact tX12_looksAt_102 C K G  S v1 v2 v4 v6 hv
  · have hv := (if_neg q93).symm.trans hv
    refine jr_iload C dX12_looksAt_96 3 rfl ?_
    refine jr_iconst (v := 5) C dX12_looksAt_98 (by decide) ?_
    refine jr_icmp_ne (tgt := 178) C dX12_looksAt_99 rfl (fun q99 => ?_) (fun q99 => ?_)
    · have hv := (if_neg q99).symm.trans hv
      refine jr_iload C dX12_looksAt_178 3 rfl ?_
      refine jr_iconst (v := 3) C dX12_looksAt_180 (by decide) ?_
      refine jr_icmp_ne (tgt := 222) C dX12_looksAt_181 rfl (fun q181 => ?_) (fun q181 => ?_)
      · have hv := (if_neg q181).symm.trans hv
        refine jr_iload C dX12_looksAt_222 3 rfl ?_
        refine jr_iconst (v := 4) C dX12_looksAt_224 (by decide) ?_
        refine jr_icmp_ne (tgt := 264) C dX12_looksAt_225 rfl (fun q225 => ?_) (fun q225 => ?_)
        · have hv := (if_neg q225).symm.trans hv
          refine jr_iload C dX12_looksAt_264 3 rfl ?_
          refine jr_bipush (v := 6) C dX12_looksAt_266 (by decide) ?_
          refine jr_icmp_ne (tgt := 318) C dX12_looksAt_268 rfl (fun q268 => ?_) (fun q268 => ?_)
          · have hv := (if_neg q268).symm.trans hv
            exact jr_sub [] rfl (tX12_looksAt_318 C K G  S hv)
          · have hv := (if_pos q268).symm.trans hv
            refine jr_iload_n C dX12_looksAt_271 rfl 1 rfl ?_
            refine jr_if_ne (tgt := 318) C dX12_looksAt_272 rfl (fun q272 => ?_) (fun q272 => ?_)
            · have hv := (if_neg q272).symm.trans hv
              exact jr_sub [] rfl (tX12_looksAt_318 C K G  S hv)
            · have hv := (if_pos q272).symm.trans hv
              refine jr_iconst (v := 0) C dX12_looksAt_275 (by decide) ?_
              refine jr_istore (lv' := [(7, .int 0), (0, .ref (mo g)), (1, .int v1), (2, .int v2), (4, .int v4), (6, .int v6)]) C dX12_looksAt_276 (by decide) rfl ?_
              refine jr_iload C dX12_looksAt_278 5 rfl ?_
              refine jr_istore (lv' := [(8, .int v6), (7, .int 0), (0, .ref (mo g)), (1, .int v1), (2, .int v2), (4, .int v4), (6, .int v6)]) C dX12_looksAt_280 (by decide) rfl ?_
              exact jr_sub [2, 4, 1, 0] rfl (tX12_looksAt_282 C K G  110 S v2 0 v6 _ hv)
        · have hv := (if_pos q225).symm.trans hv
          refine jr_iload_n C dX12_looksAt_228 rfl 1 rfl ?_
          refine jr_if_eq (tgt := 248) C dX12_looksAt_229 rfl (fun q229 => ?_) (fun q229 => ?_)
          · have hv := (if_pos q229).symm.trans hv
            refine jr_aload_n C dX12_looksAt_248 rfl 0 rfl ?_
            refine jm_getA C K 5 (by decide) (by decide) kw_1440 rfl dX12_looksAt_249 ?_
            refine jr_iload_n C dX12_looksAt_252 rfl 2 rfl ?_
            refine jr_aload_n C dX12_looksAt_253 rfl 0 rfl ?_
            refine jm_getA C K 17 (by decide) (by decide) kw_1452 rfl dX12_looksAt_254 ?_
            refine jr_iload C dX12_looksAt_257 4 rfl ?_
            by_cases z259 : inb v6 (mlA 17) = true
            case neg => exact op_none ((if_neg z259).symm.trans hv)
            have hv := (if_pos z259).symm.trans hv
            refine jm_iald C K z259 dX12_looksAt_259 ?_
            by_cases z260 : inb v2 (mlA 5) = true
            case neg => exact op_none ((if_neg z260).symm.trans hv)
            have hv := (if_pos z260).symm.trans hv
            refine jm_iast C K G z260 dX12_looksAt_260 ?_
            exact jr_sub [] rfl (tX12_looksAt_261 C K G  (pA S 5 (ix v2) (gA S 17 (ix v6))) hv)
          · have hv := (if_neg q229).symm.trans hv
            refine jr_aload_n C dX12_looksAt_232 rfl 0 rfl ?_
            refine jm_getA C K 17 (by decide) (by decide) kw_1452 rfl dX12_looksAt_233 ?_
            refine jr_iload C dX12_looksAt_236 4 rfl ?_
            refine jr_aload_n C dX12_looksAt_238 rfl 0 rfl ?_
            refine jm_getA C K 5 (by decide) (by decide) kw_1440 rfl dX12_looksAt_239 ?_
            refine jr_iload_n C dX12_looksAt_242 rfl 2 rfl ?_
            by_cases z243 : inb v2 (mlA 5) = true
            case neg => exact op_none ((if_neg z243).symm.trans hv)
            have hv := (if_pos z243).symm.trans hv
            refine jm_iald C K z243 dX12_looksAt_243 ?_
            by_cases z244 : inb v6 (mlA 17) = true
            case neg => exact op_none ((if_neg z244).symm.trans hv)
            have hv := (if_pos z244).symm.trans hv
            refine jm_iast C K G z244 dX12_looksAt_244 ?_
            exact jr_sub [] rfl (tX12_looksAt_245 C K G  (pA S 17 (ix v6) (gA S 5 (ix v2))) hv)
      · have hv := (if_pos q181).symm.trans hv
        refine jr_iload_n C dX12_looksAt_184 rfl 1 rfl ?_
        refine jr_if_eq (tgt := 205) C dX12_looksAt_185 rfl (fun q185 => ?_) (fun q185 => ?_)
        · have hv := (if_pos q185).symm.trans hv
          refine jr_aload_n C dX12_looksAt_205 rfl 0 rfl ?_
          refine jm_getA C K 3 (by decide) (by decide) kw_1438 rfl dX12_looksAt_206 ?_
          refine jr_iload_n C dX12_looksAt_209 rfl 2 rfl ?_
          refine jr_aload_n C dX12_looksAt_210 rfl 0 rfl ?_
          refine jm_getA C K 16 (by decide) (by decide) kw_1451 rfl dX12_looksAt_211 ?_
          refine jr_iload C dX12_looksAt_214 4 rfl ?_
          by_cases z216 : inb v6 (mlA 16) = true
          case neg => exact op_none ((if_neg z216).symm.trans hv)
          have hv := (if_pos z216).symm.trans hv
          refine jm_iald C K z216 dX12_looksAt_216 ?_
          refine jr_i2l C dX12_looksAt_217 ?_
          by_cases z218 : inb v2 (mlB 3) = true
          case neg => exact op_none ((if_neg z218).symm.trans hv)
          have hv := (if_pos z218).symm.trans hv
          refine jm_last C K G z218 dX12_looksAt_218 ?_
          exact jr_sub [] rfl (tX12_looksAt_219 C K G  (pB S 3 (ix v2) ((gA S 16 (ix v6)).toInt64)) hv)
        · have hv := (if_neg q185).symm.trans hv
          refine jr_aload_n C dX12_looksAt_188 rfl 0 rfl ?_
          refine jm_getA C K 16 (by decide) (by decide) kw_1451 rfl dX12_looksAt_189 ?_
          refine jr_iload C dX12_looksAt_192 4 rfl ?_
          refine jr_aload_n C dX12_looksAt_194 rfl 0 rfl ?_
          refine jm_getA C K 3 (by decide) (by decide) kw_1438 rfl dX12_looksAt_195 ?_
          refine jr_iload_n C dX12_looksAt_198 rfl 2 rfl ?_
          by_cases z199 : inb v2 (mlB 3) = true
          case neg => exact op_none ((if_neg z199).symm.trans hv)
          have hv := (if_pos z199).symm.trans hv
          refine jm_lald C K z199 dX12_looksAt_199 ?_
          refine jr_l2i C dX12_looksAt_200 ?_
          by_cases z201 : inb v6 (mlA 16) = true
          case neg => exact op_none ((if_neg z201).symm.trans hv)
          have hv := (if_pos z201).symm.trans hv
          refine jm_iast C K G z201 dX12_looksAt_201 ?_
          exact jr_sub [] rfl (tX12_looksAt_202 C K G  (pA S 16 (ix v6) ((gB S 3 (ix v2)).toInt32)) hv)
    · have hv := (if_pos q99).symm.trans hv
      exact tX12_looksAt_102 C K G  S v1 v2 v4 v6 hv
set_option maxRecDepth 100000 in
theorem tX12_looksAt_71 {p : Program} {l : Launch} {e : Env} {s : State} {m : MethodId} {args : Array Value} {below : List Frame} {meth : Method} {c : Code} {g : MG} (C : CC p s m args meth c yX12_looksAt cX12_looksAt 9 (some .int)) (K : mK g s) (G : mSep g)  (S : MS) (v1 : Int32) (v2 : Int32) (v3 : Int32) (v4 : Int32) (v5 : Int32) {w : Int32 × MS} (hv : fX12_looksAt_71 S v1 v2 v3 v4 v5 = some w) : MJ p l e s m args below meth c 9 1 g (some (.int w.1)) w.2 71 [(0, .ref (mo g)), (1, .int v1), (2, .int v2), (3, .int v3), (4, .int v4), (5, .int v5)] [] S := by
  unfold fX12_looksAt_71 at hv
  refine jr_iload C dX12_looksAt_71 5 rfl ?_
  refine jr_iconst (v := (-1)) C dX12_looksAt_73 (by decide) ?_
  refine jr_icmp_ne (tgt := 79) C dX12_looksAt_74 rfl (fun q74 => ?_) (fun q74 => ?_)
  · have hv := (if_neg q74).symm.trans hv
    refine jr_aload_n C dX12_looksAt_79 rfl 0 rfl ?_
    refine jm_getA C K 5 (by decide) (by decide) kw_1440 rfl dX12_looksAt_80 ?_
    refine jr_iload_n C dX12_looksAt_83 rfl 3 rfl ?_
    refine jr_bipush (v := 15) C dX12_looksAt_84 (by decide) ?_
    refine jr_iand C dX12_looksAt_86 ?_
    by_cases z87 : inb (v3 &&& 15) (mlA 5) = true
    case neg => exact op_none ((if_neg z87).symm.trans hv)
    have hv := (if_pos z87).symm.trans hv
    refine jm_iald C K z87 dX12_looksAt_87 ?_
    refine jr_istore (lv' := [(6, .int (gA S 5 (ix (v3 &&& 15)))), (0, .ref (mo g)), (1, .int v1), (2, .int v2), (3, .int v3), (4, .int v4), (5, .int v5)]) C dX12_looksAt_88 (by decide) rfl ?_
    exact jr_sub [1, 2, 3, 5, 0] rfl (tX12_looksAt_90 C K G  S v1 v2 v4 (gA S 5 (ix (v3 &&& 15))) hv)
  · have hv := (if_pos q74).symm.trans hv
    refine jr_iconst (v := 1) C dX12_looksAt_77 (by decide) ?_
    exact jm_iret C K dX12_looksAt_78 (Option.some.inj hv)
set_option maxRecDepth 100000 in
theorem tX12_looksAt_69 {p : Program} {l : Launch} {e : Env} {s : State} {m : MethodId} {args : Array Value} {below : List Frame} {meth : Method} {c : Code} {g : MG} (C : CC p s m args meth c yX12_looksAt cX12_looksAt 9 (some .int)) (K : mK g s) (G : mSep g)  (S : MS) {w : Int32 × MS} (hv : fX12_looksAt_69 S = some w) : MJ p l e s m args below meth c 9 1 g (some (.int w.1)) w.2 69 [] [] S := by
  unfold fX12_looksAt_69 at hv
  refine jr_iconst (v := 2) C dX12_looksAt_69 (by decide) ?_
  exact jm_iret C K dX12_looksAt_70 (Option.some.inj hv)
set_option maxRecDepth 100000 in
theorem tX12_looksAt_32 {p : Program} {l : Launch} {e : Env} {s : State} {m : MethodId} {args : Array Value} {below : List Frame} {meth : Method} {c : Code} {g : MG} (C : CC p s m args meth c yX12_looksAt cX12_looksAt 9 (some .int)) (K : mK g s) (G : mSep g)  (S : MS) (v1 : Int32) (v2 : Int32) (v3 : Int32) (v4 : Int32) {w : Int32 × MS} (hv : fX12_looksAt_32 S v1 v2 v3 v4 = some w) : MJ p l e s m args below meth c 9 1 g (some (.int w.1)) w.2 32 [(0, .ref (mo g)), (1, .int v1), (2, .int v2), (3, .int v3), (4, .int v4)] [] S := by
  unfold fX12_looksAt_32 at hv
  refine jr_aload_n C dX12_looksAt_32 rfl 0 rfl ?_
  refine jr_iload_n C dX12_looksAt_33 rfl 3 rfl ?_
  obtain ⟨c34, hc34, hv⟩ := Option.bind_eq_some_iff.mp hv
  refine jm_call (rest := []) C K G (pX12_kindOf l G S v3 hc34) oX12_kindOf rfl kw_1360 rfl ⟨Nat.le_of_ble_eq_true rfl, Nat.le_of_ble_eq_true rfl⟩ rfl (Nat.le_of_ble_eq_true rfl) ⟨Nat.zero_le _, Nat.zero_le _⟩ dX12_looksAt_34 ?_
  refine jr_istore (lv' := [(5, .int c34.1), (0, .ref (mo g)), (1, .int v1), (2, .int v2), (3, .int v3), (4, .int v4)]) C dX12_looksAt_37 (by decide) rfl ?_
  refine jr_iload C dX12_looksAt_39 0 rfl ?_
  refine jr_iconst (v := (-1)) C dX12_looksAt_41 (by decide) ?_
  refine jr_icmp_eq (tgt := 71) C dX12_looksAt_42 rfl (fun q42 => ?_) (fun q42 => ?_)
  · have hv := (if_pos q42).symm.trans hv
    exact jr_sub [1, 2, 3, 4, 5, 0] rfl (tX12_looksAt_71 C K G  c34.2 v1 v2 v3 v4 c34.1 hv)
  · have hv := (if_neg q42).symm.trans hv
    refine jr_iload C dX12_looksAt_45 5 rfl ?_
    refine jr_iconst (v := 5) C dX12_looksAt_47 (by decide) ?_
    refine jr_icmp_ne (tgt := 61) C dX12_looksAt_48 rfl (fun q48 => ?_) (fun q48 => ?_)
    · have hv := (if_neg q48).symm.trans hv
      refine jr_iload C dX12_looksAt_61 0 rfl ?_
      refine jr_pcall (rest := []) C (pX12_isPose l c34.1) oX12_isPose kw_1375 rfl ⟨Nat.le_of_ble_eq_true rfl, Nat.le_of_ble_eq_true rfl⟩ rfl (Nat.le_of_ble_eq_true rfl) ⟨Nat.zero_le _, Nat.zero_le _⟩ dX12_looksAt_63 ?_
      refine jr_if_ne (tgt := 71) C dX12_looksAt_66 rfl (fun q66 => ?_) (fun q66 => ?_)
      · have hv := (if_neg q66).symm.trans hv
        exact jr_sub [1, 2, 3, 4, 5, 0] rfl (tX12_looksAt_71 C K G  c34.2 v1 v2 v3 v4 c34.1 hv)
      · have hv := (if_pos q66).symm.trans hv
        exact jr_sub [] rfl (tX12_looksAt_69 C K G  c34.2 hv)
    · have hv := (if_pos q48).symm.trans hv
      refine jr_iload C dX12_looksAt_51 0 rfl ?_
      refine jr_bipush (v := 12) C dX12_looksAt_53 (by decide) ?_
      refine jr_icmp_eq (tgt := 71) C dX12_looksAt_55 rfl (fun q55 => ?_) (fun q55 => ?_)
      · have hv := (if_pos q55).symm.trans hv
        exact jr_sub [1, 2, 3, 4, 5, 0] rfl (tX12_looksAt_71 C K G  c34.2 v1 v2 v3 v4 c34.1 hv)
      · have hv := (if_neg q55).symm.trans hv
        refine jr_goto (tgt := 69) C dX12_looksAt_58 rfl ?_
        exact jr_sub [] rfl (tX12_looksAt_69 C K G  c34.2 hv)
set_option maxRecDepth 100000 in
theorem tX12_looksAt_0 {p : Program} {l : Launch} {e : Env} {s : State} {m : MethodId} {args : Array Value} {below : List Frame} {meth : Method} {c : Code} {g : MG} (C : CC p s m args meth c yX12_looksAt cX12_looksAt 9 (some .int)) (K : mK g s) (G : mSep g)  (S : MS) (v1 : Int32) (v2 : Int32) (v3 : Int32) (v4 : Int32) {w : Int32 × MS} (hv : fX12_looksAt S v1 v2 v3 v4 = some w) : MJ p l e s m args below meth c 9 1 g (some (.int w.1)) w.2 0 [(0, .ref (mo g)), (1, .int v1), (2, .int v2), (3, .int v3), (4, .int v4)] [] S := by
  unfold fX12_looksAt at hv
  refine jr_iload_n C dX12_looksAt_0 rfl 1 rfl ?_
  refine jr_if_eq (tgt := 32) C dX12_looksAt_1 rfl (fun q1 => ?_) (fun q1 => ?_)
  · have hv := (if_pos q1).symm.trans hv
    exact tX12_looksAt_32 C K G  S v1 v2 v3 v4 hv
  · have hv := (if_neg q1).symm.trans hv
    refine jr_iload C dX12_looksAt_4 4 rfl ?_
    refine jr_iconst (v := 4) C dX12_looksAt_6 (by decide) ?_
    refine jr_icmp_ne (tgt := 32) C dX12_looksAt_7 rfl (fun q7 => ?_) (fun q7 => ?_)
    · have hv := (if_neg q7).symm.trans hv
      exact tX12_looksAt_32 C K G  S v1 v2 v3 v4 hv
    · have hv := (if_pos q7).symm.trans hv
      refine jr_aload_n C dX12_looksAt_10 rfl 0 rfl ?_
      refine jr_iload_n C dX12_looksAt_11 rfl 2 rfl ?_
      obtain ⟨c12, hc12, hv⟩ := Option.bind_eq_some_iff.mp hv
      refine jm_call (rest := []) C K G (pX12_kindOf l G S v2 hc12) oX12_kindOf rfl kw_1360 rfl ⟨Nat.le_of_ble_eq_true rfl, Nat.le_of_ble_eq_true rfl⟩ rfl (Nat.le_of_ble_eq_true rfl) ⟨Nat.zero_le _, Nat.zero_le _⟩ dX12_looksAt_12 ?_
      refine jr_iconst (v := (-1)) C dX12_looksAt_15 (by decide) ?_
      refine jr_icmp_eq (tgt := 32) C dX12_looksAt_16 rfl (fun q16 => ?_) (fun q16 => ?_)
      · have hv := (if_pos q16).symm.trans hv
        exact tX12_looksAt_32 C K G  c12.2 v1 v2 v3 v4 hv
      · have hv := (if_neg q16).symm.trans hv
        refine jr_aload_n C dX12_looksAt_19 rfl 0 rfl ?_
        refine jr_iload_n C dX12_looksAt_20 rfl 2 rfl ?_
        obtain ⟨c21, hc21, hv⟩ := Option.bind_eq_some_iff.mp hv
        refine jm_call (rest := []) C K G (pX12_kindOf l G c12.2 v2 hc21) oX12_kindOf rfl kw_1360 rfl ⟨Nat.le_of_ble_eq_true rfl, Nat.le_of_ble_eq_true rfl⟩ rfl (Nat.le_of_ble_eq_true rfl) ⟨Nat.zero_le _, Nat.zero_le _⟩ dX12_looksAt_21 ?_
        refine jr_pcall (rest := []) C (pX12_isPose l c21.1) oX12_isPose kw_1375 rfl ⟨Nat.le_of_ble_eq_true rfl, Nat.le_of_ble_eq_true rfl⟩ rfl (Nat.le_of_ble_eq_true rfl) ⟨Nat.zero_le _, Nat.zero_le _⟩ dX12_looksAt_24 ?_
        refine jr_if_ne (tgt := 32) C dX12_looksAt_27 rfl (fun q27 => ?_) (fun q27 => ?_)
        · have hv := (if_neg q27).symm.trans hv
          exact tX12_looksAt_32 C K G  c21.2 v1 v2 v3 v4 hv
        · have hv := (if_pos q27).symm.trans hv
          refine jr_iconst (v := 2) C dX12_looksAt_30 (by decide) ?_
          exact jm_iret C K dX12_looksAt_31 (Option.some.inj hv)
theorem pX12_looksAt (l : Launch) {g : MG} (G : mSep g) (S : MS) (v1 : Int32) (v2 : Int32) (v3 : Int32) (v4 : Int32) {w : Int32} {S' : MS} (hw : fX12_looksAt S v1 v2 v3 v4 = some (w, S')) : mC l yX12_looksAt cX12_looksAt 9 (some .int) 1 g [.ref (mo g), .int v1, .int v2, .int v3, .int v4] S (some (.int w)) S' := mC_of (by decide +kernel) (Nat.le_of_ble_eq_true rfl) rfl (fun C K => tX12_looksAt_0 C K G S v1 v2 v3 v4 hw)
/-! RobotCellModel.poses(IIII)I -/
def fX12_poses_123 (S : MS) (v2 : Int32) (v3 : Int32) (v4 : Int32) (t1 : Int32) : Option (Int32 × MS) :=
  Option.bind (fX12_looksAt S t1 (v2 &&& 15) v3 (v4 &&& 7)) (fun c133 => some (c133.1, c133.2))
def fX12_poses_111 (S : MS) (v1 : Int32) (v2 : Int32) (v3 : Int32) (v4 : Int32) : Option (Int32 × MS) :=
  if v1 = 82 then fX12_poses_123 S v2 v3 v4 1 else fX12_poses_123 S v2 v3 v4 0
def fX12_poses_305 (S : MS) : Option (Int32 × MS) :=
  some (1, S)
def fX12_poses_399 (S : MS) : Option (Int32 × MS) :=
  some (0, S)
def fX12_poses_330 (S : MS) (v2 : Int32) (v5 : Int32) (v6 : Int32) : Option (Int32 × MS) :=
  if inb v5 (mlB 12) = true then (if inb v6 (mlB 12) = true then (Option.bind (fX12_less (gB S 12 (ix v5)) (gB S 12 (ix v6))) (fun c344 => if inb v5 (mlB 13) = true then (if inb v6 (mlB 13) = true then (Option.bind (fX12_less (gB S 13 (ix v5)) (gB S 13 (ix v6))) (fun c363 => Option.bind (fX12_product S c344 c344) (fun c381 => Option.bind (fX12_product c381.2 c363 c363) (fun c389 => Option.bind (fX12_sum c381.1 c389.1) (fun c392 => Option.bind (fX12_root c392) (fun c395 => if inb (v2 &&& 15) (mlB 4) = true then fX12_poses_399 (pB c389.2 4 (ix (v2 &&& 15)) c395) else none)))))) else none) else none)) else none) else none
def fX12_poses_318 (S : MS) (v2 : Int32) (v4 : Int32) (v5 : Int32) : Option (Int32 × MS) :=
  if inb (v4 &&& 15) (mlA 5) = true then fX12_poses_330 S v2 v5 (gA S 5 (ix (v4 &&& 15))) else none
def fX12_poses_286 (S : MS) (v2 : Int32) (v3 : Int32) (v4 : Int32) : Option (Int32 × MS) :=
  Option.bind (fX12_kindOf S v3) (fun c288 => if c288.1 = (-1) then fX12_poses_305 c288.2 else (Option.bind (fX12_kindOf c288.2 v4) (fun c298 => if c298.1 = (-1) then fX12_poses_305 c298.2 else (if inb (v3 &&& 15) (mlA 5) = true then fX12_poses_318 c298.2 v2 v4 (gA c298.2 5 (ix (v3 &&& 15))) else none))))
def fX12_poses_284 (S : MS) : Option (Int32 × MS) :=
  some (2, S)
def fX12_poses_262 (S : MS) (v2 : Int32) (v3 : Int32) (v4 : Int32) : Option (Int32 × MS) :=
  Option.bind (fX12_kindOf S v4) (fun c265 => if c265.1 = (-1) then fX12_poses_286 c265.2 v2 v3 v4 else (Option.bind (fX12_kindOf c265.2 v4) (fun c275 => if (fX12_isPose c275.1) = 0 then fX12_poses_284 c275.2 else fX12_poses_286 c275.2 v2 v3 v4)))
def fX12_poses_240 (S : MS) : Option (Int32 × MS) :=
  some (0, S)
def fX12_poses_213 (S : MS) (v4 : Int32) (v5 : Int32) : Option (Int32 × MS) :=
  if inb v5 (mlB 13) = true then (if inb (v4 &&& 15) (mlB 4) = true then (Option.bind (fX12_sum (gB S 13 (ix v5)) (gB S 4 (ix (v4 &&& 15)))) (fun c236 => if inb v5 (mlB 13) = true then fX12_poses_240 (pB S 13 (ix v5) c236) else none)) else none) else none
def fX12_poses_187 (S : MS) (v3 : Int32) (v4 : Int32) (v5 : Int32) : Option (Int32 × MS) :=
  if inb v5 (mlB 12) = true then (if inb (v3 &&& 15) (mlB 4) = true then (Option.bind (fX12_sum (gB S 12 (ix v5)) (gB S 4 (ix (v3 &&& 15)))) (fun c209 => if inb v5 (mlB 12) = true then fX12_poses_213 (pB S 12 (ix v5) c209) v4 v5 else none)) else none) else none
def fX12_poses_165 (S : MS) (v2 : Int32) (v3 : Int32) (v4 : Int32) : Option (Int32 × MS) :=
  Option.bind (fX12_kindOf S v2) (fun c167 => if c167.1 = (-1) then some (1, c167.2) else (if inb (v2 &&& 15) (mlA 5) = true then fX12_poses_187 c167.2 v3 v4 (gA c167.2 5 (ix (v2 &&& 15))) else none))
def fX12_poses_97 (S : MS) : Option (Int32 × MS) :=
  some (0, S)
def fX12_poses_86 (S : MS) (v2 : Int32) (v5 : Int32) : Option (Int32 × MS) :=
  if inb (v2 &&& 15) (mlA 5) = true then fX12_poses_97 (pA S 5 (ix (v2 &&& 15)) v5) else none
def fX12_poses_78 (S : MS) (v2 : Int32) (v5 : Int32) : Option (Int32 × MS) :=
  if inb v5 (mlA 17) = true then fX12_poses_86 (pA S 17 (ix v5) 0) v2 v5 else none
def fX12_poses_70 (S : MS) (v2 : Int32) (v5 : Int32) : Option (Int32 × MS) :=
  if inb v5 (mlA 16) = true then fX12_poses_78 (pA S 16 (ix v5) 0) v2 v5 else none
def fX12_poses_62 (S : MS) (v2 : Int32) (v5 : Int32) : Option (Int32 × MS) :=
  if inb v5 (mlB 15) = true then fX12_poses_70 (pB S 15 (ix v5) 0) v2 v5 else none
def fX12_poses_54 (S : MS) (v2 : Int32) (v5 : Int32) : Option (Int32 × MS) :=
  if inb v5 (mlB 14) = true then fX12_poses_62 (pB S 14 (ix v5) 0) v2 v5 else none
def fX12_poses_46 (S : MS) (v2 : Int32) (v5 : Int32) : Option (Int32 × MS) :=
  if inb v5 (mlB 13) = true then fX12_poses_54 (pB S 13 (ix v5) 0) v2 v5 else none
def fX12_poses_33 (S : MS) (v2 : Int32) (t1 : Int32) : Option (Int32 × MS) :=
  Option.bind (fX12_newThing S t1) (fun c33 => if inb c33.1 (mlB 12) = true then fX12_poses_46 (pB c33.2 12 (ix c33.1) 0) v2 c33.1 else none)
def fX12_poses (S : MS) (v1 : Int32) (v2 : Int32) (v3 : Int32) (v4 : Int32) : Option (Int32 × MS) :=
  if v1 = 80 then (Option.bind (fX12_hasRoom S 1) (fun c8 => if c8.1 = 0 then some (8, c8.2) else (if (v4 &&& 1) = 1 then fX12_poses_33 c8.2 v2 12 else fX12_poses_33 c8.2 v2 11))) else (if v1 = 81 then fX12_poses_111 S v1 v2 v3 v4 else (if v1 = 82 then fX12_poses_111 S v1 v2 v3 v4 else (if v1 = 83 then (Option.bind (fX12_kindOf S v2) (fun c145 => if c145.1 = (-1) then fX12_poses_165 c145.2 v2 v3 v4 else (Option.bind (fX12_kindOf c145.2 v2) (fun c154 => if (fX12_isPose c154.1) = 0 then some (2, c154.2) else fX12_poses_165 c154.2 v2 v3 v4)))) else (Option.bind (fX12_kindOf S v3) (fun c244 => if c244.1 = (-1) then fX12_poses_262 c244.2 v2 v3 v4 else (Option.bind (fX12_kindOf c244.2 v3) (fun c253 => if (fX12_isPose c253.1) = 0 then fX12_poses_284 c253.2 else fX12_poses_262 c253.2 v2 v3 v4)))))))
theorem oX12_poses : ok_v yX12_poses cX12_poses 11 (some .int) 4 := ⟨kw_1390, kw_1389, kw_64, kw_73, by decide +kernel⟩
set_option maxRecDepth 100000 in
theorem tX12_poses_123 {p : Program} {l : Launch} {e : Env} {s : State} {m : MethodId} {args : Array Value} {below : List Frame} {meth : Method} {c : Code} {g : MG} (C : CC p s m args meth c yX12_poses cX12_poses 11 (some .int)) (K : mK g s) (G : mSep g)  (S : MS) (v2 : Int32) (v3 : Int32) (v4 : Int32) (t1 : Int32) {w : Int32 × MS} (hv : fX12_poses_123 S v2 v3 v4 t1 = some w) : MJ p l e s m args below meth c 11 5 g (some (.int w.1)) w.2 123 [(2, .int v2), (3, .int v3), (4, .int v4)] [.int t1, .ref (mo g)] S := by
  unfold fX12_poses_123 at hv
  refine jr_iload_n C dX12_poses_123 rfl 0 rfl ?_
  refine jr_bipush (v := 15) C dX12_poses_124 (by decide) ?_
  refine jr_iand C dX12_poses_126 ?_
  refine jr_iload_n C dX12_poses_127 rfl 1 rfl ?_
  refine jr_iload C dX12_poses_128 2 rfl ?_
  refine jr_bipush (v := 7) C dX12_poses_130 (by decide) ?_
  refine jr_iand C dX12_poses_132 ?_
  obtain ⟨c133, hc133, hv⟩ := Option.bind_eq_some_iff.mp hv
  refine jm_call (rest := []) C K G (pX12_looksAt l G S t1 (v2 &&& 15) v3 (v4 &&& 7) hc133) oX12_looksAt rfl kw_1391 rfl ⟨Nat.le_of_ble_eq_true rfl, Nat.le_of_ble_eq_true rfl⟩ rfl (Nat.le_of_ble_eq_true rfl) ⟨Nat.zero_le _, Nat.zero_le _⟩ dX12_poses_133 ?_
  exact jm_iret C K dX12_poses_136 (Option.some.inj hv)
set_option maxRecDepth 100000 in
theorem tX12_poses_111 {p : Program} {l : Launch} {e : Env} {s : State} {m : MethodId} {args : Array Value} {below : List Frame} {meth : Method} {c : Code} {g : MG} (C : CC p s m args meth c yX12_poses cX12_poses 11 (some .int)) (K : mK g s) (G : mSep g)  (S : MS) (v1 : Int32) (v2 : Int32) (v3 : Int32) (v4 : Int32) {w : Int32 × MS} (hv : fX12_poses_111 S v1 v2 v3 v4 = some w) : MJ p l e s m args below meth c 11 5 g (some (.int w.1)) w.2 111 [(0, .ref (mo g)), (1, .int v1), (2, .int v2), (3, .int v3), (4, .int v4)] [] S := by
  unfold fX12_poses_111 at hv
  refine jr_aload_n C dX12_poses_111 rfl 0 rfl ?_
  refine jr_iload_n C dX12_poses_112 rfl 1 rfl ?_
  refine jr_bipush (v := 82) C dX12_poses_113 (by decide) ?_
  refine jr_icmp_ne (tgt := 122) C dX12_poses_115 rfl (fun q115 => ?_) (fun q115 => ?_)
  · have hv := (if_neg q115).symm.trans hv
    refine jr_iconst (v := 0) C dX12_poses_122 (by decide) ?_
    exact jr_sub [2, 3, 4] rfl (tX12_poses_123 C K G  S v2 v3 v4 0 hv)
  · have hv := (if_pos q115).symm.trans hv
    refine jr_iconst (v := 1) C dX12_poses_118 (by decide) ?_
    refine jr_goto (tgt := 123) C dX12_poses_119 rfl ?_
    exact jr_sub [2, 3, 4] rfl (tX12_poses_123 C K G  S v2 v3 v4 1 hv)
set_option maxRecDepth 100000 in
theorem tX12_poses_305 {p : Program} {l : Launch} {e : Env} {s : State} {m : MethodId} {args : Array Value} {below : List Frame} {meth : Method} {c : Code} {g : MG} (C : CC p s m args meth c yX12_poses cX12_poses 11 (some .int)) (K : mK g s) (G : mSep g)  (S : MS) {w : Int32 × MS} (hv : fX12_poses_305 S = some w) : MJ p l e s m args below meth c 11 5 g (some (.int w.1)) w.2 305 [] [] S := by
  unfold fX12_poses_305 at hv
  refine jr_iconst (v := 1) C dX12_poses_305 (by decide) ?_
  exact jm_iret C K dX12_poses_306 (Option.some.inj hv)
set_option maxRecDepth 100000 in
theorem tX12_poses_399 {p : Program} {l : Launch} {e : Env} {s : State} {m : MethodId} {args : Array Value} {below : List Frame} {meth : Method} {c : Code} {g : MG} (C : CC p s m args meth c yX12_poses cX12_poses 11 (some .int)) (K : mK g s) (G : mSep g)  (S : MS) {w : Int32 × MS} (hv : fX12_poses_399 S = some w) : MJ p l e s m args below meth c 11 5 g (some (.int w.1)) w.2 399 [] [] S := by
  unfold fX12_poses_399 at hv
  refine jr_iconst (v := 0) C dX12_poses_399 (by decide) ?_
  exact jm_iret C K dX12_poses_400 (Option.some.inj hv)
set_option maxRecDepth 100000 in
theorem tX12_poses_330 {p : Program} {l : Launch} {e : Env} {s : State} {m : MethodId} {args : Array Value} {below : List Frame} {meth : Method} {c : Code} {g : MG} (C : CC p s m args meth c yX12_poses cX12_poses 11 (some .int)) (K : mK g s) (G : mSep g)  (S : MS) (v2 : Int32) (v5 : Int32) (v6 : Int32) {w : Int32 × MS} (hv : fX12_poses_330 S v2 v5 v6 = some w) : MJ p l e s m args below meth c 11 5 g (some (.int w.1)) w.2 330 [(0, .ref (mo g)), (2, .int v2), (5, .int v5), (6, .int v6)] [] S := by
  unfold fX12_poses_330 at hv
  refine jr_aload_n C dX12_poses_330 rfl 0 rfl ?_
  refine jm_getA C K 12 (by decide) (by decide) kw_1447 rfl dX12_poses_331 ?_
  refine jr_iload C dX12_poses_334 2 rfl ?_
  by_cases z336 : inb v5 (mlB 12) = true
  case neg => exact op_none ((if_neg z336).symm.trans hv)
  have hv := (if_pos z336).symm.trans hv
  refine jm_lald C K z336 dX12_poses_336 ?_
  refine jr_aload_n C dX12_poses_337 rfl 0 rfl ?_
  refine jm_getA C K 12 (by decide) (by decide) kw_1447 rfl dX12_poses_338 ?_
  refine jr_iload C dX12_poses_341 3 rfl ?_
  by_cases z343 : inb v6 (mlB 12) = true
  case neg => exact op_none ((if_neg z343).symm.trans hv)
  have hv := (if_pos z343).symm.trans hv
  refine jm_lald C K z343 dX12_poses_343 ?_
  obtain ⟨c344, hc344, hv⟩ := Option.bind_eq_some_iff.mp hv
  refine jr_pcall (rest := []) C (pX12_less l (gB S 12 (ix v5)) (gB S 12 (ix v6)) hc344) oX12_less kw_1256 rfl ⟨Nat.le_of_ble_eq_true rfl, Nat.le_of_ble_eq_true rfl⟩ rfl (Nat.le_of_ble_eq_true rfl) ⟨Nat.zero_le _, Nat.zero_le _⟩ dX12_poses_344 ?_
  refine jr_lstore (lv' := [(7, .long c344), (0, .ref (mo g)), (2, .int v2), (5, .int v5), (6, .int v6)]) C dX12_poses_347 (by decide) rfl ?_
  refine jr_aload_n C dX12_poses_349 rfl 1 rfl ?_
  refine jm_getA C K 13 (by decide) (by decide) kw_1448 rfl dX12_poses_350 ?_
  refine jr_iload C dX12_poses_353 3 rfl ?_
  by_cases z355 : inb v5 (mlB 13) = true
  case neg => exact op_none ((if_neg z355).symm.trans hv)
  have hv := (if_pos z355).symm.trans hv
  refine jm_lald C K z355 dX12_poses_355 ?_
  refine jr_aload_n C dX12_poses_356 rfl 1 rfl ?_
  refine jm_getA C K 13 (by decide) (by decide) kw_1448 rfl dX12_poses_357 ?_
  refine jr_iload C dX12_poses_360 4 rfl ?_
  by_cases z362 : inb v6 (mlB 13) = true
  case neg => exact op_none ((if_neg z362).symm.trans hv)
  have hv := (if_pos z362).symm.trans hv
  refine jm_lald C K z362 dX12_poses_362 ?_
  obtain ⟨c363, hc363, hv⟩ := Option.bind_eq_some_iff.mp hv
  refine jr_pcall (rest := []) C (pX12_less l (gB S 13 (ix v5)) (gB S 13 (ix v6)) hc363) oX12_less kw_1256 rfl ⟨Nat.le_of_ble_eq_true rfl, Nat.le_of_ble_eq_true rfl⟩ rfl (Nat.le_of_ble_eq_true rfl) ⟨Nat.zero_le _, Nat.zero_le _⟩ dX12_poses_363 ?_
  refine jr_lstore (lv' := [(9, .long c363), (7, .long c344), (0, .ref (mo g)), (2, .int v2), (5, .int v5), (6, .int v6)]) C dX12_poses_366 (by decide) rfl ?_
  refine jr_aload_n C dX12_poses_368 rfl 2 rfl ?_
  refine jm_getA C K 4 (by decide) (by decide) kw_1439 rfl dX12_poses_369 ?_
  refine jr_iload_n C dX12_poses_372 rfl 3 rfl ?_
  refine jr_bipush (v := 15) C dX12_poses_373 (by decide) ?_
  refine jr_iand C dX12_poses_375 ?_
  refine jr_aload_n C dX12_poses_376 rfl 2 rfl ?_
  refine jr_lload C dX12_poses_377 1 rfl ?_
  refine jr_lload C dX12_poses_379 1 rfl ?_
  obtain ⟨c381, hc381, hv⟩ := Option.bind_eq_some_iff.mp hv
  refine jm_call (rest := [.int (v2 &&& 15), .ref (mad g 4)]) C K G (pX12_product l G S c344 c344 hc381) oX12_product rfl kw_1262 rfl ⟨Nat.le_of_ble_eq_true rfl, Nat.le_of_ble_eq_true rfl⟩ rfl (Nat.le_of_ble_eq_true rfl) ⟨Nat.zero_le _, Nat.zero_le _⟩ dX12_poses_381 ?_
  refine jr_aload_n C dX12_poses_384 rfl 2 rfl ?_
  refine jr_lload C dX12_poses_385 0 rfl ?_
  refine jr_lload C dX12_poses_387 0 rfl ?_
  obtain ⟨c389, hc389, hv⟩ := Option.bind_eq_some_iff.mp hv
  refine jm_call (rest := [.long c381.1, .int (v2 &&& 15), .ref (mad g 4)]) C K G (pX12_product l G c381.2 c363 c363 hc389) oX12_product rfl kw_1262 rfl ⟨Nat.le_of_ble_eq_true rfl, Nat.le_of_ble_eq_true rfl⟩ rfl (Nat.le_of_ble_eq_true rfl) ⟨Nat.zero_le _, Nat.zero_le _⟩ dX12_poses_389 ?_
  obtain ⟨c392, hc392, hv⟩ := Option.bind_eq_some_iff.mp hv
  refine jr_pcall (rest := [.int (v2 &&& 15), .ref (mad g 4)]) C (pX12_sum l c381.1 c389.1 hc392) oX12_sum kw_1253 rfl ⟨Nat.le_of_ble_eq_true rfl, Nat.le_of_ble_eq_true rfl⟩ rfl (Nat.le_of_ble_eq_true rfl) ⟨Nat.zero_le _, Nat.zero_le _⟩ dX12_poses_392 ?_
  obtain ⟨c395, hc395, hv⟩ := Option.bind_eq_some_iff.mp hv
  refine jr_pcall (rest := [.int (v2 &&& 15), .ref (mad g 4)]) C (pX12_root l c392 hc395) oX12_root kw_1287 rfl ⟨Nat.le_of_ble_eq_true rfl, Nat.le_of_ble_eq_true rfl⟩ rfl (Nat.le_of_ble_eq_true rfl) ⟨Nat.zero_le _, Nat.zero_le _⟩ dX12_poses_395 ?_
  by_cases z398 : inb (v2 &&& 15) (mlB 4) = true
  case neg => exact op_none ((if_neg z398).symm.trans hv)
  have hv := (if_pos z398).symm.trans hv
  refine jm_last C K G z398 dX12_poses_398 ?_
  exact jr_sub [] rfl (tX12_poses_399 C K G  (pB c389.2 4 (ix (v2 &&& 15)) c395) hv)
set_option maxRecDepth 100000 in
theorem tX12_poses_318 {p : Program} {l : Launch} {e : Env} {s : State} {m : MethodId} {args : Array Value} {below : List Frame} {meth : Method} {c : Code} {g : MG} (C : CC p s m args meth c yX12_poses cX12_poses 11 (some .int)) (K : mK g s) (G : mSep g)  (S : MS) (v2 : Int32) (v4 : Int32) (v5 : Int32) {w : Int32 × MS} (hv : fX12_poses_318 S v2 v4 v5 = some w) : MJ p l e s m args below meth c 11 5 g (some (.int w.1)) w.2 318 [(0, .ref (mo g)), (2, .int v2), (4, .int v4), (5, .int v5)] [] S := by
  unfold fX12_poses_318 at hv
  refine jr_aload_n C dX12_poses_318 rfl 0 rfl ?_
  refine jm_getA C K 5 (by decide) (by decide) kw_1440 rfl dX12_poses_319 ?_
  refine jr_iload C dX12_poses_322 2 rfl ?_
  refine jr_bipush (v := 15) C dX12_poses_324 (by decide) ?_
  refine jr_iand C dX12_poses_326 ?_
  by_cases z327 : inb (v4 &&& 15) (mlA 5) = true
  case neg => exact op_none ((if_neg z327).symm.trans hv)
  have hv := (if_pos z327).symm.trans hv
  refine jm_iald C K z327 dX12_poses_327 ?_
  refine jr_istore (lv' := [(6, .int (gA S 5 (ix (v4 &&& 15)))), (0, .ref (mo g)), (2, .int v2), (4, .int v4), (5, .int v5)]) C dX12_poses_328 (by decide) rfl ?_
  exact jr_sub [1, 2, 4, 0] rfl (tX12_poses_330 C K G  S v2 v5 (gA S 5 (ix (v4 &&& 15))) hv)
set_option maxRecDepth 100000 in
theorem tX12_poses_286 {p : Program} {l : Launch} {e : Env} {s : State} {m : MethodId} {args : Array Value} {below : List Frame} {meth : Method} {c : Code} {g : MG} (C : CC p s m args meth c yX12_poses cX12_poses 11 (some .int)) (K : mK g s) (G : mSep g)  (S : MS) (v2 : Int32) (v3 : Int32) (v4 : Int32) {w : Int32 × MS} (hv : fX12_poses_286 S v2 v3 v4 = some w) : MJ p l e s m args below meth c 11 5 g (some (.int w.1)) w.2 286 [(0, .ref (mo g)), (2, .int v2), (3, .int v3), (4, .int v4)] [] S := by
  unfold fX12_poses_286 at hv
  refine jr_aload_n C dX12_poses_286 rfl 0 rfl ?_
  refine jr_iload_n C dX12_poses_287 rfl 2 rfl ?_
  obtain ⟨c288, hc288, hv⟩ := Option.bind_eq_some_iff.mp hv
  refine jm_call (rest := []) C K G (pX12_kindOf l G S v3 hc288) oX12_kindOf rfl kw_1360 rfl ⟨Nat.le_of_ble_eq_true rfl, Nat.le_of_ble_eq_true rfl⟩ rfl (Nat.le_of_ble_eq_true rfl) ⟨Nat.zero_le _, Nat.zero_le _⟩ dX12_poses_288 ?_
  refine jr_iconst (v := (-1)) C dX12_poses_291 (by decide) ?_
  refine jr_icmp_eq (tgt := 305) C dX12_poses_292 rfl (fun q292 => ?_) (fun q292 => ?_)
  · have hv := (if_pos q292).symm.trans hv
    exact jr_sub [] rfl (tX12_poses_305 C K G  c288.2 hv)
  · have hv := (if_neg q292).symm.trans hv
    refine jr_aload_n C dX12_poses_295 rfl 0 rfl ?_
    refine jr_iload C dX12_poses_296 3 rfl ?_
    obtain ⟨c298, hc298, hv⟩ := Option.bind_eq_some_iff.mp hv
    refine jm_call (rest := []) C K G (pX12_kindOf l G c288.2 v4 hc298) oX12_kindOf rfl kw_1360 rfl ⟨Nat.le_of_ble_eq_true rfl, Nat.le_of_ble_eq_true rfl⟩ rfl (Nat.le_of_ble_eq_true rfl) ⟨Nat.zero_le _, Nat.zero_le _⟩ dX12_poses_298 ?_
    refine jr_iconst (v := (-1)) C dX12_poses_301 (by decide) ?_
    refine jr_icmp_ne (tgt := 307) C dX12_poses_302 rfl (fun q302 => ?_) (fun q302 => ?_)
    · have hv := (if_neg q302).symm.trans hv
      refine jr_aload_n C dX12_poses_307 rfl 0 rfl ?_
      refine jm_getA C K 5 (by decide) (by decide) kw_1440 rfl dX12_poses_308 ?_
      refine jr_iload_n C dX12_poses_311 rfl 2 rfl ?_
      refine jr_bipush (v := 15) C dX12_poses_312 (by decide) ?_
      refine jr_iand C dX12_poses_314 ?_
      by_cases z315 : inb (v3 &&& 15) (mlA 5) = true
      case neg => exact op_none ((if_neg z315).symm.trans hv)
      have hv := (if_pos z315).symm.trans hv
      refine jm_iald C K z315 dX12_poses_315 ?_
      refine jr_istore (lv' := [(5, .int (gA c298.2 5 (ix (v3 &&& 15)))), (0, .ref (mo g)), (2, .int v2), (3, .int v3), (4, .int v4)]) C dX12_poses_316 (by decide) rfl ?_
      exact jr_sub [1, 2, 4, 0] rfl (tX12_poses_318 C K G  c298.2 v2 v4 (gA c298.2 5 (ix (v3 &&& 15))) hv)
    · have hv := (if_pos q302).symm.trans hv
      exact jr_sub [] rfl (tX12_poses_305 C K G  c298.2 hv)
set_option maxRecDepth 100000 in
theorem tX12_poses_284 {p : Program} {l : Launch} {e : Env} {s : State} {m : MethodId} {args : Array Value} {below : List Frame} {meth : Method} {c : Code} {g : MG} (C : CC p s m args meth c yX12_poses cX12_poses 11 (some .int)) (K : mK g s) (G : mSep g)  (S : MS) {w : Int32 × MS} (hv : fX12_poses_284 S = some w) : MJ p l e s m args below meth c 11 5 g (some (.int w.1)) w.2 284 [] [] S := by
  unfold fX12_poses_284 at hv
  refine jr_iconst (v := 2) C dX12_poses_284 (by decide) ?_
  exact jm_iret C K dX12_poses_285 (Option.some.inj hv)
set_option maxRecDepth 100000 in
theorem tX12_poses_262 {p : Program} {l : Launch} {e : Env} {s : State} {m : MethodId} {args : Array Value} {below : List Frame} {meth : Method} {c : Code} {g : MG} (C : CC p s m args meth c yX12_poses cX12_poses 11 (some .int)) (K : mK g s) (G : mSep g)  (S : MS) (v2 : Int32) (v3 : Int32) (v4 : Int32) {w : Int32 × MS} (hv : fX12_poses_262 S v2 v3 v4 = some w) : MJ p l e s m args below meth c 11 5 g (some (.int w.1)) w.2 262 [(0, .ref (mo g)), (2, .int v2), (3, .int v3), (4, .int v4)] [] S := by
  unfold fX12_poses_262 at hv
  refine jr_aload_n C dX12_poses_262 rfl 0 rfl ?_
  refine jr_iload C dX12_poses_263 3 rfl ?_
  obtain ⟨c265, hc265, hv⟩ := Option.bind_eq_some_iff.mp hv
  refine jm_call (rest := []) C K G (pX12_kindOf l G S v4 hc265) oX12_kindOf rfl kw_1360 rfl ⟨Nat.le_of_ble_eq_true rfl, Nat.le_of_ble_eq_true rfl⟩ rfl (Nat.le_of_ble_eq_true rfl) ⟨Nat.zero_le _, Nat.zero_le _⟩ dX12_poses_265 ?_
  refine jr_iconst (v := (-1)) C dX12_poses_268 (by decide) ?_
  refine jr_icmp_eq (tgt := 286) C dX12_poses_269 rfl (fun q269 => ?_) (fun q269 => ?_)
  · have hv := (if_pos q269).symm.trans hv
    exact tX12_poses_286 C K G  c265.2 v2 v3 v4 hv
  · have hv := (if_neg q269).symm.trans hv
    refine jr_aload_n C dX12_poses_272 rfl 0 rfl ?_
    refine jr_iload C dX12_poses_273 3 rfl ?_
    obtain ⟨c275, hc275, hv⟩ := Option.bind_eq_some_iff.mp hv
    refine jm_call (rest := []) C K G (pX12_kindOf l G c265.2 v4 hc275) oX12_kindOf rfl kw_1360 rfl ⟨Nat.le_of_ble_eq_true rfl, Nat.le_of_ble_eq_true rfl⟩ rfl (Nat.le_of_ble_eq_true rfl) ⟨Nat.zero_le _, Nat.zero_le _⟩ dX12_poses_275 ?_
    refine jr_pcall (rest := []) C (pX12_isPose l c275.1) oX12_isPose kw_1375 rfl ⟨Nat.le_of_ble_eq_true rfl, Nat.le_of_ble_eq_true rfl⟩ rfl (Nat.le_of_ble_eq_true rfl) ⟨Nat.zero_le _, Nat.zero_le _⟩ dX12_poses_278 ?_
    refine jr_if_ne (tgt := 286) C dX12_poses_281 rfl (fun q281 => ?_) (fun q281 => ?_)
    · have hv := (if_neg q281).symm.trans hv
      exact tX12_poses_286 C K G  c275.2 v2 v3 v4 hv
    · have hv := (if_pos q281).symm.trans hv
      exact jr_sub [] rfl (tX12_poses_284 C K G  c275.2 hv)
set_option maxRecDepth 100000 in
theorem tX12_poses_240 {p : Program} {l : Launch} {e : Env} {s : State} {m : MethodId} {args : Array Value} {below : List Frame} {meth : Method} {c : Code} {g : MG} (C : CC p s m args meth c yX12_poses cX12_poses 11 (some .int)) (K : mK g s) (G : mSep g)  (S : MS) {w : Int32 × MS} (hv : fX12_poses_240 S = some w) : MJ p l e s m args below meth c 11 5 g (some (.int w.1)) w.2 240 [] [] S := by
  unfold fX12_poses_240 at hv
  refine jr_iconst (v := 0) C dX12_poses_240 (by decide) ?_
  exact jm_iret C K dX12_poses_241 (Option.some.inj hv)
set_option maxRecDepth 100000 in
theorem tX12_poses_213 {p : Program} {l : Launch} {e : Env} {s : State} {m : MethodId} {args : Array Value} {below : List Frame} {meth : Method} {c : Code} {g : MG} (C : CC p s m args meth c yX12_poses cX12_poses 11 (some .int)) (K : mK g s) (G : mSep g)  (S : MS) (v4 : Int32) (v5 : Int32) {w : Int32 × MS} (hv : fX12_poses_213 S v4 v5 = some w) : MJ p l e s m args below meth c 11 5 g (some (.int w.1)) w.2 213 [(0, .ref (mo g)), (4, .int v4), (5, .int v5)] [] S := by
  unfold fX12_poses_213 at hv
  refine jr_aload_n C dX12_poses_213 rfl 0 rfl ?_
  refine jm_getA C K 13 (by decide) (by decide) kw_1448 rfl dX12_poses_214 ?_
  refine jr_iload C dX12_poses_217 2 rfl ?_
  refine jr_aload_n C dX12_poses_219 rfl 0 rfl ?_
  refine jm_getA C K 13 (by decide) (by decide) kw_1448 rfl dX12_poses_220 ?_
  refine jr_iload C dX12_poses_223 2 rfl ?_
  by_cases z225 : inb v5 (mlB 13) = true
  case neg => exact op_none ((if_neg z225).symm.trans hv)
  have hv := (if_pos z225).symm.trans hv
  refine jm_lald C K z225 dX12_poses_225 ?_
  refine jr_aload_n C dX12_poses_226 rfl 0 rfl ?_
  refine jm_getA C K 4 (by decide) (by decide) kw_1439 rfl dX12_poses_227 ?_
  refine jr_iload C dX12_poses_230 1 rfl ?_
  refine jr_bipush (v := 15) C dX12_poses_232 (by decide) ?_
  refine jr_iand C dX12_poses_234 ?_
  by_cases z235 : inb (v4 &&& 15) (mlB 4) = true
  case neg => exact op_none ((if_neg z235).symm.trans hv)
  have hv := (if_pos z235).symm.trans hv
  refine jm_lald C K z235 dX12_poses_235 ?_
  obtain ⟨c236, hc236, hv⟩ := Option.bind_eq_some_iff.mp hv
  refine jr_pcall (rest := [.int v5, .ref (mad g 13)]) C (pX12_sum l (gB S 13 (ix v5)) (gB S 4 (ix (v4 &&& 15))) hc236) oX12_sum kw_1253 rfl ⟨Nat.le_of_ble_eq_true rfl, Nat.le_of_ble_eq_true rfl⟩ rfl (Nat.le_of_ble_eq_true rfl) ⟨Nat.zero_le _, Nat.zero_le _⟩ dX12_poses_236 ?_
  by_cases z239 : inb v5 (mlB 13) = true
  case neg => exact op_none ((if_neg z239).symm.trans hv)
  have hv := (if_pos z239).symm.trans hv
  refine jm_last C K G z239 dX12_poses_239 ?_
  exact jr_sub [] rfl (tX12_poses_240 C K G  (pB S 13 (ix v5) c236) hv)
set_option maxRecDepth 100000 in
theorem tX12_poses_187 {p : Program} {l : Launch} {e : Env} {s : State} {m : MethodId} {args : Array Value} {below : List Frame} {meth : Method} {c : Code} {g : MG} (C : CC p s m args meth c yX12_poses cX12_poses 11 (some .int)) (K : mK g s) (G : mSep g)  (S : MS) (v3 : Int32) (v4 : Int32) (v5 : Int32) {w : Int32 × MS} (hv : fX12_poses_187 S v3 v4 v5 = some w) : MJ p l e s m args below meth c 11 5 g (some (.int w.1)) w.2 187 [(0, .ref (mo g)), (3, .int v3), (4, .int v4), (5, .int v5)] [] S := by
  unfold fX12_poses_187 at hv
  refine jr_aload_n C dX12_poses_187 rfl 0 rfl ?_
  refine jm_getA C K 12 (by decide) (by decide) kw_1447 rfl dX12_poses_188 ?_
  refine jr_iload C dX12_poses_191 3 rfl ?_
  refine jr_aload_n C dX12_poses_193 rfl 0 rfl ?_
  refine jm_getA C K 12 (by decide) (by decide) kw_1447 rfl dX12_poses_194 ?_
  refine jr_iload C dX12_poses_197 3 rfl ?_
  by_cases z199 : inb v5 (mlB 12) = true
  case neg => exact op_none ((if_neg z199).symm.trans hv)
  have hv := (if_pos z199).symm.trans hv
  refine jm_lald C K z199 dX12_poses_199 ?_
  refine jr_aload_n C dX12_poses_200 rfl 0 rfl ?_
  refine jm_getA C K 4 (by decide) (by decide) kw_1439 rfl dX12_poses_201 ?_
  refine jr_iload_n C dX12_poses_204 rfl 1 rfl ?_
  refine jr_bipush (v := 15) C dX12_poses_205 (by decide) ?_
  refine jr_iand C dX12_poses_207 ?_
  by_cases z208 : inb (v3 &&& 15) (mlB 4) = true
  case neg => exact op_none ((if_neg z208).symm.trans hv)
  have hv := (if_pos z208).symm.trans hv
  refine jm_lald C K z208 dX12_poses_208 ?_
  obtain ⟨c209, hc209, hv⟩ := Option.bind_eq_some_iff.mp hv
  refine jr_pcall (rest := [.int v5, .ref (mad g 12)]) C (pX12_sum l (gB S 12 (ix v5)) (gB S 4 (ix (v3 &&& 15))) hc209) oX12_sum kw_1253 rfl ⟨Nat.le_of_ble_eq_true rfl, Nat.le_of_ble_eq_true rfl⟩ rfl (Nat.le_of_ble_eq_true rfl) ⟨Nat.zero_le _, Nat.zero_le _⟩ dX12_poses_209 ?_
  by_cases z212 : inb v5 (mlB 12) = true
  case neg => exact op_none ((if_neg z212).symm.trans hv)
  have hv := (if_pos z212).symm.trans hv
  refine jm_last C K G z212 dX12_poses_212 ?_
  exact jr_sub [0, 2, 3] rfl (tX12_poses_213 C K G  (pB S 12 (ix v5) c209) v4 v5 hv)
set_option maxRecDepth 100000 in
theorem tX12_poses_165 {p : Program} {l : Launch} {e : Env} {s : State} {m : MethodId} {args : Array Value} {below : List Frame} {meth : Method} {c : Code} {g : MG} (C : CC p s m args meth c yX12_poses cX12_poses 11 (some .int)) (K : mK g s) (G : mSep g)  (S : MS) (v2 : Int32) (v3 : Int32) (v4 : Int32) {w : Int32 × MS} (hv : fX12_poses_165 S v2 v3 v4 = some w) : MJ p l e s m args below meth c 11 5 g (some (.int w.1)) w.2 165 [(0, .ref (mo g)), (2, .int v2), (3, .int v3), (4, .int v4)] [] S := by
  unfold fX12_poses_165 at hv
  refine jr_aload_n C dX12_poses_165 rfl 0 rfl ?_
  refine jr_iload_n C dX12_poses_166 rfl 1 rfl ?_
  obtain ⟨c167, hc167, hv⟩ := Option.bind_eq_some_iff.mp hv
  refine jm_call (rest := []) C K G (pX12_kindOf l G S v2 hc167) oX12_kindOf rfl kw_1360 rfl ⟨Nat.le_of_ble_eq_true rfl, Nat.le_of_ble_eq_true rfl⟩ rfl (Nat.le_of_ble_eq_true rfl) ⟨Nat.zero_le _, Nat.zero_le _⟩ dX12_poses_167 ?_
  refine jr_iconst (v := (-1)) C dX12_poses_170 (by decide) ?_
  refine jr_icmp_ne (tgt := 176) C dX12_poses_171 rfl (fun q171 => ?_) (fun q171 => ?_)
  · have hv := (if_neg q171).symm.trans hv
    refine jr_aload_n C dX12_poses_176 rfl 0 rfl ?_
    refine jm_getA C K 5 (by decide) (by decide) kw_1440 rfl dX12_poses_177 ?_
    refine jr_iload_n C dX12_poses_180 rfl 1 rfl ?_
    refine jr_bipush (v := 15) C dX12_poses_181 (by decide) ?_
    refine jr_iand C dX12_poses_183 ?_
    by_cases z184 : inb (v2 &&& 15) (mlA 5) = true
    case neg => exact op_none ((if_neg z184).symm.trans hv)
    have hv := (if_pos z184).symm.trans hv
    refine jm_iald C K z184 dX12_poses_184 ?_
    refine jr_istore (lv' := [(5, .int (gA c167.2 5 (ix (v2 &&& 15)))), (0, .ref (mo g)), (2, .int v2), (3, .int v3), (4, .int v4)]) C dX12_poses_185 (by decide) rfl ?_
    exact jr_sub [1, 3, 4, 0] rfl (tX12_poses_187 C K G  c167.2 v3 v4 (gA c167.2 5 (ix (v2 &&& 15))) hv)
  · have hv := (if_pos q171).symm.trans hv
    refine jr_iconst (v := 1) C dX12_poses_174 (by decide) ?_
    exact jm_iret C K dX12_poses_175 (Option.some.inj hv)
set_option maxRecDepth 100000 in
theorem tX12_poses_97 {p : Program} {l : Launch} {e : Env} {s : State} {m : MethodId} {args : Array Value} {below : List Frame} {meth : Method} {c : Code} {g : MG} (C : CC p s m args meth c yX12_poses cX12_poses 11 (some .int)) (K : mK g s) (G : mSep g)  (S : MS) {w : Int32 × MS} (hv : fX12_poses_97 S = some w) : MJ p l e s m args below meth c 11 5 g (some (.int w.1)) w.2 97 [] [] S := by
  unfold fX12_poses_97 at hv
  refine jr_iconst (v := 0) C dX12_poses_97 (by decide) ?_
  exact jm_iret C K dX12_poses_98 (Option.some.inj hv)
set_option maxRecDepth 100000 in
theorem tX12_poses_86 {p : Program} {l : Launch} {e : Env} {s : State} {m : MethodId} {args : Array Value} {below : List Frame} {meth : Method} {c : Code} {g : MG} (C : CC p s m args meth c yX12_poses cX12_poses 11 (some .int)) (K : mK g s) (G : mSep g)  (S : MS) (v2 : Int32) (v5 : Int32) {w : Int32 × MS} (hv : fX12_poses_86 S v2 v5 = some w) : MJ p l e s m args below meth c 11 5 g (some (.int w.1)) w.2 86 [(0, .ref (mo g)), (2, .int v2), (5, .int v5)] [] S := by
  unfold fX12_poses_86 at hv
  refine jr_aload_n C dX12_poses_86 rfl 0 rfl ?_
  refine jm_getA C K 5 (by decide) (by decide) kw_1440 rfl dX12_poses_87 ?_
  refine jr_iload_n C dX12_poses_90 rfl 1 rfl ?_
  refine jr_bipush (v := 15) C dX12_poses_91 (by decide) ?_
  refine jr_iand C dX12_poses_93 ?_
  refine jr_iload C dX12_poses_94 2 rfl ?_
  by_cases z96 : inb (v2 &&& 15) (mlA 5) = true
  case neg => exact op_none ((if_neg z96).symm.trans hv)
  have hv := (if_pos z96).symm.trans hv
  refine jm_iast C K G z96 dX12_poses_96 ?_
  exact jr_sub [] rfl (tX12_poses_97 C K G  (pA S 5 (ix (v2 &&& 15)) v5) hv)
set_option maxRecDepth 100000 in
theorem tX12_poses_78 {p : Program} {l : Launch} {e : Env} {s : State} {m : MethodId} {args : Array Value} {below : List Frame} {meth : Method} {c : Code} {g : MG} (C : CC p s m args meth c yX12_poses cX12_poses 11 (some .int)) (K : mK g s) (G : mSep g)  (S : MS) (v2 : Int32) (v5 : Int32) {w : Int32 × MS} (hv : fX12_poses_78 S v2 v5 = some w) : MJ p l e s m args below meth c 11 5 g (some (.int w.1)) w.2 78 [(0, .ref (mo g)), (2, .int v2), (5, .int v5)] [] S := by
  unfold fX12_poses_78 at hv
  refine jr_aload_n C dX12_poses_78 rfl 0 rfl ?_
  refine jm_getA C K 17 (by decide) (by decide) kw_1452 rfl dX12_poses_79 ?_
  refine jr_iload C dX12_poses_82 2 rfl ?_
  refine jr_iconst (v := 0) C dX12_poses_84 (by decide) ?_
  by_cases z85 : inb v5 (mlA 17) = true
  case neg => exact op_none ((if_neg z85).symm.trans hv)
  have hv := (if_pos z85).symm.trans hv
  refine jm_iast C K G z85 dX12_poses_85 ?_
  exact tX12_poses_86 C K G  (pA S 17 (ix v5) 0) v2 v5 hv
set_option maxRecDepth 100000 in
theorem tX12_poses_70 {p : Program} {l : Launch} {e : Env} {s : State} {m : MethodId} {args : Array Value} {below : List Frame} {meth : Method} {c : Code} {g : MG} (C : CC p s m args meth c yX12_poses cX12_poses 11 (some .int)) (K : mK g s) (G : mSep g)  (S : MS) (v2 : Int32) (v5 : Int32) {w : Int32 × MS} (hv : fX12_poses_70 S v2 v5 = some w) : MJ p l e s m args below meth c 11 5 g (some (.int w.1)) w.2 70 [(0, .ref (mo g)), (2, .int v2), (5, .int v5)] [] S := by
  unfold fX12_poses_70 at hv
  refine jr_aload_n C dX12_poses_70 rfl 0 rfl ?_
  refine jm_getA C K 16 (by decide) (by decide) kw_1451 rfl dX12_poses_71 ?_
  refine jr_iload C dX12_poses_74 2 rfl ?_
  refine jr_iconst (v := 0) C dX12_poses_76 (by decide) ?_
  by_cases z77 : inb v5 (mlA 16) = true
  case neg => exact op_none ((if_neg z77).symm.trans hv)
  have hv := (if_pos z77).symm.trans hv
  refine jm_iast C K G z77 dX12_poses_77 ?_
  exact tX12_poses_78 C K G  (pA S 16 (ix v5) 0) v2 v5 hv
set_option maxRecDepth 100000 in
theorem tX12_poses_62 {p : Program} {l : Launch} {e : Env} {s : State} {m : MethodId} {args : Array Value} {below : List Frame} {meth : Method} {c : Code} {g : MG} (C : CC p s m args meth c yX12_poses cX12_poses 11 (some .int)) (K : mK g s) (G : mSep g)  (S : MS) (v2 : Int32) (v5 : Int32) {w : Int32 × MS} (hv : fX12_poses_62 S v2 v5 = some w) : MJ p l e s m args below meth c 11 5 g (some (.int w.1)) w.2 62 [(0, .ref (mo g)), (2, .int v2), (5, .int v5)] [] S := by
  unfold fX12_poses_62 at hv
  refine jr_aload_n C dX12_poses_62 rfl 0 rfl ?_
  refine jm_getA C K 15 (by decide) (by decide) kw_1450 rfl dX12_poses_63 ?_
  refine jr_iload C dX12_poses_66 2 rfl ?_
  refine jr_lconst (v := 0) C dX12_poses_68 (by decide) ?_
  by_cases z69 : inb v5 (mlB 15) = true
  case neg => exact op_none ((if_neg z69).symm.trans hv)
  have hv := (if_pos z69).symm.trans hv
  refine jm_last C K G z69 dX12_poses_69 ?_
  exact tX12_poses_70 C K G  (pB S 15 (ix v5) 0) v2 v5 hv
set_option maxRecDepth 100000 in
theorem tX12_poses_54 {p : Program} {l : Launch} {e : Env} {s : State} {m : MethodId} {args : Array Value} {below : List Frame} {meth : Method} {c : Code} {g : MG} (C : CC p s m args meth c yX12_poses cX12_poses 11 (some .int)) (K : mK g s) (G : mSep g)  (S : MS) (v2 : Int32) (v5 : Int32) {w : Int32 × MS} (hv : fX12_poses_54 S v2 v5 = some w) : MJ p l e s m args below meth c 11 5 g (some (.int w.1)) w.2 54 [(0, .ref (mo g)), (2, .int v2), (5, .int v5)] [] S := by
  unfold fX12_poses_54 at hv
  refine jr_aload_n C dX12_poses_54 rfl 0 rfl ?_
  refine jm_getA C K 14 (by decide) (by decide) kw_1449 rfl dX12_poses_55 ?_
  refine jr_iload C dX12_poses_58 2 rfl ?_
  refine jr_lconst (v := 0) C dX12_poses_60 (by decide) ?_
  by_cases z61 : inb v5 (mlB 14) = true
  case neg => exact op_none ((if_neg z61).symm.trans hv)
  have hv := (if_pos z61).symm.trans hv
  refine jm_last C K G z61 dX12_poses_61 ?_
  exact tX12_poses_62 C K G  (pB S 14 (ix v5) 0) v2 v5 hv
set_option maxRecDepth 100000 in
theorem tX12_poses_46 {p : Program} {l : Launch} {e : Env} {s : State} {m : MethodId} {args : Array Value} {below : List Frame} {meth : Method} {c : Code} {g : MG} (C : CC p s m args meth c yX12_poses cX12_poses 11 (some .int)) (K : mK g s) (G : mSep g)  (S : MS) (v2 : Int32) (v5 : Int32) {w : Int32 × MS} (hv : fX12_poses_46 S v2 v5 = some w) : MJ p l e s m args below meth c 11 5 g (some (.int w.1)) w.2 46 [(0, .ref (mo g)), (2, .int v2), (5, .int v5)] [] S := by
  unfold fX12_poses_46 at hv
  refine jr_aload_n C dX12_poses_46 rfl 0 rfl ?_
  refine jm_getA C K 13 (by decide) (by decide) kw_1448 rfl dX12_poses_47 ?_
  refine jr_iload C dX12_poses_50 2 rfl ?_
  refine jr_lconst (v := 0) C dX12_poses_52 (by decide) ?_
  by_cases z53 : inb v5 (mlB 13) = true
  case neg => exact op_none ((if_neg z53).symm.trans hv)
  have hv := (if_pos z53).symm.trans hv
  refine jm_last C K G z53 dX12_poses_53 ?_
  exact tX12_poses_54 C K G  (pB S 13 (ix v5) 0) v2 v5 hv
set_option maxRecDepth 100000 in
theorem tX12_poses_33 {p : Program} {l : Launch} {e : Env} {s : State} {m : MethodId} {args : Array Value} {below : List Frame} {meth : Method} {c : Code} {g : MG} (C : CC p s m args meth c yX12_poses cX12_poses 11 (some .int)) (K : mK g s) (G : mSep g)  (S : MS) (v2 : Int32) (t1 : Int32) {w : Int32 × MS} (hv : fX12_poses_33 S v2 t1 = some w) : MJ p l e s m args below meth c 11 5 g (some (.int w.1)) w.2 33 [(0, .ref (mo g)), (2, .int v2)] [.int t1, .ref (mo g)] S := by
  unfold fX12_poses_33 at hv
  obtain ⟨c33, hc33, hv⟩ := Option.bind_eq_some_iff.mp hv
  refine jm_call (rest := []) C K G (pX12_newThing l G S t1 hc33) oX12_newThing rfl kw_1355 rfl ⟨Nat.le_of_ble_eq_true rfl, Nat.le_of_ble_eq_true rfl⟩ rfl (Nat.le_of_ble_eq_true rfl) ⟨Nat.zero_le _, Nat.zero_le _⟩ dX12_poses_33 ?_
  refine jr_istore (lv' := [(5, .int c33.1), (0, .ref (mo g)), (2, .int v2)]) C dX12_poses_36 (by decide) rfl ?_
  refine jr_aload_n C dX12_poses_38 rfl 1 rfl ?_
  refine jm_getA C K 12 (by decide) (by decide) kw_1447 rfl dX12_poses_39 ?_
  refine jr_iload C dX12_poses_42 0 rfl ?_
  refine jr_lconst (v := 0) C dX12_poses_44 (by decide) ?_
  by_cases z45 : inb c33.1 (mlB 12) = true
  case neg => exact op_none ((if_neg z45).symm.trans hv)
  have hv := (if_pos z45).symm.trans hv
  refine jm_last C K G z45 dX12_poses_45 ?_
  exact jr_sub [1, 2, 0] rfl (tX12_poses_46 C K G  (pB c33.2 12 (ix c33.1) 0) v2 c33.1 hv)
set_option maxRecDepth 100000 in
theorem tX12_poses_0 {p : Program} {l : Launch} {e : Env} {s : State} {m : MethodId} {args : Array Value} {below : List Frame} {meth : Method} {c : Code} {g : MG} (C : CC p s m args meth c yX12_poses cX12_poses 11 (some .int)) (K : mK g s) (G : mSep g)  (S : MS) (v1 : Int32) (v2 : Int32) (v3 : Int32) (v4 : Int32) {w : Int32 × MS} (hv : fX12_poses S v1 v2 v3 v4 = some w) : MJ p l e s m args below meth c 11 5 g (some (.int w.1)) w.2 0 [(0, .ref (mo g)), (1, .int v1), (2, .int v2), (3, .int v3), (4, .int v4)] [] S := by
  unfold fX12_poses at hv
  refine jr_iload_n C dX12_poses_0 rfl 1 rfl ?_
  refine jr_bipush (v := 80) C dX12_poses_1 (by decide) ?_
  refine jr_icmp_ne (tgt := 99) C dX12_poses_3 rfl (fun q3 => ?_) (fun q3 => ?_)
  · have hv := (if_neg q3).symm.trans hv
    refine jr_iload_n C dX12_poses_99 rfl 1 rfl ?_
    refine jr_bipush (v := 81) C dX12_poses_100 (by decide) ?_
    refine jr_icmp_eq (tgt := 111) C dX12_poses_102 rfl (fun q102 => ?_) (fun q102 => ?_)
    · have hv := (if_pos q102).symm.trans hv
      exact tX12_poses_111 C K G  S v1 v2 v3 v4 hv
    · have hv := (if_neg q102).symm.trans hv
      refine jr_iload_n C dX12_poses_105 rfl 1 rfl ?_
      refine jr_bipush (v := 82) C dX12_poses_106 (by decide) ?_
      refine jr_icmp_ne (tgt := 137) C dX12_poses_108 rfl (fun q108 => ?_) (fun q108 => ?_)
      · have hv := (if_neg q108).symm.trans hv
        refine jr_iload_n C dX12_poses_137 rfl 1 rfl ?_
        refine jr_bipush (v := 83) C dX12_poses_138 (by decide) ?_
        refine jr_icmp_ne (tgt := 242) C dX12_poses_140 rfl (fun q140 => ?_) (fun q140 => ?_)
        · have hv := (if_neg q140).symm.trans hv
          refine jr_aload_n C dX12_poses_242 rfl 0 rfl ?_
          refine jr_iload_n C dX12_poses_243 rfl 3 rfl ?_
          obtain ⟨c244, hc244, hv⟩ := Option.bind_eq_some_iff.mp hv
          refine jm_call (rest := []) C K G (pX12_kindOf l G S v3 hc244) oX12_kindOf rfl kw_1360 rfl ⟨Nat.le_of_ble_eq_true rfl, Nat.le_of_ble_eq_true rfl⟩ rfl (Nat.le_of_ble_eq_true rfl) ⟨Nat.zero_le _, Nat.zero_le _⟩ dX12_poses_244 ?_
          refine jr_iconst (v := (-1)) C dX12_poses_247 (by decide) ?_
          refine jr_icmp_eq (tgt := 262) C dX12_poses_248 rfl (fun q248 => ?_) (fun q248 => ?_)
          · have hv := (if_pos q248).symm.trans hv
            exact jr_sub [0, 2, 3, 4] rfl (tX12_poses_262 C K G  c244.2 v2 v3 v4 hv)
          · have hv := (if_neg q248).symm.trans hv
            refine jr_aload_n C dX12_poses_251 rfl 0 rfl ?_
            refine jr_iload_n C dX12_poses_252 rfl 3 rfl ?_
            obtain ⟨c253, hc253, hv⟩ := Option.bind_eq_some_iff.mp hv
            refine jm_call (rest := []) C K G (pX12_kindOf l G c244.2 v3 hc253) oX12_kindOf rfl kw_1360 rfl ⟨Nat.le_of_ble_eq_true rfl, Nat.le_of_ble_eq_true rfl⟩ rfl (Nat.le_of_ble_eq_true rfl) ⟨Nat.zero_le _, Nat.zero_le _⟩ dX12_poses_253 ?_
            refine jr_pcall (rest := []) C (pX12_isPose l c253.1) oX12_isPose kw_1375 rfl ⟨Nat.le_of_ble_eq_true rfl, Nat.le_of_ble_eq_true rfl⟩ rfl (Nat.le_of_ble_eq_true rfl) ⟨Nat.zero_le _, Nat.zero_le _⟩ dX12_poses_256 ?_
            refine jr_if_eq (tgt := 284) C dX12_poses_259 rfl (fun q259 => ?_) (fun q259 => ?_)
            · have hv := (if_pos q259).symm.trans hv
              exact jr_sub [] rfl (tX12_poses_284 C K G  c253.2 hv)
            · have hv := (if_neg q259).symm.trans hv
              exact jr_sub [0, 2, 3, 4] rfl (tX12_poses_262 C K G  c253.2 v2 v3 v4 hv)
        · have hv := (if_pos q140).symm.trans hv
          refine jr_aload_n C dX12_poses_143 rfl 0 rfl ?_
          refine jr_iload_n C dX12_poses_144 rfl 2 rfl ?_
          obtain ⟨c145, hc145, hv⟩ := Option.bind_eq_some_iff.mp hv
          refine jm_call (rest := []) C K G (pX12_kindOf l G S v2 hc145) oX12_kindOf rfl kw_1360 rfl ⟨Nat.le_of_ble_eq_true rfl, Nat.le_of_ble_eq_true rfl⟩ rfl (Nat.le_of_ble_eq_true rfl) ⟨Nat.zero_le _, Nat.zero_le _⟩ dX12_poses_145 ?_
          refine jr_iconst (v := (-1)) C dX12_poses_148 (by decide) ?_
          refine jr_icmp_eq (tgt := 165) C dX12_poses_149 rfl (fun q149 => ?_) (fun q149 => ?_)
          · have hv := (if_pos q149).symm.trans hv
            exact jr_sub [0, 2, 3, 4] rfl (tX12_poses_165 C K G  c145.2 v2 v3 v4 hv)
          · have hv := (if_neg q149).symm.trans hv
            refine jr_aload_n C dX12_poses_152 rfl 0 rfl ?_
            refine jr_iload_n C dX12_poses_153 rfl 2 rfl ?_
            obtain ⟨c154, hc154, hv⟩ := Option.bind_eq_some_iff.mp hv
            refine jm_call (rest := []) C K G (pX12_kindOf l G c145.2 v2 hc154) oX12_kindOf rfl kw_1360 rfl ⟨Nat.le_of_ble_eq_true rfl, Nat.le_of_ble_eq_true rfl⟩ rfl (Nat.le_of_ble_eq_true rfl) ⟨Nat.zero_le _, Nat.zero_le _⟩ dX12_poses_154 ?_
            refine jr_pcall (rest := []) C (pX12_isPose l c154.1) oX12_isPose kw_1375 rfl ⟨Nat.le_of_ble_eq_true rfl, Nat.le_of_ble_eq_true rfl⟩ rfl (Nat.le_of_ble_eq_true rfl) ⟨Nat.zero_le _, Nat.zero_le _⟩ dX12_poses_157 ?_
            refine jr_if_ne (tgt := 165) C dX12_poses_160 rfl (fun q160 => ?_) (fun q160 => ?_)
            · have hv := (if_neg q160).symm.trans hv
              exact jr_sub [0, 2, 3, 4] rfl (tX12_poses_165 C K G  c154.2 v2 v3 v4 hv)
            · have hv := (if_pos q160).symm.trans hv
              refine jr_iconst (v := 2) C dX12_poses_163 (by decide) ?_
              exact jm_iret C K dX12_poses_164 (Option.some.inj hv)
      · have hv := (if_pos q108).symm.trans hv
        exact tX12_poses_111 C K G  S v1 v2 v3 v4 hv
  · have hv := (if_pos q3).symm.trans hv
    refine jr_aload_n C dX12_poses_6 rfl 0 rfl ?_
    refine jr_lconst (v := 1) C dX12_poses_7 (by decide) ?_
    obtain ⟨c8, hc8, hv⟩ := Option.bind_eq_some_iff.mp hv
    refine jm_call (rest := []) C K G (pX12_hasRoom l G S 1 hc8) oX12_hasRoom rfl kw_1346 rfl ⟨Nat.le_of_ble_eq_true rfl, Nat.le_of_ble_eq_true rfl⟩ rfl (Nat.le_of_ble_eq_true rfl) ⟨Nat.zero_le _, Nat.zero_le _⟩ dX12_poses_8 ?_
    refine jr_if_ne (tgt := 17) C dX12_poses_11 rfl (fun q11 => ?_) (fun q11 => ?_)
    · have hv := (if_neg q11).symm.trans hv
      refine jr_aload_n C dX12_poses_17 rfl 0 rfl ?_
      refine jr_iload C dX12_poses_18 4 rfl ?_
      refine jr_iconst (v := 1) C dX12_poses_20 (by decide) ?_
      refine jr_iand C dX12_poses_21 ?_
      refine jr_iconst (v := 1) C dX12_poses_22 (by decide) ?_
      refine jr_icmp_ne (tgt := 31) C dX12_poses_23 rfl (fun q23 => ?_) (fun q23 => ?_)
      · have hv := (if_neg q23).symm.trans hv
        refine jr_bipush (v := 11) C dX12_poses_31 (by decide) ?_
        exact jr_sub [0, 2] rfl (tX12_poses_33 C K G  c8.2 v2 11 hv)
      · have hv := (if_pos q23).symm.trans hv
        refine jr_bipush (v := 12) C dX12_poses_26 (by decide) ?_
        refine jr_goto (tgt := 33) C dX12_poses_28 rfl ?_
        exact jr_sub [0, 2] rfl (tX12_poses_33 C K G  c8.2 v2 12 hv)
    · have hv := (if_pos q11).symm.trans hv
      refine jr_bipush (v := 8) C dX12_poses_14 (by decide) ?_
      exact jm_iret C K dX12_poses_16 (Option.some.inj hv)
theorem pX12_poses (l : Launch) {g : MG} (G : mSep g) (S : MS) (v1 : Int32) (v2 : Int32) (v3 : Int32) (v4 : Int32) {w : Int32} {S' : MS} (hw : fX12_poses S v1 v2 v3 v4 = some (w, S')) : mC l yX12_poses cX12_poses 11 (some .int) 5 g [.ref (mo g), .int v1, .int v2, .int v3, .int v4] S (some (.int w)) S' := mC_of (by decide +kernel) (Nat.le_of_ble_eq_true rfl) rfl (fun C K => tX12_poses_0 C K G S v1 v2 v3 v4 hw)
/-! RobotCellModel.goes(IIJ)I -/
def fX12_goes_129 (S : MS) : Option (Int32 × MS) :=
  some (8, S)
def fX12_goes_304 (S : MS) : Option (Int32 × MS) :=
  some (0, S)
def fX12_goes_294 (S : MS) (v1 : Int32) : Option (Int32 × MS) :=
  if inb v1 (mlA 18) = true then (if inb v1 (mlA 18) = true then fX12_goes_304 (pA S 18 (ix v1) ((gA S 18 (ix v1)) + 1)) else none) else none
def fX12_goes_277 (S : MS) (v1 : Int32) (v8 : Int64) : Option (Int32 × MS) :=
  if inb v1 (mlB 13) = true then (Option.bind (fX12_sum (gB S 13 (ix v1)) v8) (fun c290 => if inb v1 (mlB 13) = true then fX12_goes_294 (pB S 13 (ix v1) c290) v1 else none)) else none
def fX12_goes_269 (S : MS) (v1 : Int32) (v6 : Int64) (v8 : Int64) : Option (Int32 × MS) :=
  if inb v1 (mlB 12) = true then fX12_goes_277 (pB S 12 (ix v1) v6) v1 v8 else none
def fX12_goes_236 (S : MS) (v1 : Int32) (v2 : Int32) (v6 : Int64) (v8 : Int64) (t0 : Int64) : Option (Int32 × MS) :=
  Option.bind (fX12_number 10) (fun c247 => Option.bind (fX12_product S c247 t0) (fun c252 => Option.bind (fX12_cut c252.1 2) (fun c256 => if inb v2 (mlB 3) = true then fX12_goes_269 (pB c252.2 3 (ix v2) (fX12_towards c256 (-9223372036854775808) 9223372036854775807)) v1 v6 v8 else none)))
def fX12_goes_183 (S : MS) (v1 : Int32) (v2 : Int32) (v6 : Int64) (v8 : Int64) (v10 : Int64) (t0 : Int32) : Option (Int32 × MS) :=
  if t0 = 0 then (Option.bind (fX12_number 2) (fun c210 => Option.bind (fX12_number 2) (fun c219 => Option.bind (fX12_product S c219 v10) (fun c224 => Option.bind (fX12_quotient v8 c224.1) (fun c227 => Option.bind (fX12_root c227) (fun c230 => Option.bind (fX12_product c224.2 c210 c230) (fun c233 => fX12_goes_236 c233.2 v1 v2 v6 v8 c233.1))))))) else (Option.bind (fX12_quotient v8 v10) (fun c194 => Option.bind (fX12_sum c194 4602678819172646912) (fun c200 => fX12_goes_236 S v1 v2 v6 v8 c200)))
def fX12_goes_148 (S : MS) (v1 : Int32) (v2 : Int32) (v5 : Int32) (v6 : Int64) (v8 : Int64) : Option (Int32 × MS) :=
  Option.bind (fX12_number ((fX12_speedOf v5).toInt64)) (fun c154 => Option.bind (fX12_number 2) (fun c166 => Option.bind (fX12_quotient c154 c166) (fun c169 => if (fX12_isLess v8 c169) = 0 then fX12_goes_183 S v1 v2 v6 v8 c154 1 else fX12_goes_183 S v1 v2 v6 v8 c154 0)))
def fX12_goes_91 (S : MS) (v1 : Int32) (v2 : Int32) (v5 : Int32) (v6 : Int64) : Option (Int32 × MS) :=
  if (fX12_isLost v6) = 0 then (if v5 = 16 then fX12_goes_129 S else (Option.bind (fX12_number ((fX12_spanOf v5).toInt64)) (fun c115 => if (fX12_isLess c115 (fX12_magnitude v6)) = 0 then (if inb v1 (mlB 12) = true then (Option.bind (fX12_less v6 (gB S 12 (ix v1))) (fun c140 => fX12_goes_148 S v1 v2 v5 v6 (fX12_magnitude c140))) else none) else fX12_goes_129 S))) else some (7, S)
def fX12_goes_64 (S : MS) (v1 : Int32) (v2 : Int32) (v5 : Int32) (v6 : Int64) : Option (Int32 × MS) :=
  Option.bind (fX12_number 8) (fun c68 => Option.bind (fX12_product S c68 v6) (fun c73 => Option.bind (fX12_cut c73.1 3) (fun c77 => Option.bind (fX12_number 8) (fun c83 => Option.bind (fX12_quotient c77 c83) (fun c86 => fX12_goes_91 c73.2 v1 v2 v5 c86)))))
def fX12_goes_50 (S : MS) (v1 : Int32) (v2 : Int32) (v5 : Int32) (v6 : Int64) : Option (Int32 × MS) :=
  if v5 = 14 then fX12_goes_64 S v1 v2 v5 v6 else (if v5 = 15 then fX12_goes_64 S v1 v2 v5 v6 else fX12_goes_91 S v1 v2 v5 v6)
def fX12_goes_8 (S : MS) (v1 : Int32) (v2 : Int32) (v3 : Int64) (v5 : Int32) : Option (Int32 × MS) :=
  if v5 = 15 then (Option.bind (fX12_number 360) (fun c24 => Option.bind (fX12_number 360) (fun c32 => Option.bind (fX12_quotient v3 c32) (fun c35 => Option.bind (fX12_cut c35 1) (fun c39 => Option.bind (fX12_product S c24 c39) (fun c42 => Option.bind (fX12_less v3 c42.1) (fun c45 => fX12_goes_50 c42.2 v1 v2 v5 c45))))))) else fX12_goes_50 S v1 v2 v5 v3
def fX12_goes (S : MS) (v1 : Int32) (v2 : Int32) (v3 : Int64) : Option (Int32 × MS) :=
  if inb v1 (mlA 6) = true then fX12_goes_8 S v1 v2 v3 (gA S 6 (ix v1)) else none
theorem oX12_goes : ok_v yX12_goes cX12_goes 15 (some .int) 3 := ⟨kw_1405, kw_1404, kw_67, kw_73, by decide +kernel⟩
set_option maxRecDepth 100000 in
theorem tX12_goes_129 {p : Program} {l : Launch} {e : Env} {s : State} {m : MethodId} {args : Array Value} {below : List Frame} {meth : Method} {c : Code} {g : MG} (C : CC p s m args meth c yX12_goes cX12_goes 15 (some .int)) (K : mK g s) (G : mSep g)  (S : MS) {w : Int32 × MS} (hv : fX12_goes_129 S = some w) : MJ p l e s m args below meth c 15 5 g (some (.int w.1)) w.2 129 [] [] S := by
  unfold fX12_goes_129 at hv
  refine jr_bipush (v := 8) C dX12_goes_129 (by decide) ?_
  exact jm_iret C K dX12_goes_131 (Option.some.inj hv)
set_option maxRecDepth 100000 in
theorem tX12_goes_304 {p : Program} {l : Launch} {e : Env} {s : State} {m : MethodId} {args : Array Value} {below : List Frame} {meth : Method} {c : Code} {g : MG} (C : CC p s m args meth c yX12_goes cX12_goes 15 (some .int)) (K : mK g s) (G : mSep g)  (S : MS) {w : Int32 × MS} (hv : fX12_goes_304 S = some w) : MJ p l e s m args below meth c 15 5 g (some (.int w.1)) w.2 304 [] [] S := by
  unfold fX12_goes_304 at hv
  refine jr_iconst (v := 0) C dX12_goes_304 (by decide) ?_
  exact jm_iret C K dX12_goes_305 (Option.some.inj hv)
set_option maxRecDepth 100000 in
theorem tX12_goes_294 {p : Program} {l : Launch} {e : Env} {s : State} {m : MethodId} {args : Array Value} {below : List Frame} {meth : Method} {c : Code} {g : MG} (C : CC p s m args meth c yX12_goes cX12_goes 15 (some .int)) (K : mK g s) (G : mSep g)  (S : MS) (v1 : Int32) {w : Int32 × MS} (hv : fX12_goes_294 S v1 = some w) : MJ p l e s m args below meth c 15 5 g (some (.int w.1)) w.2 294 [(0, .ref (mo g)), (1, .int v1)] [] S := by
  unfold fX12_goes_294 at hv
  refine jr_aload_n C dX12_goes_294 rfl 0 rfl ?_
  refine jm_getA C K 18 (by decide) (by decide) kw_1453 rfl dX12_goes_295 ?_
  refine jr_iload_n C dX12_goes_298 rfl 1 rfl ?_
  refine jr_dup2_11 C dX12_goes_299 rfl rfl ?_
  by_cases z300 : inb v1 (mlA 18) = true
  case neg => exact op_none ((if_neg z300).symm.trans hv)
  have hv := (if_pos z300).symm.trans hv
  refine jm_iald C K z300 dX12_goes_300 ?_
  refine jr_iconst (v := 1) C dX12_goes_301 (by decide) ?_
  refine jr_iadd C dX12_goes_302 ?_
  by_cases z303 : inb v1 (mlA 18) = true
  case neg => exact op_none ((if_neg z303).symm.trans hv)
  have hv := (if_pos z303).symm.trans hv
  refine jm_iast C K G z303 dX12_goes_303 ?_
  exact jr_sub [] rfl (tX12_goes_304 C K G  (pA S 18 (ix v1) ((gA S 18 (ix v1)) + 1)) hv)
set_option maxRecDepth 100000 in
theorem tX12_goes_277 {p : Program} {l : Launch} {e : Env} {s : State} {m : MethodId} {args : Array Value} {below : List Frame} {meth : Method} {c : Code} {g : MG} (C : CC p s m args meth c yX12_goes cX12_goes 15 (some .int)) (K : mK g s) (G : mSep g)  (S : MS) (v1 : Int32) (v8 : Int64) {w : Int32 × MS} (hv : fX12_goes_277 S v1 v8 = some w) : MJ p l e s m args below meth c 15 5 g (some (.int w.1)) w.2 277 [(0, .ref (mo g)), (1, .int v1), (8, .long v8)] [] S := by
  unfold fX12_goes_277 at hv
  refine jr_aload_n C dX12_goes_277 rfl 0 rfl ?_
  refine jm_getA C K 13 (by decide) (by decide) kw_1448 rfl dX12_goes_278 ?_
  refine jr_iload_n C dX12_goes_281 rfl 1 rfl ?_
  refine jr_aload_n C dX12_goes_282 rfl 0 rfl ?_
  refine jm_getA C K 13 (by decide) (by decide) kw_1448 rfl dX12_goes_283 ?_
  refine jr_iload_n C dX12_goes_286 rfl 1 rfl ?_
  by_cases z287 : inb v1 (mlB 13) = true
  case neg => exact op_none ((if_neg z287).symm.trans hv)
  have hv := (if_pos z287).symm.trans hv
  refine jm_lald C K z287 dX12_goes_287 ?_
  refine jr_lload C dX12_goes_288 2 rfl ?_
  obtain ⟨c290, hc290, hv⟩ := Option.bind_eq_some_iff.mp hv
  refine jr_pcall (rest := [.int v1, .ref (mad g 13)]) C (pX12_sum l (gB S 13 (ix v1)) v8 hc290) oX12_sum kw_1253 rfl ⟨Nat.le_of_ble_eq_true rfl, Nat.le_of_ble_eq_true rfl⟩ rfl (Nat.le_of_ble_eq_true rfl) ⟨Nat.zero_le _, Nat.zero_le _⟩ dX12_goes_290 ?_
  by_cases z293 : inb v1 (mlB 13) = true
  case neg => exact op_none ((if_neg z293).symm.trans hv)
  have hv := (if_pos z293).symm.trans hv
  refine jm_last C K G z293 dX12_goes_293 ?_
  exact jr_sub [0, 1] rfl (tX12_goes_294 C K G  (pB S 13 (ix v1) c290) v1 hv)
set_option maxRecDepth 100000 in
theorem tX12_goes_269 {p : Program} {l : Launch} {e : Env} {s : State} {m : MethodId} {args : Array Value} {below : List Frame} {meth : Method} {c : Code} {g : MG} (C : CC p s m args meth c yX12_goes cX12_goes 15 (some .int)) (K : mK g s) (G : mSep g)  (S : MS) (v1 : Int32) (v6 : Int64) (v8 : Int64) {w : Int32 × MS} (hv : fX12_goes_269 S v1 v6 v8 = some w) : MJ p l e s m args below meth c 15 5 g (some (.int w.1)) w.2 269 [(0, .ref (mo g)), (1, .int v1), (6, .long v6), (8, .long v8)] [] S := by
  unfold fX12_goes_269 at hv
  refine jr_aload_n C dX12_goes_269 rfl 0 rfl ?_
  refine jm_getA C K 12 (by decide) (by decide) kw_1447 rfl dX12_goes_270 ?_
  refine jr_iload_n C dX12_goes_273 rfl 1 rfl ?_
  refine jr_lload C dX12_goes_274 2 rfl ?_
  by_cases z276 : inb v1 (mlB 12) = true
  case neg => exact op_none ((if_neg z276).symm.trans hv)
  have hv := (if_pos z276).symm.trans hv
  refine jm_last C K G z276 dX12_goes_276 ?_
  exact jr_sub [0, 1, 3] rfl (tX12_goes_277 C K G  (pB S 12 (ix v1) v6) v1 v8 hv)
set_option maxRecDepth 100000 in
theorem tX12_goes_236 {p : Program} {l : Launch} {e : Env} {s : State} {m : MethodId} {args : Array Value} {below : List Frame} {meth : Method} {c : Code} {g : MG} (C : CC p s m args meth c yX12_goes cX12_goes 15 (some .int)) (K : mK g s) (G : mSep g)  (S : MS) (v1 : Int32) (v2 : Int32) (v6 : Int64) (v8 : Int64) (t0 : Int64) {w : Int32 × MS} (hv : fX12_goes_236 S v1 v2 v6 v8 t0 = some w) : MJ p l e s m args below meth c 15 5 g (some (.int w.1)) w.2 236 [(0, .ref (mo g)), (1, .int v1), (2, .int v2), (6, .long v6), (8, .long v8)] [.long t0] S := by
  unfold fX12_goes_236 at hv
  refine jr_lstore (lv' := [(13, .long t0), (0, .ref (mo g)), (1, .int v1), (2, .int v2), (6, .long v6), (8, .long v8)]) C dX12_goes_236 (by decide) rfl ?_
  refine jr_aload_n C dX12_goes_238 rfl 1 rfl ?_
  refine jm_getA C K 3 (by decide) (by decide) kw_1438 rfl dX12_goes_239 ?_
  refine jr_iload_n C dX12_goes_242 rfl 3 rfl ?_
  refine jr_aload_n C dX12_goes_243 rfl 1 rfl ?_
  refine jr_ldc2 C kw_1417 dX12_goes_244 ?_
  obtain ⟨c247, hc247, hv⟩ := Option.bind_eq_some_iff.mp hv
  refine jr_pcall (rest := [.ref (mo g), .int v2, .ref (mad g 3)]) C (pX12_number l 10 hc247) oX12_number kw_1213 rfl ⟨Nat.le_of_ble_eq_true rfl, Nat.le_of_ble_eq_true rfl⟩ rfl (Nat.le_of_ble_eq_true rfl) ⟨Nat.zero_le _, Nat.zero_le _⟩ dX12_goes_247 ?_
  refine jr_lload C dX12_goes_250 0 rfl ?_
  obtain ⟨c252, hc252, hv⟩ := Option.bind_eq_some_iff.mp hv
  refine jm_call (rest := [.int v2, .ref (mad g 3)]) C K G (pX12_product l G S c247 t0 hc252) oX12_product rfl kw_1262 rfl ⟨Nat.le_of_ble_eq_true rfl, Nat.le_of_ble_eq_true rfl⟩ rfl (Nat.le_of_ble_eq_true rfl) ⟨Nat.zero_le _, Nat.zero_le _⟩ dX12_goes_252 ?_
  refine jr_iconst (v := 2) C dX12_goes_255 (by decide) ?_
  obtain ⟨c256, hc256, hv⟩ := Option.bind_eq_some_iff.mp hv
  refine jr_pcall (rest := [.int v2, .ref (mad g 3)]) C (pX12_cut l c252.1 2 hc256) oX12_cut kw_1282 rfl ⟨Nat.le_of_ble_eq_true rfl, Nat.le_of_ble_eq_true rfl⟩ rfl (Nat.le_of_ble_eq_true rfl) ⟨Nat.zero_le _, Nat.zero_le _⟩ dX12_goes_256 ?_
  refine jr_ldc2 C kw_1224 dX12_goes_259 ?_
  refine jr_ldc2 C kw_1206 dX12_goes_262 ?_
  refine jr_pcall (rest := [.int v2, .ref (mad g 3)]) C (pX12_towards l c256 (-9223372036854775808) 9223372036854775807) oX12_towards kw_1319 rfl ⟨Nat.le_of_ble_eq_true rfl, Nat.le_of_ble_eq_true rfl⟩ rfl (Nat.le_of_ble_eq_true rfl) ⟨Nat.zero_le _, Nat.zero_le _⟩ dX12_goes_265 ?_
  by_cases z268 : inb v2 (mlB 3) = true
  case neg => exact op_none ((if_neg z268).symm.trans hv)
  have hv := (if_pos z268).symm.trans hv
  refine jm_last C K G z268 dX12_goes_268 ?_
  exact jr_sub [1, 2, 4, 5] rfl (tX12_goes_269 C K G  (pB c252.2 3 (ix v2) (fX12_towards c256 (-9223372036854775808) 9223372036854775807)) v1 v6 v8 hv)
set_option maxRecDepth 100000 in
theorem tX12_goes_183 {p : Program} {l : Launch} {e : Env} {s : State} {m : MethodId} {args : Array Value} {below : List Frame} {meth : Method} {c : Code} {g : MG} (C : CC p s m args meth c yX12_goes cX12_goes 15 (some .int)) (K : mK g s) (G : mSep g)  (S : MS) (v1 : Int32) (v2 : Int32) (v6 : Int64) (v8 : Int64) (v10 : Int64) (t0 : Int32) {w : Int32 × MS} (hv : fX12_goes_183 S v1 v2 v6 v8 v10 t0 = some w) : MJ p l e s m args below meth c 15 5 g (some (.int w.1)) w.2 183 [(0, .ref (mo g)), (1, .int v1), (2, .int v2), (6, .long v6), (8, .long v8), (10, .long v10)] [.int t0] S := by
  unfold fX12_goes_183 at hv
  refine jr_istore (lv' := [(12, .int t0), (0, .ref (mo g)), (1, .int v1), (2, .int v2), (6, .long v6), (8, .long v8), (10, .long v10)]) C dX12_goes_183 (by decide) rfl ?_
  refine jr_iload C dX12_goes_185 0 rfl ?_
  refine jr_if_eq (tgt := 206) C dX12_goes_187 rfl (fun q187 => ?_) (fun q187 => ?_)
  · have hv := (if_pos q187).symm.trans hv
    refine jr_aload_n C dX12_goes_206 rfl 1 rfl ?_
    refine jr_ldc2 C kw_1249 dX12_goes_207 ?_
    obtain ⟨c210, hc210, hv⟩ := Option.bind_eq_some_iff.mp hv
    refine jr_pcall (rest := [.ref (mo g)]) C (pX12_number l 2 hc210) oX12_number kw_1213 rfl ⟨Nat.le_of_ble_eq_true rfl, Nat.le_of_ble_eq_true rfl⟩ rfl (Nat.le_of_ble_eq_true rfl) ⟨Nat.zero_le _, Nat.zero_le _⟩ dX12_goes_210 ?_
    refine jr_lload C dX12_goes_213 5 rfl ?_
    refine jr_aload_n C dX12_goes_215 rfl 1 rfl ?_
    refine jr_ldc2 C kw_1249 dX12_goes_216 ?_
    obtain ⟨c219, hc219, hv⟩ := Option.bind_eq_some_iff.mp hv
    refine jr_pcall (rest := [.ref (mo g), .long v8, .long c210, .ref (mo g)]) C (pX12_number l 2 hc219) oX12_number kw_1213 rfl ⟨Nat.le_of_ble_eq_true rfl, Nat.le_of_ble_eq_true rfl⟩ rfl (Nat.le_of_ble_eq_true rfl) ⟨Nat.zero_le _, Nat.zero_le _⟩ dX12_goes_219 ?_
    refine jr_lload C dX12_goes_222 6 rfl ?_
    obtain ⟨c224, hc224, hv⟩ := Option.bind_eq_some_iff.mp hv
    refine jm_call (rest := [.long v8, .long c210, .ref (mo g)]) C K G (pX12_product l G S c219 v10 hc224) oX12_product rfl kw_1262 rfl ⟨Nat.le_of_ble_eq_true rfl, Nat.le_of_ble_eq_true rfl⟩ rfl (Nat.le_of_ble_eq_true rfl) ⟨Nat.zero_le _, Nat.zero_le _⟩ dX12_goes_224 ?_
    obtain ⟨c227, hc227, hv⟩ := Option.bind_eq_some_iff.mp hv
    refine jr_pcall (rest := [.long c210, .ref (mo g)]) C (pX12_quotient l v8 c224.1 hc227) oX12_quotient kw_1229 rfl ⟨Nat.le_of_ble_eq_true rfl, Nat.le_of_ble_eq_true rfl⟩ rfl (Nat.le_of_ble_eq_true rfl) ⟨Nat.zero_le _, Nat.zero_le _⟩ dX12_goes_227 ?_
    obtain ⟨c230, hc230, hv⟩ := Option.bind_eq_some_iff.mp hv
    refine jr_pcall (rest := [.long c210, .ref (mo g)]) C (pX12_root l c227 hc230) oX12_root kw_1287 rfl ⟨Nat.le_of_ble_eq_true rfl, Nat.le_of_ble_eq_true rfl⟩ rfl (Nat.le_of_ble_eq_true rfl) ⟨Nat.zero_le _, Nat.zero_le _⟩ dX12_goes_230 ?_
    obtain ⟨c233, hc233, hv⟩ := Option.bind_eq_some_iff.mp hv
    refine jm_call (rest := []) C K G (pX12_product l G c224.2 c210 c230 hc233) oX12_product rfl kw_1262 rfl ⟨Nat.le_of_ble_eq_true rfl, Nat.le_of_ble_eq_true rfl⟩ rfl (Nat.le_of_ble_eq_true rfl) ⟨Nat.zero_le _, Nat.zero_le _⟩ dX12_goes_233 ?_
    exact jr_sub [1, 2, 3, 4, 5] rfl (tX12_goes_236 C K G  c233.2 v1 v2 v6 v8 c233.1 hv)
  · have hv := (if_neg q187).symm.trans hv
    refine jr_lload C dX12_goes_190 5 rfl ?_
    refine jr_lload C dX12_goes_192 6 rfl ?_
    obtain ⟨c194, hc194, hv⟩ := Option.bind_eq_some_iff.mp hv
    refine jr_pcall (rest := []) C (pX12_quotient l v8 v10 hc194) oX12_quotient kw_1229 rfl ⟨Nat.le_of_ble_eq_true rfl, Nat.le_of_ble_eq_true rfl⟩ rfl (Nat.le_of_ble_eq_true rfl) ⟨Nat.zero_le _, Nat.zero_le _⟩ dX12_goes_194 ?_
    refine jr_ldc2 C kw_1308 dX12_goes_197 ?_
    obtain ⟨c200, hc200, hv⟩ := Option.bind_eq_some_iff.mp hv
    refine jr_pcall (rest := []) C (pX12_sum l c194 4602678819172646912 hc200) oX12_sum kw_1253 rfl ⟨Nat.le_of_ble_eq_true rfl, Nat.le_of_ble_eq_true rfl⟩ rfl (Nat.le_of_ble_eq_true rfl) ⟨Nat.zero_le _, Nat.zero_le _⟩ dX12_goes_200 ?_
    refine jr_goto (tgt := 236) C dX12_goes_203 rfl ?_
    exact jr_sub [1, 2, 3, 4, 5] rfl (tX12_goes_236 C K G  S v1 v2 v6 v8 c200 hv)
set_option maxRecDepth 100000 in
theorem tX12_goes_148 {p : Program} {l : Launch} {e : Env} {s : State} {m : MethodId} {args : Array Value} {below : List Frame} {meth : Method} {c : Code} {g : MG} (C : CC p s m args meth c yX12_goes cX12_goes 15 (some .int)) (K : mK g s) (G : mSep g)  (S : MS) (v1 : Int32) (v2 : Int32) (v5 : Int32) (v6 : Int64) (v8 : Int64) {w : Int32 × MS} (hv : fX12_goes_148 S v1 v2 v5 v6 v8 = some w) : MJ p l e s m args below meth c 15 5 g (some (.int w.1)) w.2 148 [(0, .ref (mo g)), (1, .int v1), (2, .int v2), (5, .int v5), (6, .long v6), (8, .long v8)] [] S := by
  unfold fX12_goes_148 at hv
  refine jr_iload C dX12_goes_148 3 rfl ?_
  refine jr_pcall (rest := []) C (pX12_speedOf l v5) oX12_speedOf kw_1414 rfl ⟨Nat.le_of_ble_eq_true rfl, Nat.le_of_ble_eq_true rfl⟩ rfl (Nat.le_of_ble_eq_true rfl) ⟨Nat.zero_le _, Nat.zero_le _⟩ dX12_goes_150 ?_
  refine jr_i2l C dX12_goes_153 ?_
  obtain ⟨c154, hc154, hv⟩ := Option.bind_eq_some_iff.mp hv
  refine jr_pcall (rest := []) C (pX12_number l ((fX12_speedOf v5).toInt64) hc154) oX12_number kw_1213 rfl ⟨Nat.le_of_ble_eq_true rfl, Nat.le_of_ble_eq_true rfl⟩ rfl (Nat.le_of_ble_eq_true rfl) ⟨Nat.zero_le _, Nat.zero_le _⟩ dX12_goes_154 ?_
  refine jr_lstore (lv' := [(10, .long c154), (0, .ref (mo g)), (1, .int v1), (2, .int v2), (5, .int v5), (6, .long v6), (8, .long v8)]) C dX12_goes_157 (by decide) rfl ?_
  refine jr_lload C dX12_goes_159 6 rfl ?_
  refine jr_lload C dX12_goes_161 0 rfl ?_
  refine jr_ldc2 C kw_1249 dX12_goes_163 ?_
  obtain ⟨c166, hc166, hv⟩ := Option.bind_eq_some_iff.mp hv
  refine jr_pcall (rest := [.long c154, .long v8]) C (pX12_number l 2 hc166) oX12_number kw_1213 rfl ⟨Nat.le_of_ble_eq_true rfl, Nat.le_of_ble_eq_true rfl⟩ rfl (Nat.le_of_ble_eq_true rfl) ⟨Nat.zero_le _, Nat.zero_le _⟩ dX12_goes_166 ?_
  obtain ⟨c169, hc169, hv⟩ := Option.bind_eq_some_iff.mp hv
  refine jr_pcall (rest := [.long v8]) C (pX12_quotient l c154 c166 hc169) oX12_quotient kw_1229 rfl ⟨Nat.le_of_ble_eq_true rfl, Nat.le_of_ble_eq_true rfl⟩ rfl (Nat.le_of_ble_eq_true rfl) ⟨Nat.zero_le _, Nat.zero_le _⟩ dX12_goes_169 ?_
  refine jr_pcall (rest := []) C (pX12_isLess l v8 c169) oX12_isLess kw_1411 rfl ⟨Nat.le_of_ble_eq_true rfl, Nat.le_of_ble_eq_true rfl⟩ rfl (Nat.le_of_ble_eq_true rfl) ⟨Nat.zero_le _, Nat.zero_le _⟩ dX12_goes_172 ?_
  refine jr_if_ne (tgt := 182) C dX12_goes_175 rfl (fun q175 => ?_) (fun q175 => ?_)
  · have hv := (if_neg q175).symm.trans hv
    refine jr_iconst (v := 0) C dX12_goes_182 (by decide) ?_
    exact jr_sub [1, 2, 3, 5, 6, 0] rfl (tX12_goes_183 C K G  S v1 v2 v6 v8 c154 0 hv)
  · have hv := (if_pos q175).symm.trans hv
    refine jr_iconst (v := 1) C dX12_goes_178 (by decide) ?_
    refine jr_goto (tgt := 183) C dX12_goes_179 rfl ?_
    exact jr_sub [1, 2, 3, 5, 6, 0] rfl (tX12_goes_183 C K G  S v1 v2 v6 v8 c154 1 hv)
set_option maxRecDepth 100000 in
theorem tX12_goes_91 {p : Program} {l : Launch} {e : Env} {s : State} {m : MethodId} {args : Array Value} {below : List Frame} {meth : Method} {c : Code} {g : MG} (C : CC p s m args meth c yX12_goes cX12_goes 15 (some .int)) (K : mK g s) (G : mSep g)  (S : MS) (v1 : Int32) (v2 : Int32) (v5 : Int32) (v6 : Int64) {w : Int32 × MS} (hv : fX12_goes_91 S v1 v2 v5 v6 = some w) : MJ p l e s m args below meth c 15 5 g (some (.int w.1)) w.2 91 [(0, .ref (mo g)), (1, .int v1), (2, .int v2), (5, .int v5), (6, .long v6)] [] S := by
  unfold fX12_goes_91 at hv
  refine jr_lload C dX12_goes_91 4 rfl ?_
  refine jr_pcall (rest := []) C (pX12_isLost l v6) oX12_isLost kw_1203 rfl ⟨Nat.le_of_ble_eq_true rfl, Nat.le_of_ble_eq_true rfl⟩ rfl (Nat.le_of_ble_eq_true rfl) ⟨Nat.zero_le _, Nat.zero_le _⟩ dX12_goes_93 ?_
  refine jr_if_eq (tgt := 102) C dX12_goes_96 rfl (fun q96 => ?_) (fun q96 => ?_)
  · have hv := (if_pos q96).symm.trans hv
    refine jr_iload C dX12_goes_102 3 rfl ?_
    refine jr_bipush (v := 16) C dX12_goes_104 (by decide) ?_
    refine jr_icmp_eq (tgt := 129) C dX12_goes_106 rfl (fun q106 => ?_) (fun q106 => ?_)
    · have hv := (if_pos q106).symm.trans hv
      exact jr_sub [] rfl (tX12_goes_129 C K G  S hv)
    · have hv := (if_neg q106).symm.trans hv
      refine jr_iload C dX12_goes_109 3 rfl ?_
      refine jr_pcall (rest := []) C (pX12_spanOf l v5) oX12_spanOf kw_1408 rfl ⟨Nat.le_of_ble_eq_true rfl, Nat.le_of_ble_eq_true rfl⟩ rfl (Nat.le_of_ble_eq_true rfl) ⟨Nat.zero_le _, Nat.zero_le _⟩ dX12_goes_111 ?_
      refine jr_i2l C dX12_goes_114 ?_
      obtain ⟨c115, hc115, hv⟩ := Option.bind_eq_some_iff.mp hv
      refine jr_pcall (rest := []) C (pX12_number l ((fX12_spanOf v5).toInt64) hc115) oX12_number kw_1213 rfl ⟨Nat.le_of_ble_eq_true rfl, Nat.le_of_ble_eq_true rfl⟩ rfl (Nat.le_of_ble_eq_true rfl) ⟨Nat.zero_le _, Nat.zero_le _⟩ dX12_goes_115 ?_
      refine jr_lload C dX12_goes_118 4 rfl ?_
      refine jr_pcall (rest := [.long c115]) C (pX12_magnitude l v6) oX12_magnitude kw_1279 rfl ⟨Nat.le_of_ble_eq_true rfl, Nat.le_of_ble_eq_true rfl⟩ rfl (Nat.le_of_ble_eq_true rfl) ⟨Nat.zero_le _, Nat.zero_le _⟩ dX12_goes_120 ?_
      refine jr_pcall (rest := []) C (pX12_isLess l c115 (fX12_magnitude v6)) oX12_isLess kw_1411 rfl ⟨Nat.le_of_ble_eq_true rfl, Nat.le_of_ble_eq_true rfl⟩ rfl (Nat.le_of_ble_eq_true rfl) ⟨Nat.zero_le _, Nat.zero_le _⟩ dX12_goes_123 ?_
      refine jr_if_eq (tgt := 132) C dX12_goes_126 rfl (fun q126 => ?_) (fun q126 => ?_)
      · have hv := (if_pos q126).symm.trans hv
        refine jr_lload C dX12_goes_132 4 rfl ?_
        refine jr_aload_n C dX12_goes_134 rfl 0 rfl ?_
        refine jm_getA C K 12 (by decide) (by decide) kw_1447 rfl dX12_goes_135 ?_
        refine jr_iload_n C dX12_goes_138 rfl 1 rfl ?_
        by_cases z139 : inb v1 (mlB 12) = true
        case neg => exact op_none ((if_neg z139).symm.trans hv)
        have hv := (if_pos z139).symm.trans hv
        refine jm_lald C K z139 dX12_goes_139 ?_
        obtain ⟨c140, hc140, hv⟩ := Option.bind_eq_some_iff.mp hv
        refine jr_pcall (rest := []) C (pX12_less l v6 (gB S 12 (ix v1)) hc140) oX12_less kw_1256 rfl ⟨Nat.le_of_ble_eq_true rfl, Nat.le_of_ble_eq_true rfl⟩ rfl (Nat.le_of_ble_eq_true rfl) ⟨Nat.zero_le _, Nat.zero_le _⟩ dX12_goes_140 ?_
        refine jr_pcall (rest := []) C (pX12_magnitude l c140) oX12_magnitude kw_1279 rfl ⟨Nat.le_of_ble_eq_true rfl, Nat.le_of_ble_eq_true rfl⟩ rfl (Nat.le_of_ble_eq_true rfl) ⟨Nat.zero_le _, Nat.zero_le _⟩ dX12_goes_143 ?_
        refine jr_lstore (lv' := [(8, .long (fX12_magnitude c140)), (0, .ref (mo g)), (1, .int v1), (2, .int v2), (5, .int v5), (6, .long v6)]) C dX12_goes_146 (by decide) rfl ?_
        exact jr_sub [1, 2, 3, 4, 5, 0] rfl (tX12_goes_148 C K G  S v1 v2 v5 v6 (fX12_magnitude c140) hv)
      · have hv := (if_neg q126).symm.trans hv
        exact jr_sub [] rfl (tX12_goes_129 C K G  S hv)
  · have hv := (if_neg q96).symm.trans hv
    refine jr_bipush (v := 7) C dX12_goes_99 (by decide) ?_
    exact jm_iret C K dX12_goes_101 (Option.some.inj hv)
set_option maxRecDepth 100000 in
theorem tX12_goes_64 {p : Program} {l : Launch} {e : Env} {s : State} {m : MethodId} {args : Array Value} {below : List Frame} {meth : Method} {c : Code} {g : MG} (C : CC p s m args meth c yX12_goes cX12_goes 15 (some .int)) (K : mK g s) (G : mSep g)  (S : MS) (v1 : Int32) (v2 : Int32) (v5 : Int32) (v6 : Int64) {w : Int32 × MS} (hv : fX12_goes_64 S v1 v2 v5 v6 = some w) : MJ p l e s m args below meth c 15 5 g (some (.int w.1)) w.2 64 [(0, .ref (mo g)), (1, .int v1), (2, .int v2), (5, .int v5), (6, .long v6)] [] S := by
  unfold fX12_goes_64 at hv
  refine jr_aload_n C dX12_goes_64 rfl 0 rfl ?_
  refine jr_ldc2 C kw_1407 dX12_goes_65 ?_
  obtain ⟨c68, hc68, hv⟩ := Option.bind_eq_some_iff.mp hv
  refine jr_pcall (rest := [.ref (mo g)]) C (pX12_number l 8 hc68) oX12_number kw_1213 rfl ⟨Nat.le_of_ble_eq_true rfl, Nat.le_of_ble_eq_true rfl⟩ rfl (Nat.le_of_ble_eq_true rfl) ⟨Nat.zero_le _, Nat.zero_le _⟩ dX12_goes_68 ?_
  refine jr_lload C dX12_goes_71 4 rfl ?_
  obtain ⟨c73, hc73, hv⟩ := Option.bind_eq_some_iff.mp hv
  refine jm_call (rest := []) C K G (pX12_product l G S c68 v6 hc73) oX12_product rfl kw_1262 rfl ⟨Nat.le_of_ble_eq_true rfl, Nat.le_of_ble_eq_true rfl⟩ rfl (Nat.le_of_ble_eq_true rfl) ⟨Nat.zero_le _, Nat.zero_le _⟩ dX12_goes_73 ?_
  refine jr_iconst (v := 3) C dX12_goes_76 (by decide) ?_
  obtain ⟨c77, hc77, hv⟩ := Option.bind_eq_some_iff.mp hv
  refine jr_pcall (rest := []) C (pX12_cut l c73.1 3 hc77) oX12_cut kw_1282 rfl ⟨Nat.le_of_ble_eq_true rfl, Nat.le_of_ble_eq_true rfl⟩ rfl (Nat.le_of_ble_eq_true rfl) ⟨Nat.zero_le _, Nat.zero_le _⟩ dX12_goes_77 ?_
  refine jr_ldc2 C kw_1407 dX12_goes_80 ?_
  obtain ⟨c83, hc83, hv⟩ := Option.bind_eq_some_iff.mp hv
  refine jr_pcall (rest := [.long c77]) C (pX12_number l 8 hc83) oX12_number kw_1213 rfl ⟨Nat.le_of_ble_eq_true rfl, Nat.le_of_ble_eq_true rfl⟩ rfl (Nat.le_of_ble_eq_true rfl) ⟨Nat.zero_le _, Nat.zero_le _⟩ dX12_goes_83 ?_
  obtain ⟨c86, hc86, hv⟩ := Option.bind_eq_some_iff.mp hv
  refine jr_pcall (rest := []) C (pX12_quotient l c77 c83 hc86) oX12_quotient kw_1229 rfl ⟨Nat.le_of_ble_eq_true rfl, Nat.le_of_ble_eq_true rfl⟩ rfl (Nat.le_of_ble_eq_true rfl) ⟨Nat.zero_le _, Nat.zero_le _⟩ dX12_goes_86 ?_
  refine jr_lstore (lv' := [(6, .long c86), (0, .ref (mo g)), (1, .int v1), (2, .int v2), (5, .int v5)]) C dX12_goes_89 (by decide) rfl ?_
  exact jr_sub [1, 2, 3, 4, 0] rfl (tX12_goes_91 C K G  c73.2 v1 v2 v5 c86 hv)
set_option maxRecDepth 100000 in
theorem tX12_goes_50 {p : Program} {l : Launch} {e : Env} {s : State} {m : MethodId} {args : Array Value} {below : List Frame} {meth : Method} {c : Code} {g : MG} (C : CC p s m args meth c yX12_goes cX12_goes 15 (some .int)) (K : mK g s) (G : mSep g)  (S : MS) (v1 : Int32) (v2 : Int32) (v5 : Int32) (v6 : Int64) {w : Int32 × MS} (hv : fX12_goes_50 S v1 v2 v5 v6 = some w) : MJ p l e s m args below meth c 15 5 g (some (.int w.1)) w.2 50 [(0, .ref (mo g)), (1, .int v1), (2, .int v2), (5, .int v5), (6, .long v6)] [] S := by
  unfold fX12_goes_50 at hv
  refine jr_iload C dX12_goes_50 3 rfl ?_
  refine jr_bipush (v := 14) C dX12_goes_52 (by decide) ?_
  refine jr_icmp_eq (tgt := 64) C dX12_goes_54 rfl (fun q54 => ?_) (fun q54 => ?_)
  · have hv := (if_pos q54).symm.trans hv
    exact tX12_goes_64 C K G  S v1 v2 v5 v6 hv
  · have hv := (if_neg q54).symm.trans hv
    refine jr_iload C dX12_goes_57 3 rfl ?_
    refine jr_bipush (v := 15) C dX12_goes_59 (by decide) ?_
    refine jr_icmp_ne (tgt := 91) C dX12_goes_61 rfl (fun q61 => ?_) (fun q61 => ?_)
    · have hv := (if_neg q61).symm.trans hv
      exact tX12_goes_91 C K G  S v1 v2 v5 v6 hv
    · have hv := (if_pos q61).symm.trans hv
      exact tX12_goes_64 C K G  S v1 v2 v5 v6 hv
set_option maxRecDepth 100000 in
theorem tX12_goes_8 {p : Program} {l : Launch} {e : Env} {s : State} {m : MethodId} {args : Array Value} {below : List Frame} {meth : Method} {c : Code} {g : MG} (C : CC p s m args meth c yX12_goes cX12_goes 15 (some .int)) (K : mK g s) (G : mSep g)  (S : MS) (v1 : Int32) (v2 : Int32) (v3 : Int64) (v5 : Int32) {w : Int32 × MS} (hv : fX12_goes_8 S v1 v2 v3 v5 = some w) : MJ p l e s m args below meth c 15 5 g (some (.int w.1)) w.2 8 [(0, .ref (mo g)), (1, .int v1), (2, .int v2), (3, .long v3), (5, .int v5)] [] S := by
  unfold fX12_goes_8 at hv
  refine jr_lload_n C dX12_goes_8 rfl 3 rfl ?_
  refine jr_lstore (lv' := [(6, .long v3), (0, .ref (mo g)), (1, .int v1), (2, .int v2), (3, .long v3), (5, .int v5)]) C dX12_goes_9 (by decide) rfl ?_
  refine jr_iload C dX12_goes_11 5 rfl ?_
  refine jr_bipush (v := 15) C dX12_goes_13 (by decide) ?_
  refine jr_icmp_ne (tgt := 50) C dX12_goes_15 rfl (fun q15 => ?_) (fun q15 => ?_)
  · have hv := (if_neg q15).symm.trans hv
    exact jr_sub [1, 2, 3, 5, 0] rfl (tX12_goes_50 C K G  S v1 v2 v5 v3 hv)
  · have hv := (if_pos q15).symm.trans hv
    refine jr_lload C dX12_goes_18 0 rfl ?_
    refine jr_aload_n C dX12_goes_20 rfl 1 rfl ?_
    refine jr_ldc2 C kw_1406 dX12_goes_21 ?_
    obtain ⟨c24, hc24, hv⟩ := Option.bind_eq_some_iff.mp hv
    refine jr_pcall (rest := [.ref (mo g), .long v3]) C (pX12_number l 360 hc24) oX12_number kw_1213 rfl ⟨Nat.le_of_ble_eq_true rfl, Nat.le_of_ble_eq_true rfl⟩ rfl (Nat.le_of_ble_eq_true rfl) ⟨Nat.zero_le _, Nat.zero_le _⟩ dX12_goes_24 ?_
    refine jr_lload C dX12_goes_27 0 rfl ?_
    refine jr_ldc2 C kw_1406 dX12_goes_29 ?_
    obtain ⟨c32, hc32, hv⟩ := Option.bind_eq_some_iff.mp hv
    refine jr_pcall (rest := [.long v3, .long c24, .ref (mo g), .long v3]) C (pX12_number l 360 hc32) oX12_number kw_1213 rfl ⟨Nat.le_of_ble_eq_true rfl, Nat.le_of_ble_eq_true rfl⟩ rfl (Nat.le_of_ble_eq_true rfl) ⟨Nat.zero_le _, Nat.zero_le _⟩ dX12_goes_32 ?_
    obtain ⟨c35, hc35, hv⟩ := Option.bind_eq_some_iff.mp hv
    refine jr_pcall (rest := [.long c24, .ref (mo g), .long v3]) C (pX12_quotient l v3 c32 hc35) oX12_quotient kw_1229 rfl ⟨Nat.le_of_ble_eq_true rfl, Nat.le_of_ble_eq_true rfl⟩ rfl (Nat.le_of_ble_eq_true rfl) ⟨Nat.zero_le _, Nat.zero_le _⟩ dX12_goes_35 ?_
    refine jr_iconst (v := 1) C dX12_goes_38 (by decide) ?_
    obtain ⟨c39, hc39, hv⟩ := Option.bind_eq_some_iff.mp hv
    refine jr_pcall (rest := [.long c24, .ref (mo g), .long v3]) C (pX12_cut l c35 1 hc39) oX12_cut kw_1282 rfl ⟨Nat.le_of_ble_eq_true rfl, Nat.le_of_ble_eq_true rfl⟩ rfl (Nat.le_of_ble_eq_true rfl) ⟨Nat.zero_le _, Nat.zero_le _⟩ dX12_goes_39 ?_
    obtain ⟨c42, hc42, hv⟩ := Option.bind_eq_some_iff.mp hv
    refine jm_call (rest := [.long v3]) C K G (pX12_product l G S c24 c39 hc42) oX12_product rfl kw_1262 rfl ⟨Nat.le_of_ble_eq_true rfl, Nat.le_of_ble_eq_true rfl⟩ rfl (Nat.le_of_ble_eq_true rfl) ⟨Nat.zero_le _, Nat.zero_le _⟩ dX12_goes_42 ?_
    obtain ⟨c45, hc45, hv⟩ := Option.bind_eq_some_iff.mp hv
    refine jr_pcall (rest := []) C (pX12_less l v3 c42.1 hc45) oX12_less kw_1256 rfl ⟨Nat.le_of_ble_eq_true rfl, Nat.le_of_ble_eq_true rfl⟩ rfl (Nat.le_of_ble_eq_true rfl) ⟨Nat.zero_le _, Nat.zero_le _⟩ dX12_goes_45 ?_
    refine jr_lstore (lv' := [(6, .long c45), (0, .ref (mo g)), (1, .int v1), (2, .int v2), (3, .long v3), (5, .int v5)]) C dX12_goes_48 (by decide) rfl ?_
    exact jr_sub [1, 2, 3, 5, 0] rfl (tX12_goes_50 C K G  c42.2 v1 v2 v5 c45 hv)
set_option maxRecDepth 100000 in
theorem tX12_goes_0 {p : Program} {l : Launch} {e : Env} {s : State} {m : MethodId} {args : Array Value} {below : List Frame} {meth : Method} {c : Code} {g : MG} (C : CC p s m args meth c yX12_goes cX12_goes 15 (some .int)) (K : mK g s) (G : mSep g)  (S : MS) (v1 : Int32) (v2 : Int32) (v3 : Int64) {w : Int32 × MS} (hv : fX12_goes S v1 v2 v3 = some w) : MJ p l e s m args below meth c 15 5 g (some (.int w.1)) w.2 0 [(0, .ref (mo g)), (1, .int v1), (2, .int v2), (3, .long v3)] [] S := by
  unfold fX12_goes at hv
  refine jr_aload_n C dX12_goes_0 rfl 0 rfl ?_
  refine jm_getA C K 6 (by decide) (by decide) kw_1441 rfl dX12_goes_1 ?_
  refine jr_iload_n C dX12_goes_4 rfl 1 rfl ?_
  by_cases z5 : inb v1 (mlA 6) = true
  case neg => exact op_none ((if_neg z5).symm.trans hv)
  have hv := (if_pos z5).symm.trans hv
  refine jm_iald C K z5 dX12_goes_5 ?_
  refine jr_istore (lv' := [(5, .int (gA S 6 (ix v1))), (0, .ref (mo g)), (1, .int v1), (2, .int v2), (3, .long v3)]) C dX12_goes_6 (by decide) rfl ?_
  exact jr_sub [1, 2, 3, 4, 0] rfl (tX12_goes_8 C K G  S v1 v2 v3 (gA S 6 (ix v1)) hv)
theorem pX12_goes (l : Launch) {g : MG} (G : mSep g) (S : MS) (v1 : Int32) (v2 : Int32) (v3 : Int64) {w : Int32} {S' : MS} (hw : fX12_goes S v1 v2 v3 = some (w, S')) : mC l yX12_goes cX12_goes 15 (some .int) 5 g [.ref (mo g), .int v1, .int v2, .long v3] S (some (.int w)) S' := mC_of (by decide +kernel) (Nat.le_of_ble_eq_true rfl) rfl (fun C K => tX12_goes_0 C K G S v1 v2 v3 hw)
/-! RobotCellModel.senses(IJ)V -/
def fX12_senses_259 (S : MS) : Option (MS) :=
  some S
def fX12_senses_258 (S : MS) (t0 : Nat) (t1 : Int32) (t2 : Int64) : Option (MS) :=
  if inb t1 (mlB t0) = true then fX12_senses_259 (pB S t0 (ix t1) t2) else none
def fX12_senses_237 (S : MS) (v1 : Int32) (v7 : Int32) (v8 : Int64) (v10 : Int64) : Option (MS) :=
  if v7 = 0 then fX12_senses_258 S 13 v1 0 else (Option.bind (fX12_less v8 v10) (fun c255 => fX12_senses_258 S 13 v1 c255))
def fX12_senses_236 (S : MS) (v1 : Int32) (v7 : Int32) (v8 : Int64) (v10 : Int64) (t0 : Nat) (t1 : Int32) (t2 : Int64) : Option (MS) :=
  if inb t1 (mlB t0) = true then fX12_senses_237 (pB S t0 (ix t1) t2) v1 v7 v8 v10 else none
def fX12_senses_206 (r109 : MS → Int32 → Int32 → Int64 → Int32 → Int64 → Int64 → Int32 → Option (MS)) (S : MS) (v1 : Int32) (v4 : Int32) (v5 : Int64) (v7 : Int32) (v8 : Int64) (v10 : Int64) (v12 : Int32) : Option (MS) :=
  r109 S v1 v4 v5 v7 v8 v10 v12
def fX12_senses_203 (r109 : MS → Int32 → Int32 → Int64 → Int32 → Int64 → Int64 → Int32 → Option (MS)) (S : MS) (v1 : Int32) (v4 : Int32) (v5 : Int64) (v7 : Int32) (v8 : Int64) (v10 : Int64) (v12 : Int32) : Option (MS) :=
  fX12_senses_206 r109 S v1 v4 v5 v7 v8 v10 (v12 + 1)
def fX12_senses_198 (r109 : MS → Int32 → Int32 → Int64 → Int32 → Int64 → Int64 → Int32 → Option (MS)) (S : MS) (v1 : Int32) (v4 : Int32) (v5 : Int64) (v7 : Int32) (v8 : Int64) (v12 : Int32) (t0 : Int64) : Option (MS) :=
  fX12_senses_203 r109 S v1 v4 v5 (v7 + 1) v8 t0 v12
def fX12_senses_191 (r109 : MS → Int32 → Int32 → Int64 → Int32 → Int64 → Int64 → Int32 → Option (MS)) (S : MS) (v1 : Int32) (v4 : Int32) (v5 : Int64) (v7 : Int32) (v8 : Int64) (v12 : Int32) (v13 : Int64) : Option (MS) :=
  fX12_senses_198 r109 S v1 v4 v5 v7 v8 v12 v13
def fX12_senses_174 (r109 : MS → Int32 → Int32 → Int64 → Int32 → Int64 → Int64 → Int32 → Option (MS)) (S : MS) (v1 : Int32) (v4 : Int32) (v5 : Int64) (v7 : Int32) (v10 : Int64) (v12 : Int32) (v13 : Int64) (t0 : Int64) : Option (MS) :=
  if v7 = 0 then fX12_senses_191 r109 S v1 v4 v5 v7 t0 v12 v13 else (if 0 ≤ (fX12_total v13 v10) then fX12_senses_198 r109 S v1 v4 v5 v7 t0 v12 v10 else fX12_senses_191 r109 S v1 v4 v5 v7 t0 v12 v13)
def fX12_senses_167 (r109 : MS → Int32 → Int32 → Int64 → Int32 → Int64 → Int64 → Int32 → Option (MS)) (S : MS) (v1 : Int32) (v4 : Int32) (v5 : Int64) (v7 : Int32) (v10 : Int64) (v12 : Int32) (v13 : Int64) : Option (MS) :=
  fX12_senses_174 r109 S v1 v4 v5 v7 v10 v12 v13 v13
def fX12_senses_132 (r109 : MS → Int32 → Int32 → Int64 → Int32 → Int64 → Int64 → Int32 → Option (MS)) (S : MS) (v1 : Int32) (v4 : Int32) (v5 : Int64) (v7 : Int32) (v8 : Int64) (v10 : Int64) (v12 : Int32) (v13 : Int64) : Option (MS) :=
  if (fX12_isLost v13) = 0 then (Option.bind (fX12_sum v5 v13) (fun c147 => if v7 = 0 then fX12_senses_167 r109 S v1 v4 c147 v7 v10 v12 v13 else (if (fX12_total v13 v8) ≤ 0 then fX12_senses_174 r109 S v1 v4 c147 v7 v10 v12 v13 v8 else fX12_senses_167 r109 S v1 v4 c147 v7 v10 v12 v13))) else fX12_senses_203 r109 S v1 v4 v5 v7 v8 v10 v12
def fX12_senses_109  : Nat → MS → Int32 → Int32 → Int64 → Int32 → Int64 → Int64 → Int32 → Option (MS)
  | 0, _, _, _, _, _, _, _, _ => none
  | q + 1, S, v1, v4, v5, v7, v8, v10, v12 => if inb v1 (mlA 20) = true then (if (gA S 20 (ix v1)) ≤ v12 then (if v7 = 0 then fX12_senses_236 S v1 v7 v8 v10 12 v1 9221120237041090560 else (Option.bind (fX12_number v7.toInt64) (fun c230 => Option.bind (fX12_quotient v5 c230) (fun c233 => fX12_senses_236 S v1 v7 v8 v10 12 v1 c233)))) else (if inb (v4 + v12) (mlB 19) = true then fX12_senses_132 (fX12_senses_109  q) S v1 v4 v5 v7 v8 v10 v12 (gB S 19 (ix (v4 + v12))) else none)) else none
def fX12_senses_94 (S : MS) (v1 : Int32) (v4 : Int32) : Option (MS) :=
  fX12_senses_109 10 S v1 v4 0 0 0 0 0
def fX12_senses_84 (S : MS) (v1 : Int32) (v4 : Int32) : Option (MS) :=
  if inb v1 (mlA 18) = true then (if inb v1 (mlA 18) = true then fX12_senses_94 (pA S 18 (ix v1) ((gA S 18 (ix v1)) + 1)) v1 v4 else none) else none
def fX12_senses_74 (S : MS) (v1 : Int32) (v4 : Int32) : Option (MS) :=
  if inb v1 (mlA 20) = true then (if inb v1 (mlA 20) = true then fX12_senses_84 (pA S 20 (ix v1) ((gA S 20 (ix v1)) + 1)) v1 v4 else none) else none
def fX12_senses_59 (S : MS) (v1 : Int32) (v2 : Int64) (v4 : Int32) : Option (MS) :=
  if inb v1 (mlA 20) = true then (if inb (v4 + (gA S 20 (ix v1))) (mlB 19) = true then fX12_senses_74 (pB S 19 (ix (v4 + (gA S 20 (ix v1)))) v2) v1 v4 else none) else none
def fX12_senses_49 (r18 : MS → Int32 → Int64 → Int32 → Int32 → Option (MS)) (S : MS) (v1 : Int32) (v2 : Int64) (v4 : Int32) (v5 : Int32) : Option (MS) :=
  r18 S v1 v2 v4 v5
def fX12_senses_46 (r18 : MS → Int32 → Int64 → Int32 → Int32 → Option (MS)) (S : MS) (v1 : Int32) (v2 : Int64) (v4 : Int32) (v5 : Int32) : Option (MS) :=
  fX12_senses_49 r18 S v1 v2 v4 (v5 + 1)
def fX12_senses_18  : Nat → MS → Int32 → Int64 → Int32 → Int32 → Option (MS)
  | 0, _, _, _, _, _ => none
  | q + 1, S, v1, v2, v4, v5 => if 4 ≤ v5 then (if inb v1 (mlA 20) = true then fX12_senses_59 (pA S 20 (ix v1) 4) v1 v2 v4 else none) else (if inb ((v4 + v5) + 1) (mlB 19) = true then (if inb (v4 + v5) (mlB 19) = true then fX12_senses_46 (fX12_senses_18  q) (pB S 19 (ix (v4 + v5)) (gB S 19 (ix ((v4 + v5) + 1)))) v1 v2 v4 v5 else none) else none)
def fX12_senses_5 (S : MS) (v1 : Int32) (v2 : Int64) (v4 : Int32) : Option (MS) :=
  if inb v1 (mlA 20) = true then (if (gA S 20 (ix v1)) = 5 then fX12_senses_18 10 S v1 v2 v4 0 else fX12_senses_59 S v1 v2 v4) else none
def fX12_senses (S : MS) (v1 : Int32) (v2 : Int64) : Option (MS) :=
  fX12_senses_5 S v1 v2 (5 * v1)
theorem oX12_senses : ok_v yX12_senses cX12_senses 15 none 2 := ⟨kw_1424, kw_1423, kw_68, kw_73, by decide +kernel⟩
set_option maxRecDepth 100000 in
theorem tX12_senses_259 {p : Program} {l : Launch} {e : Env} {s : State} {m : MethodId} {args : Array Value} {below : List Frame} {meth : Method} {c : Code} {g : MG} (C : CC p s m args meth c yX12_senses cX12_senses 15 none) (K : mK g s) (G : mSep g)  (S : MS) {w : MS} (hv : fX12_senses_259 S = some w) : MJ p l e s m args below meth c 15 5 g none w 259 [] [] S := by
  unfold fX12_senses_259 at hv
  exact jm_vret C K dX12_senses_259 (Option.some.inj hv)
set_option maxRecDepth 100000 in
theorem tX12_senses_258 {p : Program} {l : Launch} {e : Env} {s : State} {m : MethodId} {args : Array Value} {below : List Frame} {meth : Method} {c : Code} {g : MG} (C : CC p s m args meth c yX12_senses cX12_senses 15 none) (K : mK g s) (G : mSep g)  (S : MS) (t0 : Nat) (t1 : Int32) (t2 : Int64) {w : MS} (hv : fX12_senses_258 S t0 t1 t2 = some w) : MJ p l e s m args below meth c 15 5 g none w 258 [] [.long t2, .int t1, .ref (mad g t0)] S := by
  unfold fX12_senses_258 at hv
  by_cases z258 : inb t1 (mlB t0) = true
  case neg => exact op_none ((if_neg z258).symm.trans hv)
  have hv := (if_pos z258).symm.trans hv
  refine jm_last C K G z258 dX12_senses_258 ?_
  exact tX12_senses_259 C K G  (pB S t0 (ix t1) t2) hv
set_option maxRecDepth 100000 in
theorem tX12_senses_237 {p : Program} {l : Launch} {e : Env} {s : State} {m : MethodId} {args : Array Value} {below : List Frame} {meth : Method} {c : Code} {g : MG} (C : CC p s m args meth c yX12_senses cX12_senses 15 none) (K : mK g s) (G : mSep g)  (S : MS) (v1 : Int32) (v7 : Int32) (v8 : Int64) (v10 : Int64) {w : MS} (hv : fX12_senses_237 S v1 v7 v8 v10 = some w) : MJ p l e s m args below meth c 15 5 g none w 237 [(0, .ref (mo g)), (1, .int v1), (7, .int v7), (8, .long v8), (10, .long v10)] [] S := by
  unfold fX12_senses_237 at hv
  refine jr_aload_n C dX12_senses_237 rfl 0 rfl ?_
  refine jm_getA C K 13 (by decide) (by decide) kw_1448 rfl dX12_senses_238 ?_
  refine jr_iload_n C dX12_senses_241 rfl 1 rfl ?_
  refine jr_iload C dX12_senses_242 2 rfl ?_
  refine jr_if_ne (tgt := 251) C dX12_senses_244 rfl (fun q244 => ?_) (fun q244 => ?_)
  · have hv := (if_neg q244).symm.trans hv
    refine jr_lload C dX12_senses_251 3 rfl ?_
    refine jr_lload C dX12_senses_253 4 rfl ?_
    obtain ⟨c255, hc255, hv⟩ := Option.bind_eq_some_iff.mp hv
    refine jr_pcall (rest := [.int v1, .ref (mad g 13)]) C (pX12_less l v8 v10 hc255) oX12_less kw_1256 rfl ⟨Nat.le_of_ble_eq_true rfl, Nat.le_of_ble_eq_true rfl⟩ rfl (Nat.le_of_ble_eq_true rfl) ⟨Nat.zero_le _, Nat.zero_le _⟩ dX12_senses_255 ?_
    exact jr_sub [] rfl (tX12_senses_258 C K G  S 13 v1 c255 hv)
  · have hv := (if_pos q244).symm.trans hv
    refine jr_lconst (v := 0) C dX12_senses_247 (by decide) ?_
    refine jr_goto (tgt := 258) C dX12_senses_248 rfl ?_
    exact jr_sub [] rfl (tX12_senses_258 C K G  S 13 v1 0 hv)
set_option maxRecDepth 100000 in
theorem tX12_senses_236 {p : Program} {l : Launch} {e : Env} {s : State} {m : MethodId} {args : Array Value} {below : List Frame} {meth : Method} {c : Code} {g : MG} (C : CC p s m args meth c yX12_senses cX12_senses 15 none) (K : mK g s) (G : mSep g)  (S : MS) (v1 : Int32) (v7 : Int32) (v8 : Int64) (v10 : Int64) (t0 : Nat) (t1 : Int32) (t2 : Int64) {w : MS} (hv : fX12_senses_236 S v1 v7 v8 v10 t0 t1 t2 = some w) : MJ p l e s m args below meth c 15 5 g none w 236 [(0, .ref (mo g)), (1, .int v1), (7, .int v7), (8, .long v8), (10, .long v10)] [.long t2, .int t1, .ref (mad g t0)] S := by
  unfold fX12_senses_236 at hv
  by_cases z236 : inb t1 (mlB t0) = true
  case neg => exact op_none ((if_neg z236).symm.trans hv)
  have hv := (if_pos z236).symm.trans hv
  refine jm_last C K G z236 dX12_senses_236 ?_
  exact tX12_senses_237 C K G  (pB S t0 (ix t1) t2) v1 v7 v8 v10 hv
set_option maxRecDepth 100000 in
theorem tX12_senses_206 {p : Program} {l : Launch} {e : Env} {s : State} {m : MethodId} {args : Array Value} {below : List Frame} {meth : Method} {c : Code} {g : MG} (C : CC p s m args meth c yX12_senses cX12_senses 15 none) (K : mK g s) (G : mSep g) (r109 : MS → Int32 → Int32 → Int64 → Int32 → Int64 → Int64 → Int32 → Option (MS)) (h109 : ∀ (S : MS) (v1 : Int32) (v4 : Int32) (v5 : Int64) (v7 : Int32) (v8 : Int64) (v10 : Int64) (v12 : Int32) (w : MS), r109 S v1 v4 v5 v7 v8 v10 v12 = some w → MJ p l e s m args below meth c 15 5 g none w 109 [(0, .ref (mo g)), (1, .int v1), (4, .int v4), (5, .long v5), (7, .int v7), (8, .long v8), (10, .long v10), (12, .int v12)] [] S) (S : MS) (v1 : Int32) (v4 : Int32) (v5 : Int64) (v7 : Int32) (v8 : Int64) (v10 : Int64) (v12 : Int32) {w : MS} (hv : fX12_senses_206 r109 S v1 v4 v5 v7 v8 v10 v12 = some w) : MJ p l e s m args below meth c 15 5 g none w 206 [(0, .ref (mo g)), (1, .int v1), (4, .int v4), (5, .long v5), (7, .int v7), (8, .long v8), (10, .long v10), (12, .int v12)] [] S := by
  unfold fX12_senses_206 at hv
  refine jr_goto (tgt := 109) C dX12_senses_206 rfl ?_
  exact h109 S v1 v4 v5 v7 v8 v10 v12 _ hv
set_option maxRecDepth 100000 in
theorem tX12_senses_203 {p : Program} {l : Launch} {e : Env} {s : State} {m : MethodId} {args : Array Value} {below : List Frame} {meth : Method} {c : Code} {g : MG} (C : CC p s m args meth c yX12_senses cX12_senses 15 none) (K : mK g s) (G : mSep g) (r109 : MS → Int32 → Int32 → Int64 → Int32 → Int64 → Int64 → Int32 → Option (MS)) (h109 : ∀ (S : MS) (v1 : Int32) (v4 : Int32) (v5 : Int64) (v7 : Int32) (v8 : Int64) (v10 : Int64) (v12 : Int32) (w : MS), r109 S v1 v4 v5 v7 v8 v10 v12 = some w → MJ p l e s m args below meth c 15 5 g none w 109 [(0, .ref (mo g)), (1, .int v1), (4, .int v4), (5, .long v5), (7, .int v7), (8, .long v8), (10, .long v10), (12, .int v12)] [] S) (S : MS) (v1 : Int32) (v4 : Int32) (v5 : Int64) (v7 : Int32) (v8 : Int64) (v10 : Int64) (v12 : Int32) {w : MS} (hv : fX12_senses_203 r109 S v1 v4 v5 v7 v8 v10 v12 = some w) : MJ p l e s m args below meth c 15 5 g none w 203 [(0, .ref (mo g)), (1, .int v1), (4, .int v4), (5, .long v5), (7, .int v7), (8, .long v8), (10, .long v10), (12, .int v12)] [] S := by
  unfold fX12_senses_203 at hv
  refine jr_iinc (v := (v12 + 1)) (lv' := [(12, .int (v12 + 1)), (0, .ref (mo g)), (1, .int v1), (4, .int v4), (5, .long v5), (7, .int v7), (8, .long v8), (10, .long v10)]) C dX12_senses_203 7 rfl rfl (by decide) rfl ?_
  exact jr_sub [1, 2, 3, 4, 5, 6, 7, 0] rfl (tX12_senses_206 C K G r109 h109 S v1 v4 v5 v7 v8 v10 (v12 + 1) hv)
set_option maxRecDepth 100000 in
theorem tX12_senses_198 {p : Program} {l : Launch} {e : Env} {s : State} {m : MethodId} {args : Array Value} {below : List Frame} {meth : Method} {c : Code} {g : MG} (C : CC p s m args meth c yX12_senses cX12_senses 15 none) (K : mK g s) (G : mSep g) (r109 : MS → Int32 → Int32 → Int64 → Int32 → Int64 → Int64 → Int32 → Option (MS)) (h109 : ∀ (S : MS) (v1 : Int32) (v4 : Int32) (v5 : Int64) (v7 : Int32) (v8 : Int64) (v10 : Int64) (v12 : Int32) (w : MS), r109 S v1 v4 v5 v7 v8 v10 v12 = some w → MJ p l e s m args below meth c 15 5 g none w 109 [(0, .ref (mo g)), (1, .int v1), (4, .int v4), (5, .long v5), (7, .int v7), (8, .long v8), (10, .long v10), (12, .int v12)] [] S) (S : MS) (v1 : Int32) (v4 : Int32) (v5 : Int64) (v7 : Int32) (v8 : Int64) (v12 : Int32) (t0 : Int64) {w : MS} (hv : fX12_senses_198 r109 S v1 v4 v5 v7 v8 v12 t0 = some w) : MJ p l e s m args below meth c 15 5 g none w 198 [(0, .ref (mo g)), (1, .int v1), (4, .int v4), (5, .long v5), (7, .int v7), (8, .long v8), (12, .int v12)] [.long t0] S := by
  unfold fX12_senses_198 at hv
  refine jr_lstore (lv' := [(10, .long t0), (0, .ref (mo g)), (1, .int v1), (4, .int v4), (5, .long v5), (7, .int v7), (8, .long v8), (12, .int v12)]) C dX12_senses_198 (by decide) rfl ?_
  refine jr_iinc (v := (v7 + 1)) (lv' := [(7, .int (v7 + 1)), (10, .long t0), (0, .ref (mo g)), (1, .int v1), (4, .int v4), (5, .long v5), (8, .long v8), (12, .int v12)]) C dX12_senses_200 5 rfl rfl (by decide) rfl ?_
  exact jr_sub [2, 3, 4, 5, 0, 6, 1, 7] rfl (tX12_senses_203 C K G r109 h109 S v1 v4 v5 (v7 + 1) v8 t0 v12 hv)
set_option maxRecDepth 100000 in
theorem tX12_senses_191 {p : Program} {l : Launch} {e : Env} {s : State} {m : MethodId} {args : Array Value} {below : List Frame} {meth : Method} {c : Code} {g : MG} (C : CC p s m args meth c yX12_senses cX12_senses 15 none) (K : mK g s) (G : mSep g) (r109 : MS → Int32 → Int32 → Int64 → Int32 → Int64 → Int64 → Int32 → Option (MS)) (h109 : ∀ (S : MS) (v1 : Int32) (v4 : Int32) (v5 : Int64) (v7 : Int32) (v8 : Int64) (v10 : Int64) (v12 : Int32) (w : MS), r109 S v1 v4 v5 v7 v8 v10 v12 = some w → MJ p l e s m args below meth c 15 5 g none w 109 [(0, .ref (mo g)), (1, .int v1), (4, .int v4), (5, .long v5), (7, .int v7), (8, .long v8), (10, .long v10), (12, .int v12)] [] S) (S : MS) (v1 : Int32) (v4 : Int32) (v5 : Int64) (v7 : Int32) (v8 : Int64) (v12 : Int32) (v13 : Int64) {w : MS} (hv : fX12_senses_191 r109 S v1 v4 v5 v7 v8 v12 v13 = some w) : MJ p l e s m args below meth c 15 5 g none w 191 [(0, .ref (mo g)), (1, .int v1), (4, .int v4), (5, .long v5), (7, .int v7), (8, .long v8), (12, .int v12), (13, .long v13)] [] S := by
  unfold fX12_senses_191 at hv
  refine jr_lload C dX12_senses_191 7 rfl ?_
  refine jr_goto (tgt := 198) C dX12_senses_193 rfl ?_
  exact jr_sub [0, 1, 2, 3, 4, 5, 6] rfl (tX12_senses_198 C K G r109 h109 S v1 v4 v5 v7 v8 v12 v13 hv)
set_option maxRecDepth 100000 in
theorem tX12_senses_174 {p : Program} {l : Launch} {e : Env} {s : State} {m : MethodId} {args : Array Value} {below : List Frame} {meth : Method} {c : Code} {g : MG} (C : CC p s m args meth c yX12_senses cX12_senses 15 none) (K : mK g s) (G : mSep g) (r109 : MS → Int32 → Int32 → Int64 → Int32 → Int64 → Int64 → Int32 → Option (MS)) (h109 : ∀ (S : MS) (v1 : Int32) (v4 : Int32) (v5 : Int64) (v7 : Int32) (v8 : Int64) (v10 : Int64) (v12 : Int32) (w : MS), r109 S v1 v4 v5 v7 v8 v10 v12 = some w → MJ p l e s m args below meth c 15 5 g none w 109 [(0, .ref (mo g)), (1, .int v1), (4, .int v4), (5, .long v5), (7, .int v7), (8, .long v8), (10, .long v10), (12, .int v12)] [] S) (S : MS) (v1 : Int32) (v4 : Int32) (v5 : Int64) (v7 : Int32) (v10 : Int64) (v12 : Int32) (v13 : Int64) (t0 : Int64) {w : MS} (hv : fX12_senses_174 r109 S v1 v4 v5 v7 v10 v12 v13 t0 = some w) : MJ p l e s m args below meth c 15 5 g none w 174 [(0, .ref (mo g)), (1, .int v1), (4, .int v4), (5, .long v5), (7, .int v7), (10, .long v10), (12, .int v12), (13, .long v13)] [.long t0] S := by
  unfold fX12_senses_174 at hv
  refine jr_lstore (lv' := [(8, .long t0), (0, .ref (mo g)), (1, .int v1), (4, .int v4), (5, .long v5), (7, .int v7), (10, .long v10), (12, .int v12), (13, .long v13)]) C dX12_senses_174 (by decide) rfl ?_
  refine jr_iload C dX12_senses_176 5 rfl ?_
  refine jr_if_eq (tgt := 191) C dX12_senses_178 rfl (fun q178 => ?_) (fun q178 => ?_)
  · have hv := (if_pos q178).symm.trans hv
    exact jr_sub [1, 2, 3, 4, 5, 0, 7, 8] rfl (tX12_senses_191 C K G r109 h109 S v1 v4 v5 v7 t0 v12 v13 hv)
  · have hv := (if_neg q178).symm.trans hv
    refine jr_lload C dX12_senses_181 8 rfl ?_
    refine jr_lload C dX12_senses_183 6 rfl ?_
    refine jr_pcall (rest := []) C (pX12_total l v13 v10) oX12_total kw_1300 rfl ⟨Nat.le_of_ble_eq_true rfl, Nat.le_of_ble_eq_true rfl⟩ rfl (Nat.le_of_ble_eq_true rfl) ⟨Nat.zero_le _, Nat.zero_le _⟩ dX12_senses_185 ?_
    refine jr_if_ge (tgt := 196) C dX12_senses_188 rfl (fun q188 => ?_) (fun q188 => ?_)
    · have hv := (if_pos q188).symm.trans hv
      refine jr_lload C dX12_senses_196 6 rfl ?_
      exact jr_sub [1, 2, 3, 4, 5, 0, 7] rfl (tX12_senses_198 C K G r109 h109 S v1 v4 v5 v7 t0 v12 v10 hv)
    · have hv := (if_neg q188).symm.trans hv
      exact jr_sub [1, 2, 3, 4, 5, 0, 7, 8] rfl (tX12_senses_191 C K G r109 h109 S v1 v4 v5 v7 t0 v12 v13 hv)
set_option maxRecDepth 100000 in
theorem tX12_senses_167 {p : Program} {l : Launch} {e : Env} {s : State} {m : MethodId} {args : Array Value} {below : List Frame} {meth : Method} {c : Code} {g : MG} (C : CC p s m args meth c yX12_senses cX12_senses 15 none) (K : mK g s) (G : mSep g) (r109 : MS → Int32 → Int32 → Int64 → Int32 → Int64 → Int64 → Int32 → Option (MS)) (h109 : ∀ (S : MS) (v1 : Int32) (v4 : Int32) (v5 : Int64) (v7 : Int32) (v8 : Int64) (v10 : Int64) (v12 : Int32) (w : MS), r109 S v1 v4 v5 v7 v8 v10 v12 = some w → MJ p l e s m args below meth c 15 5 g none w 109 [(0, .ref (mo g)), (1, .int v1), (4, .int v4), (5, .long v5), (7, .int v7), (8, .long v8), (10, .long v10), (12, .int v12)] [] S) (S : MS) (v1 : Int32) (v4 : Int32) (v5 : Int64) (v7 : Int32) (v10 : Int64) (v12 : Int32) (v13 : Int64) {w : MS} (hv : fX12_senses_167 r109 S v1 v4 v5 v7 v10 v12 v13 = some w) : MJ p l e s m args below meth c 15 5 g none w 167 [(0, .ref (mo g)), (1, .int v1), (4, .int v4), (5, .long v5), (7, .int v7), (10, .long v10), (12, .int v12), (13, .long v13)] [] S := by
  unfold fX12_senses_167 at hv
  refine jr_lload C dX12_senses_167 7 rfl ?_
  refine jr_goto (tgt := 174) C dX12_senses_169 rfl ?_
  exact tX12_senses_174 C K G r109 h109 S v1 v4 v5 v7 v10 v12 v13 v13 hv
set_option maxRecDepth 100000 in
theorem tX12_senses_132 {p : Program} {l : Launch} {e : Env} {s : State} {m : MethodId} {args : Array Value} {below : List Frame} {meth : Method} {c : Code} {g : MG} (C : CC p s m args meth c yX12_senses cX12_senses 15 none) (K : mK g s) (G : mSep g) (r109 : MS → Int32 → Int32 → Int64 → Int32 → Int64 → Int64 → Int32 → Option (MS)) (h109 : ∀ (S : MS) (v1 : Int32) (v4 : Int32) (v5 : Int64) (v7 : Int32) (v8 : Int64) (v10 : Int64) (v12 : Int32) (w : MS), r109 S v1 v4 v5 v7 v8 v10 v12 = some w → MJ p l e s m args below meth c 15 5 g none w 109 [(0, .ref (mo g)), (1, .int v1), (4, .int v4), (5, .long v5), (7, .int v7), (8, .long v8), (10, .long v10), (12, .int v12)] [] S) (S : MS) (v1 : Int32) (v4 : Int32) (v5 : Int64) (v7 : Int32) (v8 : Int64) (v10 : Int64) (v12 : Int32) (v13 : Int64) {w : MS} (hv : fX12_senses_132 r109 S v1 v4 v5 v7 v8 v10 v12 v13 = some w) : MJ p l e s m args below meth c 15 5 g none w 132 [(0, .ref (mo g)), (1, .int v1), (4, .int v4), (5, .long v5), (7, .int v7), (8, .long v8), (10, .long v10), (12, .int v12), (13, .long v13)] [] S := by
  unfold fX12_senses_132 at hv
  refine jr_lload C dX12_senses_132 8 rfl ?_
  refine jr_pcall (rest := []) C (pX12_isLost l v13) oX12_isLost kw_1203 rfl ⟨Nat.le_of_ble_eq_true rfl, Nat.le_of_ble_eq_true rfl⟩ rfl (Nat.le_of_ble_eq_true rfl) ⟨Nat.zero_le _, Nat.zero_le _⟩ dX12_senses_134 ?_
  refine jr_if_eq (tgt := 143) C dX12_senses_137 rfl (fun q137 => ?_) (fun q137 => ?_)
  · have hv := (if_pos q137).symm.trans hv
    refine jr_lload C dX12_senses_143 3 rfl ?_
    refine jr_lload C dX12_senses_145 8 rfl ?_
    obtain ⟨c147, hc147, hv⟩ := Option.bind_eq_some_iff.mp hv
    refine jr_pcall (rest := []) C (pX12_sum l v5 v13 hc147) oX12_sum kw_1253 rfl ⟨Nat.le_of_ble_eq_true rfl, Nat.le_of_ble_eq_true rfl⟩ rfl (Nat.le_of_ble_eq_true rfl) ⟨Nat.zero_le _, Nat.zero_le _⟩ dX12_senses_147 ?_
    refine jr_lstore (lv' := [(5, .long c147), (0, .ref (mo g)), (1, .int v1), (4, .int v4), (7, .int v7), (8, .long v8), (10, .long v10), (12, .int v12), (13, .long v13)]) C dX12_senses_150 (by decide) rfl ?_
    refine jr_iload C dX12_senses_152 4 rfl ?_
    refine jr_if_eq (tgt := 167) C dX12_senses_154 rfl (fun q154 => ?_) (fun q154 => ?_)
    · have hv := (if_pos q154).symm.trans hv
      exact jr_sub [1, 2, 3, 0, 4, 6, 7, 8] rfl (tX12_senses_167 C K G r109 h109 S v1 v4 c147 v7 v10 v12 v13 hv)
    · have hv := (if_neg q154).symm.trans hv
      refine jr_lload C dX12_senses_157 8 rfl ?_
      refine jr_lload C dX12_senses_159 5 rfl ?_
      refine jr_pcall (rest := []) C (pX12_total l v13 v8) oX12_total kw_1300 rfl ⟨Nat.le_of_ble_eq_true rfl, Nat.le_of_ble_eq_true rfl⟩ rfl (Nat.le_of_ble_eq_true rfl) ⟨Nat.zero_le _, Nat.zero_le _⟩ dX12_senses_161 ?_
      refine jr_if_le (tgt := 172) C dX12_senses_164 rfl (fun q164 => ?_) (fun q164 => ?_)
      · have hv := (if_pos q164).symm.trans hv
        refine jr_lload C dX12_senses_172 5 rfl ?_
        exact jr_sub [1, 2, 3, 0, 4, 6, 7, 8] rfl (tX12_senses_174 C K G r109 h109 S v1 v4 c147 v7 v10 v12 v13 v8 hv)
      · have hv := (if_neg q164).symm.trans hv
        exact jr_sub [1, 2, 3, 0, 4, 6, 7, 8] rfl (tX12_senses_167 C K G r109 h109 S v1 v4 c147 v7 v10 v12 v13 hv)
  · have hv := (if_neg q137).symm.trans hv
    refine jr_goto (tgt := 203) C dX12_senses_140 rfl ?_
    exact jr_sub [0, 1, 2, 3, 4, 5, 6, 7] rfl (tX12_senses_203 C K G r109 h109 S v1 v4 v5 v7 v8 v10 v12 hv)
set_option maxRecDepth 100000 in
theorem tX12_senses_109 {p : Program} {l : Launch} {e : Env} {s : State} {m : MethodId} {args : Array Value} {below : List Frame} {meth : Method} {c : Code} {g : MG} (C : CC p s m args meth c yX12_senses cX12_senses 15 none) (K : mK g s) (G : mSep g)  : ∀ (q : Nat) (S : MS) (v1 : Int32) (v4 : Int32) (v5 : Int64) (v7 : Int32) (v8 : Int64) (v10 : Int64) (v12 : Int32) (w : MS), fX12_senses_109  q S v1 v4 v5 v7 v8 v10 v12 = some w → MJ p l e s m args below meth c 15 5 g none w 109 [(0, .ref (mo g)), (1, .int v1), (4, .int v4), (5, .long v5), (7, .int v7), (8, .long v8), (10, .long v10), (12, .int v12)] [] S := by
  intro q
  induction q with
  | zero => intro S v1 v4 v5 v7 v8 v10 v12 w hv; exact absurd hv (by simp [fX12_senses_109])
  | succ q ih =>
    intro S v1 v4 v5 v7 v8 v10 v12 w hv
    unfold fX12_senses_109 at hv
    refine jr_iload C dX12_senses_109 7 rfl ?_
    refine jr_aload_n C dX12_senses_111 rfl 0 rfl ?_
    refine jm_getA C K 20 (by decide) (by decide) kw_1455 rfl dX12_senses_112 ?_
    refine jr_iload_n C dX12_senses_115 rfl 1 rfl ?_
    by_cases z116 : inb v1 (mlA 20) = true
    case neg => exact op_none ((if_neg z116).symm.trans hv)
    have hv := (if_pos z116).symm.trans hv
    refine jm_iald C K z116 dX12_senses_116 ?_
    refine jr_icmp_ge (tgt := 209) C dX12_senses_117 rfl (fun q117 => ?_) (fun q117 => ?_)
    · have hv := (if_pos q117).symm.trans hv
      refine jr_aload_n C dX12_senses_209 rfl 0 rfl ?_
      refine jm_getA C K 12 (by decide) (by decide) kw_1447 rfl dX12_senses_210 ?_
      refine jr_iload_n C dX12_senses_213 rfl 1 rfl ?_
      refine jr_iload C dX12_senses_214 4 rfl ?_
      refine jr_if_ne (tgt := 225) C dX12_senses_216 rfl (fun q216 => ?_) (fun q216 => ?_)
      · have hv := (if_neg q216).symm.trans hv
        refine jr_lload C dX12_senses_225 3 rfl ?_
        refine jr_iload C dX12_senses_227 4 rfl ?_
        refine jr_i2l C dX12_senses_229 ?_
        obtain ⟨c230, hc230, hv⟩ := Option.bind_eq_some_iff.mp hv
        refine jr_pcall (rest := [.long v5, .int v1, .ref (mad g 12)]) C (pX12_number l v7.toInt64 hc230) oX12_number kw_1213 rfl ⟨Nat.le_of_ble_eq_true rfl, Nat.le_of_ble_eq_true rfl⟩ rfl (Nat.le_of_ble_eq_true rfl) ⟨Nat.zero_le _, Nat.zero_le _⟩ dX12_senses_230 ?_
        obtain ⟨c233, hc233, hv⟩ := Option.bind_eq_some_iff.mp hv
        refine jr_pcall (rest := [.int v1, .ref (mad g 12)]) C (pX12_quotient l v5 c230 hc233) oX12_quotient kw_1229 rfl ⟨Nat.le_of_ble_eq_true rfl, Nat.le_of_ble_eq_true rfl⟩ rfl (Nat.le_of_ble_eq_true rfl) ⟨Nat.zero_le _, Nat.zero_le _⟩ dX12_senses_233 ?_
        exact jr_sub [0, 1, 4, 5, 6] rfl (tX12_senses_236 C K G  S v1 v7 v8 v10 12 v1 c233 hv)
      · have hv := (if_pos q216).symm.trans hv
        refine jr_ldc2 C kw_1208 dX12_senses_219 ?_
        refine jr_goto (tgt := 236) C dX12_senses_222 rfl ?_
        exact jr_sub [0, 1, 4, 5, 6] rfl (tX12_senses_236 C K G  S v1 v7 v8 v10 12 v1 9221120237041090560 hv)
    · have hv := (if_neg q117).symm.trans hv
      refine jr_aload_n C dX12_senses_120 rfl 0 rfl ?_
      refine jm_getA C K 19 (by decide) (by decide) kw_1454 rfl dX12_senses_121 ?_
      refine jr_iload C dX12_senses_124 2 rfl ?_
      refine jr_iload C dX12_senses_126 7 rfl ?_
      refine jr_iadd C dX12_senses_128 ?_
      by_cases z129 : inb (v4 + v12) (mlB 19) = true
      case neg => exact op_none ((if_neg z129).symm.trans hv)
      have hv := (if_pos z129).symm.trans hv
      refine jm_lald C K z129 dX12_senses_129 ?_
      refine jr_lstore (lv' := [(13, .long (gB S 19 (ix (v4 + v12)))), (0, .ref (mo g)), (1, .int v1), (4, .int v4), (5, .long v5), (7, .int v7), (8, .long v8), (10, .long v10), (12, .int v12)]) C dX12_senses_130 (by decide) rfl ?_
      exact jr_sub [1, 2, 3, 4, 5, 6, 7, 8, 0] rfl (tX12_senses_132 C K G (fX12_senses_109  q) ih S v1 v4 v5 v7 v8 v10 v12 (gB S 19 (ix (v4 + v12))) hv)
set_option maxRecDepth 100000 in
theorem tX12_senses_94 {p : Program} {l : Launch} {e : Env} {s : State} {m : MethodId} {args : Array Value} {below : List Frame} {meth : Method} {c : Code} {g : MG} (C : CC p s m args meth c yX12_senses cX12_senses 15 none) (K : mK g s) (G : mSep g)  (S : MS) (v1 : Int32) (v4 : Int32) {w : MS} (hv : fX12_senses_94 S v1 v4 = some w) : MJ p l e s m args below meth c 15 5 g none w 94 [(0, .ref (mo g)), (1, .int v1), (4, .int v4)] [] S := by
  unfold fX12_senses_94 at hv
  refine jr_lconst (v := 0) C dX12_senses_94 (by decide) ?_
  refine jr_lstore (lv' := [(5, .long 0), (0, .ref (mo g)), (1, .int v1), (4, .int v4)]) C dX12_senses_95 (by decide) rfl ?_
  refine jr_iconst (v := 0) C dX12_senses_97 (by decide) ?_
  refine jr_istore (lv' := [(7, .int 0), (5, .long 0), (0, .ref (mo g)), (1, .int v1), (4, .int v4)]) C dX12_senses_98 (by decide) rfl ?_
  refine jr_lconst (v := 0) C dX12_senses_100 (by decide) ?_
  refine jr_lstore (lv' := [(8, .long 0), (7, .int 0), (5, .long 0), (0, .ref (mo g)), (1, .int v1), (4, .int v4)]) C dX12_senses_101 (by decide) rfl ?_
  refine jr_lconst (v := 0) C dX12_senses_103 (by decide) ?_
  refine jr_lstore (lv' := [(10, .long 0), (8, .long 0), (7, .int 0), (5, .long 0), (0, .ref (mo g)), (1, .int v1), (4, .int v4)]) C dX12_senses_104 (by decide) rfl ?_
  refine jr_iconst (v := 0) C dX12_senses_106 (by decide) ?_
  refine jr_istore (lv' := [(12, .int 0), (10, .long 0), (8, .long 0), (7, .int 0), (5, .long 0), (0, .ref (mo g)), (1, .int v1), (4, .int v4)]) C dX12_senses_107 (by decide) rfl ?_
  exact jr_sub [5, 6, 7, 4, 3, 2, 1, 0] rfl (tX12_senses_109 C K G  10 S v1 v4 0 0 0 0 0 _ hv)
set_option maxRecDepth 100000 in
theorem tX12_senses_84 {p : Program} {l : Launch} {e : Env} {s : State} {m : MethodId} {args : Array Value} {below : List Frame} {meth : Method} {c : Code} {g : MG} (C : CC p s m args meth c yX12_senses cX12_senses 15 none) (K : mK g s) (G : mSep g)  (S : MS) (v1 : Int32) (v4 : Int32) {w : MS} (hv : fX12_senses_84 S v1 v4 = some w) : MJ p l e s m args below meth c 15 5 g none w 84 [(0, .ref (mo g)), (1, .int v1), (4, .int v4)] [] S := by
  unfold fX12_senses_84 at hv
  refine jr_aload_n C dX12_senses_84 rfl 0 rfl ?_
  refine jm_getA C K 18 (by decide) (by decide) kw_1453 rfl dX12_senses_85 ?_
  refine jr_iload_n C dX12_senses_88 rfl 1 rfl ?_
  refine jr_dup2_11 C dX12_senses_89 rfl rfl ?_
  by_cases z90 : inb v1 (mlA 18) = true
  case neg => exact op_none ((if_neg z90).symm.trans hv)
  have hv := (if_pos z90).symm.trans hv
  refine jm_iald C K z90 dX12_senses_90 ?_
  refine jr_iconst (v := 1) C dX12_senses_91 (by decide) ?_
  refine jr_iadd C dX12_senses_92 ?_
  by_cases z93 : inb v1 (mlA 18) = true
  case neg => exact op_none ((if_neg z93).symm.trans hv)
  have hv := (if_pos z93).symm.trans hv
  refine jm_iast C K G z93 dX12_senses_93 ?_
  exact tX12_senses_94 C K G  (pA S 18 (ix v1) ((gA S 18 (ix v1)) + 1)) v1 v4 hv
set_option maxRecDepth 100000 in
theorem tX12_senses_74 {p : Program} {l : Launch} {e : Env} {s : State} {m : MethodId} {args : Array Value} {below : List Frame} {meth : Method} {c : Code} {g : MG} (C : CC p s m args meth c yX12_senses cX12_senses 15 none) (K : mK g s) (G : mSep g)  (S : MS) (v1 : Int32) (v4 : Int32) {w : MS} (hv : fX12_senses_74 S v1 v4 = some w) : MJ p l e s m args below meth c 15 5 g none w 74 [(0, .ref (mo g)), (1, .int v1), (4, .int v4)] [] S := by
  unfold fX12_senses_74 at hv
  refine jr_aload_n C dX12_senses_74 rfl 0 rfl ?_
  refine jm_getA C K 20 (by decide) (by decide) kw_1455 rfl dX12_senses_75 ?_
  refine jr_iload_n C dX12_senses_78 rfl 1 rfl ?_
  refine jr_dup2_11 C dX12_senses_79 rfl rfl ?_
  by_cases z80 : inb v1 (mlA 20) = true
  case neg => exact op_none ((if_neg z80).symm.trans hv)
  have hv := (if_pos z80).symm.trans hv
  refine jm_iald C K z80 dX12_senses_80 ?_
  refine jr_iconst (v := 1) C dX12_senses_81 (by decide) ?_
  refine jr_iadd C dX12_senses_82 ?_
  by_cases z83 : inb v1 (mlA 20) = true
  case neg => exact op_none ((if_neg z83).symm.trans hv)
  have hv := (if_pos z83).symm.trans hv
  refine jm_iast C K G z83 dX12_senses_83 ?_
  exact tX12_senses_84 C K G  (pA S 20 (ix v1) ((gA S 20 (ix v1)) + 1)) v1 v4 hv
set_option maxRecDepth 100000 in
theorem tX12_senses_59 {p : Program} {l : Launch} {e : Env} {s : State} {m : MethodId} {args : Array Value} {below : List Frame} {meth : Method} {c : Code} {g : MG} (C : CC p s m args meth c yX12_senses cX12_senses 15 none) (K : mK g s) (G : mSep g)  (S : MS) (v1 : Int32) (v2 : Int64) (v4 : Int32) {w : MS} (hv : fX12_senses_59 S v1 v2 v4 = some w) : MJ p l e s m args below meth c 15 5 g none w 59 [(0, .ref (mo g)), (1, .int v1), (2, .long v2), (4, .int v4)] [] S := by
  unfold fX12_senses_59 at hv
  refine jr_aload_n C dX12_senses_59 rfl 0 rfl ?_
  refine jm_getA C K 19 (by decide) (by decide) kw_1454 rfl dX12_senses_60 ?_
  refine jr_iload C dX12_senses_63 3 rfl ?_
  refine jr_aload_n C dX12_senses_65 rfl 0 rfl ?_
  refine jm_getA C K 20 (by decide) (by decide) kw_1455 rfl dX12_senses_66 ?_
  refine jr_iload_n C dX12_senses_69 rfl 1 rfl ?_
  by_cases z70 : inb v1 (mlA 20) = true
  case neg => exact op_none ((if_neg z70).symm.trans hv)
  have hv := (if_pos z70).symm.trans hv
  refine jm_iald C K z70 dX12_senses_70 ?_
  refine jr_iadd C dX12_senses_71 ?_
  refine jr_lload_n C dX12_senses_72 rfl 2 rfl ?_
  by_cases z73 : inb (v4 + (gA S 20 (ix v1))) (mlB 19) = true
  case neg => exact op_none ((if_neg z73).symm.trans hv)
  have hv := (if_pos z73).symm.trans hv
  refine jm_last C K G z73 dX12_senses_73 ?_
  exact jr_sub [0, 1, 3] rfl (tX12_senses_74 C K G  (pB S 19 (ix (v4 + (gA S 20 (ix v1)))) v2) v1 v4 hv)
set_option maxRecDepth 100000 in
theorem tX12_senses_49 {p : Program} {l : Launch} {e : Env} {s : State} {m : MethodId} {args : Array Value} {below : List Frame} {meth : Method} {c : Code} {g : MG} (C : CC p s m args meth c yX12_senses cX12_senses 15 none) (K : mK g s) (G : mSep g) (r18 : MS → Int32 → Int64 → Int32 → Int32 → Option (MS)) (h18 : ∀ (S : MS) (v1 : Int32) (v2 : Int64) (v4 : Int32) (v5 : Int32) (w : MS), r18 S v1 v2 v4 v5 = some w → MJ p l e s m args below meth c 15 5 g none w 18 [(0, .ref (mo g)), (1, .int v1), (2, .long v2), (4, .int v4), (5, .int v5)] [] S) (S : MS) (v1 : Int32) (v2 : Int64) (v4 : Int32) (v5 : Int32) {w : MS} (hv : fX12_senses_49 r18 S v1 v2 v4 v5 = some w) : MJ p l e s m args below meth c 15 5 g none w 49 [(0, .ref (mo g)), (1, .int v1), (2, .long v2), (4, .int v4), (5, .int v5)] [] S := by
  unfold fX12_senses_49 at hv
  refine jr_goto (tgt := 18) C dX12_senses_49 rfl ?_
  exact h18 S v1 v2 v4 v5 _ hv
set_option maxRecDepth 100000 in
theorem tX12_senses_46 {p : Program} {l : Launch} {e : Env} {s : State} {m : MethodId} {args : Array Value} {below : List Frame} {meth : Method} {c : Code} {g : MG} (C : CC p s m args meth c yX12_senses cX12_senses 15 none) (K : mK g s) (G : mSep g) (r18 : MS → Int32 → Int64 → Int32 → Int32 → Option (MS)) (h18 : ∀ (S : MS) (v1 : Int32) (v2 : Int64) (v4 : Int32) (v5 : Int32) (w : MS), r18 S v1 v2 v4 v5 = some w → MJ p l e s m args below meth c 15 5 g none w 18 [(0, .ref (mo g)), (1, .int v1), (2, .long v2), (4, .int v4), (5, .int v5)] [] S) (S : MS) (v1 : Int32) (v2 : Int64) (v4 : Int32) (v5 : Int32) {w : MS} (hv : fX12_senses_46 r18 S v1 v2 v4 v5 = some w) : MJ p l e s m args below meth c 15 5 g none w 46 [(0, .ref (mo g)), (1, .int v1), (2, .long v2), (4, .int v4), (5, .int v5)] [] S := by
  unfold fX12_senses_46 at hv
  refine jr_iinc (v := (v5 + 1)) (lv' := [(5, .int (v5 + 1)), (0, .ref (mo g)), (1, .int v1), (2, .long v2), (4, .int v4)]) C dX12_senses_46 4 rfl rfl (by decide) rfl ?_
  exact jr_sub [1, 2, 3, 4, 0] rfl (tX12_senses_49 C K G r18 h18 S v1 v2 v4 (v5 + 1) hv)
set_option maxRecDepth 100000 in
theorem tX12_senses_18 {p : Program} {l : Launch} {e : Env} {s : State} {m : MethodId} {args : Array Value} {below : List Frame} {meth : Method} {c : Code} {g : MG} (C : CC p s m args meth c yX12_senses cX12_senses 15 none) (K : mK g s) (G : mSep g)  : ∀ (q : Nat) (S : MS) (v1 : Int32) (v2 : Int64) (v4 : Int32) (v5 : Int32) (w : MS), fX12_senses_18  q S v1 v2 v4 v5 = some w → MJ p l e s m args below meth c 15 5 g none w 18 [(0, .ref (mo g)), (1, .int v1), (2, .long v2), (4, .int v4), (5, .int v5)] [] S := by
  intro q
  induction q with
  | zero => intro S v1 v2 v4 v5 w hv; exact absurd hv (by simp [fX12_senses_18])
  | succ q ih =>
    intro S v1 v2 v4 v5 w hv
    unfold fX12_senses_18 at hv
    refine jr_iload C dX12_senses_18 4 rfl ?_
    refine jr_iconst (v := 4) C dX12_senses_20 (by decide) ?_
    refine jr_icmp_ge (tgt := 52) C dX12_senses_21 rfl (fun q21 => ?_) (fun q21 => ?_)
    · have hv := (if_pos q21).symm.trans hv
      refine jr_aload_n C dX12_senses_52 rfl 0 rfl ?_
      refine jm_getA C K 20 (by decide) (by decide) kw_1455 rfl dX12_senses_53 ?_
      refine jr_iload_n C dX12_senses_56 rfl 1 rfl ?_
      refine jr_iconst (v := 4) C dX12_senses_57 (by decide) ?_
      by_cases z58 : inb v1 (mlA 20) = true
      case neg => exact op_none ((if_neg z58).symm.trans hv)
      have hv := (if_pos z58).symm.trans hv
      refine jm_iast C K G z58 dX12_senses_58 ?_
      exact jr_sub [0, 1, 2, 3] rfl (tX12_senses_59 C K G  (pA S 20 (ix v1) 4) v1 v2 v4 hv)
    · have hv := (if_neg q21).symm.trans hv
      refine jr_aload_n C dX12_senses_24 rfl 0 rfl ?_
      refine jm_getA C K 19 (by decide) (by decide) kw_1454 rfl dX12_senses_25 ?_
      refine jr_iload C dX12_senses_28 3 rfl ?_
      refine jr_iload C dX12_senses_30 4 rfl ?_
      refine jr_iadd C dX12_senses_32 ?_
      refine jr_aload_n C dX12_senses_33 rfl 0 rfl ?_
      refine jm_getA C K 19 (by decide) (by decide) kw_1454 rfl dX12_senses_34 ?_
      refine jr_iload C dX12_senses_37 3 rfl ?_
      refine jr_iload C dX12_senses_39 4 rfl ?_
      refine jr_iadd C dX12_senses_41 ?_
      refine jr_iconst (v := 1) C dX12_senses_42 (by decide) ?_
      refine jr_iadd C dX12_senses_43 ?_
      by_cases z44 : inb ((v4 + v5) + 1) (mlB 19) = true
      case neg => exact op_none ((if_neg z44).symm.trans hv)
      have hv := (if_pos z44).symm.trans hv
      refine jm_lald C K z44 dX12_senses_44 ?_
      by_cases z45 : inb (v4 + v5) (mlB 19) = true
      case neg => exact op_none ((if_neg z45).symm.trans hv)
      have hv := (if_pos z45).symm.trans hv
      refine jm_last C K G z45 dX12_senses_45 ?_
      exact tX12_senses_46 C K G (fX12_senses_18  q) ih (pB S 19 (ix (v4 + v5)) (gB S 19 (ix ((v4 + v5) + 1)))) v1 v2 v4 v5 hv
set_option maxRecDepth 100000 in
theorem tX12_senses_5 {p : Program} {l : Launch} {e : Env} {s : State} {m : MethodId} {args : Array Value} {below : List Frame} {meth : Method} {c : Code} {g : MG} (C : CC p s m args meth c yX12_senses cX12_senses 15 none) (K : mK g s) (G : mSep g)  (S : MS) (v1 : Int32) (v2 : Int64) (v4 : Int32) {w : MS} (hv : fX12_senses_5 S v1 v2 v4 = some w) : MJ p l e s m args below meth c 15 5 g none w 5 [(0, .ref (mo g)), (1, .int v1), (2, .long v2), (4, .int v4)] [] S := by
  unfold fX12_senses_5 at hv
  refine jr_aload_n C dX12_senses_5 rfl 0 rfl ?_
  refine jm_getA C K 20 (by decide) (by decide) kw_1455 rfl dX12_senses_6 ?_
  refine jr_iload_n C dX12_senses_9 rfl 1 rfl ?_
  by_cases z10 : inb v1 (mlA 20) = true
  case neg => exact op_none ((if_neg z10).symm.trans hv)
  have hv := (if_pos z10).symm.trans hv
  refine jm_iald C K z10 dX12_senses_10 ?_
  refine jr_iconst (v := 5) C dX12_senses_11 (by decide) ?_
  refine jr_icmp_ne (tgt := 59) C dX12_senses_12 rfl (fun q12 => ?_) (fun q12 => ?_)
  · have hv := (if_neg q12).symm.trans hv
    exact tX12_senses_59 C K G  S v1 v2 v4 hv
  · have hv := (if_pos q12).symm.trans hv
    refine jr_iconst (v := 0) C dX12_senses_15 (by decide) ?_
    refine jr_istore (lv' := [(5, .int 0), (0, .ref (mo g)), (1, .int v1), (2, .long v2), (4, .int v4)]) C dX12_senses_16 (by decide) rfl ?_
    exact jr_sub [1, 2, 3, 4, 0] rfl (tX12_senses_18 C K G  10 S v1 v2 v4 0 _ hv)
set_option maxRecDepth 100000 in
theorem tX12_senses_0 {p : Program} {l : Launch} {e : Env} {s : State} {m : MethodId} {args : Array Value} {below : List Frame} {meth : Method} {c : Code} {g : MG} (C : CC p s m args meth c yX12_senses cX12_senses 15 none) (K : mK g s) (G : mSep g)  (S : MS) (v1 : Int32) (v2 : Int64) {w : MS} (hv : fX12_senses S v1 v2 = some w) : MJ p l e s m args below meth c 15 5 g none w 0 [(0, .ref (mo g)), (1, .int v1), (2, .long v2)] [] S := by
  unfold fX12_senses at hv
  refine jr_iconst (v := 5) C dX12_senses_0 (by decide) ?_
  refine jr_iload_n C dX12_senses_1 rfl 1 rfl ?_
  refine jr_imul C dX12_senses_2 ?_
  refine jr_istore (lv' := [(4, .int (5 * v1)), (0, .ref (mo g)), (1, .int v1), (2, .long v2)]) C dX12_senses_3 (by decide) rfl ?_
  exact jr_sub [1, 2, 3, 0] rfl (tX12_senses_5 C K G  S v1 v2 (5 * v1) hv)
theorem pX12_senses (l : Launch) {g : MG} (G : mSep g) (S : MS) (v1 : Int32) (v2 : Int64) {S' : MS} (hw : fX12_senses S v1 v2 = some S') : mC l yX12_senses cX12_senses 15 none 5 g [.ref (mo g), .int v1, .long v2] S none S' := mC_of (by decide +kernel) (Nat.le_of_ble_eq_true rfl) rfl (fun C K => tX12_senses_0 C K G S v1 v2 hw)
