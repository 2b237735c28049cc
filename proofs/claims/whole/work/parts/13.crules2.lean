section JN
variable {σ : Type} {p : Program} {l : Launch} {e : Env} {R : Room} {s : State} {m : MethodId} {args : Array Value} {below : List Frame} {meth : Method} {c : Code} {y : MethodName} {cc : ByteArray} {n : Nat} {r : Option FieldType} {Wd : σ → Heap → List Loc → Prop} {Q : State → Prop} {pc : Nat} {lv lv' : List (Nat × Value)} {rest : List Value} {w : σ} {cells slots : Nat}
theorem jr_naload_n (C : CC p s m args meth c y cc n r) {k : Fin 4} {i : Nat} {x : Option Nat} (d : decode cc pc = .ok (.aload_n k, 1)) (hi : (k : Nat) = i) (q : Nat) (hq : lv[q]? = some (i, va_rf x)) (kk : JJ p l e R s m args below meth c n Wd Q (pc + 1) lv (va_rf x :: rest) w cells slots) : JJ p l e R s m args below meth c n Wd Q pc lv rest w cells slots := by
  intro H locs ls hl hw
  cases x with
  | none => exact lv_aload_nN C.1 C.2.1 d hi (lv_at hl q hq) (kk H locs ls hl hw)
  | some a => exact lv_aload_n C.1 C.2.1 d hi (lv_at hl q hq) (kk H locs ls hl hw)
theorem jr_naload (C : CC p s m args meth c y cc n r) {i : Nat} {x : Option Nat} (d : decode cc pc = .ok (.aload i, 2)) (q : Nat) (hq : lv[q]? = some (i, va_rf x)) (kk : JJ p l e R s m args below meth c n Wd Q (pc + 2) lv (va_rf x :: rest) w cells slots) : JJ p l e R s m args below meth c n Wd Q pc lv rest w cells slots := by
  intro H locs ls hl hw
  cases x with
  | none => exact lv_aloadN C.1 C.2.1 d (lv_at hl q hq) (kk H locs ls hl hw)
  | some a => exact lv_aload C.1 C.2.1 d (lv_at hl q hq) (kk H locs ls hl hw)
theorem jr_nastore_n (C : CC p s m args meth c y cc n r) {k : Fin 4} {i : Nat} {x : Option Nat} (d : decode cc pc = .ok (.astore_n k, 1)) (hi : (k : Nat) = i) (hn : i < n) (hv : (i, va_rf x) :: lv.filter (fun q => !(q.1 == i) && !(q.1 + 1 == i && q.2.category == 2)) = lv') (kk : JJ p l e R s m args below meth c n Wd Q (pc + 1) lv' rest w cells slots) : JJ p l e R s m args below meth c n Wd Q pc lv (va_rf x :: rest) w cells slots := by
  intro H locs ls hl hw
  cases x with
  | none => exact lv_astore_nN C.1 C.2.1 d hi hl hn hv (fun ls hl => kk H locs ls hl hw)
  | some a => exact lv_astore_n C.1 C.2.1 d hi hl hn hv (fun ls hl => kk H locs ls hl hw)
theorem jr_nastore (C : CC p s m args meth c y cc n r) {i : Nat} {x : Option Nat} (d : decode cc pc = .ok (.astore i, 2)) (hn : i < n) (hv : (i, va_rf x) :: lv.filter (fun q => !(q.1 == i) && !(q.1 + 1 == i && q.2.category == 2)) = lv') (kk : JJ p l e R s m args below meth c n Wd Q (pc + 2) lv' rest w cells slots) : JJ p l e R s m args below meth c n Wd Q pc lv (va_rf x :: rest) w cells slots := by
  intro H locs ls hl hw
  cases x with
  | none => exact lv_astoreN C.1 C.2.1 d hl hn hv (fun ls hl => kk H locs ls hl hw)
  | some a => exact lv_astore C.1 C.2.1 d hl hn hv (fun ls hl => kk H locs ls hl hw)
theorem jr_null (C : CC p s m args meth c y cc n r) (d : decode cc pc = .ok (.aconst_null, 1)) (kk : JJ p l e R s m args below meth c n Wd Q (pc + 1) lv (va_rf none :: rest) w cells slots) : JJ p l e R s m args below meth c n Wd Q pc lv rest w cells slots := fun H locs ls hl hw => lv_null C.1 C.2.1 d (kk H locs ls hl hw)
theorem jr_ifnull (C : CC p s m args meth c y cc n r) {x : Option Nat} {off : Int} {tgt : Nat} (d : decode cc pc = .ok (.ifnull off, 3)) (ht : (pc : Int) + off = (tgt : Int)) (kt : x = none → JJ p l e R s m args below meth c n Wd Q tgt lv rest w cells slots) (kf : ∀ a, x = some a → JJ p l e R s m args below meth c n Wd Q (pc + 3) lv rest w cells slots) : JJ p l e R s m args below meth c n Wd Q pc lv (va_rf x :: rest) w cells slots := by
  intro H locs ls hl hw
  cases x with
  | none => exact lv_ifnullN C.1 C.2.1 d ht (kt rfl H locs ls hl hw)
  | some a => exact lv_ifnull C.1 C.2.1 d (kf a rfl H locs ls hl hw)
theorem jr_ifnonnull (C : CC p s m args meth c y cc n r) {x : Option Nat} {off : Int} {tgt : Nat} (d : decode cc pc = .ok (.ifnonnull off, 3)) (ht : (pc : Int) + off = (tgt : Int)) (kt : ∀ a, x = some a → JJ p l e R s m args below meth c n Wd Q tgt lv rest w cells slots) (kf : x = none → JJ p l e R s m args below meth c n Wd Q (pc + 3) lv rest w cells slots) : JJ p l e R s m args below meth c n Wd Q pc lv (va_rf x :: rest) w cells slots := by
  intro H locs ls hl hw
  cases x with
  | none => exact lv_ifnonnullN C.1 C.2.1 d (kf rfl H locs ls hl hw)
  | some a => exact lv_ifnonnull C.1 C.2.1 d ht (kt a rfl H locs ls hl hw)
theorem jr_acmp_eq (C : CC p s m args meth c y cc n r) {rx ry : Option Nat} {off : Int} {tgt : Nat} (d : decode cc pc = .ok (.if_acmp .eq off, 3)) (ht : (pc : Int) + off = (tgt : Int)) (kt : rx = ry → JJ p l e R s m args below meth c n Wd Q tgt lv rest w cells slots) (kf : ¬ rx = ry → JJ p l e R s m args below meth c n Wd Q (pc + 3) lv rest w cells slots) : JJ p l e R s m args below meth c n Wd Q pc lv (va_rf ry :: va_rf rx :: rest) w cells slots := fun H locs ls hl hw => lv_acmp_eq C.1 C.2.1 d ht (fun h => kt h H locs ls hl hw) (fun h => kf h H locs ls hl hw)
theorem jr_acmp_ne (C : CC p s m args meth c y cc n r) {rx ry : Option Nat} {off : Int} {tgt : Nat} (d : decode cc pc = .ok (.if_acmp .ne off, 3)) (ht : (pc : Int) + off = (tgt : Int)) (kt : ¬ rx = ry → JJ p l e R s m args below meth c n Wd Q tgt lv rest w cells slots) (kf : rx = ry → JJ p l e R s m args below meth c n Wd Q (pc + 3) lv rest w cells slots) : JJ p l e R s m args below meth c n Wd Q pc lv (va_rf ry :: va_rf rx :: rest) w cells slots := fun H locs ls hl hw => lv_acmp_ne C.1 C.2.1 d ht (fun h => kt h H locs ls hl hw) (fun h => kf h H locs ls hl hw)
theorem jr_dup_x1 (C : CC p s m args meth c y cc n r) {va vb : Value} (d : decode cc pc = .ok (.dup_x1, 1)) (h1 : va.category = 1) (h2 : vb.category = 1) (kk : JJ p l e R s m args below meth c n Wd Q (pc + 1) lv (va :: vb :: va :: rest) w cells slots) : JJ p l e R s m args below meth c n Wd Q pc lv (va :: vb :: rest) w cells slots := fun H locs ls hl hw => lv_dup_x1 C.1 C.2.1 d h1 h2 (kk H locs ls hl hw)
theorem cat_rf (x : Option Nat) : (va_rf x).category = 1 := by cases x <;> rfl
end JN
def onul {α β : Type} (x : Option α) (A : β) (B : α → β) : β := match x with
  | none => A
  | some a => B a
theorem onul_n {α β : Type} {x : Option α} {A : β} {B : α → β} (h : x = none) : onul x A B = A := by rw [h]; rfl
theorem onul_s {α β : Type} {x : Option α} {A : β} {B : α → β} {a : α} (h : x = some a) : onul x A B = B a := by rw [h]; rfl
section JC2
variable {p : Program} {l : Launch} {e : Env} {R : Room} {s : State} {m : MethodId} {args : Array Value} {below : List Frame} {meth : Method} {c : Code} {y : MethodName} {cc : ByteArray} {n : Nat} {r : Option FieldType} {Q : State → Prop} {pc : Nat} {lv lv' : List (Nat × Value)} {rest : List Value} {S S0 : CS} {cells slots : Nat} {g : CG}
def tEc (g : CG) (x : vp_A) : ClassId := match x.2 with
  | .inl _ => g.2.1
  | .inr (.inl _) => g.2.2.1
  | _ => g.2.2.2.1
theorem tE_inl (g : CG) (x : vp_A) : tE g (.inl x) = .inl (tEc g x, x) := by
  obtain ⟨n, f | f | f | f | f⟩ := x <;> rfl
def thK : List Nat := [0, 1, 2, 3, 4, 5, 6]
def stK (S : CS) (x : Option Nat) : Bool := match x with
  | none => true
  | some a => isK S a thK
def clsN (ci : Nat) : String := ([RX0, RX3, RX4, RX5, RX6, RX8, RX10, RX11, RX7] : List String).getD ci ""
theorem thK_cast : ∀ ci ∈ thK, ∃ q : vw_C, vwT[ci]? = some q ∧ Cond.castable q.1 RX9 ∈ lw_tbl := by
  intro ci h
  simp only [thK, List.mem_cons, List.not_mem_nil, or_false] at h
  rcases h with rfl | rfl | rfl | rfl | rfl | rfl | rfl
  · exact ⟨_, rfl, kw_1637⟩
  · exact ⟨_, rfl, kw_1635⟩
  · exact ⟨_, rfl, kw_1636⟩
  · exact ⟨_, rfl, kw_1640⟩
  · exact ⟨_, rfl, kw_1638⟩
  · exact ⟨_, rfl, kw_1634⟩
  · exact ⟨_, rfl, kw_1639⟩
theorem jc_slst (C : CC p s m args meth c y cc n r) (K : cK g s) (G : cSep g) {i : Int32} {x : Option Nat} (h : inb i 16 = true) (hx : stK S x = true) (d : decode cc pc = .ok (.aastore, 1)) (kk : JJ p l e R s m args below meth c n (cW g s S0) Q (pc + 1) lv rest (cpS S (ix i) x) cells slots) : JJ p l e R s m args below meth c n (cW g s S0) Q pc lv (va_rf x :: .int i :: .ref (cad g 18) :: rest) S cells slots := by
  intro H locs ls hl hw
  cases x with
  | none => exact hb_qstN C.1 C.2.1 K.1 2 hw.1.2.2.2.2.1 rfl (inb_in h) d (fun H1 sl q1 q2 q3 => kk H1 _ ls hl (cW_put hw (cAt_putS G hw.2.1 hw.1 q1 q3) rfl rfl q2 q3 (Or.inr (Or.inl ⟨18, by decide, rfl⟩))))
  | some a =>
    obtain ⟨h1, ci, fs, h2, h3⟩ := isK_of hx
    obtain ⟨q, hq, hc⟩ := thK_cast ci h3
    have hat := hw.1.2.2.2.2.2 a h1
    rw [h2] at hat
    exact hb_qst C.1 C.2.1 K.1 2 ci hw.1.2.2.2.2.1 rfl (K.2.1 _ (nw_in hc) rfl) hat hq (inb_in h) d (fun H1 sl q1 q2 q3 => kk H1 _ ls hl (cW_put hw (cAt_putS G hw.2.1 hw.1 q1 q3) rfl rfl q2 q3 (Or.inr (Or.inl ⟨18, by decide, rfl⟩))))
def arJ (S : CS) (x : Option Nat) : Option (Nat × Nat × (Nat → Int64)) := match x with
  | none => none
  | some a => if a ∈ cLs S then (match cH S a with | .inl (n, .inr (.inl f)) => some (a, n, f) | _ => none) else none
theorem arJ_of {x : Option Nat} {q : Nat × Nat × (Nat → Int64)} (h : arJ S x = some q) : x = some q.1 ∧ q.1 ∈ cLs S ∧ cH S q.1 = .inl (q.2.1, .inr (.inl q.2.2)) := by
  cases x with
  | none => cases h
  | some a =>
    unfold arJ at h
    by_cases ha : a ∈ cLs S
    · simp only [ha, if_true] at h
      split at h
      · rename_i n f hh
        cases h
        exact ⟨rfl, ha, hh⟩
      · cases h
    · simp only [ha, if_false] at h; cases h
def talJ (S : CS) (x : Option Nat) (i : Int32) : Option Int64 := (arJ S x).bind fun q => if inb i q.2.1 = true then some (q.2.2 (ix i)) else none
def tasJ (S : CS) (x : Option Nat) (i : Int32) (v : Int64) : Option CS := (arJ S x).bind fun q => if inb i q.2.1 = true then some (cpH S q.1 (.inl (q.2.1, .inr (.inl (va_up q.2.2 (ix i) v))))) else none
theorem jc_talJ (C : CC p s m args meth c y cc n r) (K : cK g s) {x : Option Nat} {i : Int32} {v : Int64} (h : talJ S x i = some v) (d : decode cc pc = .ok (.laload, 1)) (kk : JJ p l e R s m args below meth c n (cW g s S0) Q (pc + 1) lv (.long v :: rest) S cells slots) : JJ p l e R s m args below meth c n (cW g s S0) Q pc lv (.int i :: va_rf x :: rest) S cells slots := by
  intro H locs ls hl hw
  obtain ⟨q, h1, h2⟩ := Option.bind_eq_some_iff.mp h
  obtain ⟨rfl, h3, h4⟩ := arJ_of h1
  by_cases hi : inb i q.2.1 = true
  · rw [if_pos hi] at h2
    cases h2
    have hat := hw.1.2.2.2.2.2 q.1 h3
    rw [h4] at hat
    exact hb_lald C.1 C.2.1 K.1 1 hat rfl (inb_in hi) d (kk H locs ls hl hw)
  · rw [if_neg hi] at h2; cases h2
theorem jc_tasJ (C : CC p s m args meth c y cc n r) (K : cK g s) {x : Option Nat} {i : Int32} {v : Int64} {S1 : CS} (h : tasJ S x i v = some S1) (d : decode cc pc = .ok (.lastore, 1)) (kk : JJ p l e R s m args below meth c n (cW g s S0) Q (pc + 1) lv rest S1 cells slots) : JJ p l e R s m args below meth c n (cW g s S0) Q pc lv (.long v :: .int i :: va_rf x :: rest) S cells slots := by
  intro H locs ls hl hw
  obtain ⟨q, h1, h2⟩ := Option.bind_eq_some_iff.mp h
  obtain ⟨rfl, h3, h4⟩ := arJ_of h1
  by_cases hi : inb i q.2.1 = true
  · rw [if_pos hi] at h2
    cases h2
    have hat := hw.1.2.2.2.2.2 q.1 h3
    rw [h4] at hat
    exact hb_last C.1 C.2.1 K.1 1 hat rfl (inb_in hi) d (fun H1 sl q1 q2 q3 => kk H1 _ ls hl (cW_put hw (cAt_putH hw.2.1 hw.1 h3 q1 q3) rfl rfl q2 q3 (hw.2.2.2.2.1 _ h3)))
  · rw [if_neg hi] at h2; cases h2
def arI (S : CS) (x : Option Nat) : Option (Nat × Nat × (Nat → Int32)) := match x with
  | none => none
  | some a => if a ∈ cLs S then (match cH S a with | .inl (n, .inl f) => some (a, n, f) | _ => none) else none
theorem arI_of {x : Option Nat} {q : Nat × Nat × (Nat → Int32)} (h : arI S x = some q) : x = some q.1 ∧ q.1 ∈ cLs S ∧ cH S q.1 = .inl (q.2.1, .inl q.2.2) := by
  cases x with
  | none => cases h
  | some a =>
    unfold arI at h
    by_cases ha : a ∈ cLs S
    · simp only [ha, if_true] at h
      split at h
      · rename_i n f hh
        cases h
        exact ⟨rfl, ha, hh⟩
      · cases h
    · simp only [ha, if_false] at h; cases h
def talI (S : CS) (x : Option Nat) (i : Int32) : Option Int32 := (arI S x).bind fun q => if inb i q.2.1 = true then some (q.2.2 (ix i)) else none
def tasI (S : CS) (x : Option Nat) (i : Int32) (v : Int32) : Option CS := (arI S x).bind fun q => if inb i q.2.1 = true then some (cpH S q.1 (.inl (q.2.1, .inl (va_up q.2.2 (ix i) v)))) else none
theorem jc_talI (C : CC p s m args meth c y cc n r) (K : cK g s) {x : Option Nat} {i : Int32} {v : Int32} (h : talI S x i = some v) (d : decode cc pc = .ok (.iaload, 1)) (kk : JJ p l e R s m args below meth c n (cW g s S0) Q (pc + 1) lv (.int v :: rest) S cells slots) : JJ p l e R s m args below meth c n (cW g s S0) Q pc lv (.int i :: va_rf x :: rest) S cells slots := by
  intro H locs ls hl hw
  obtain ⟨q, h1, h2⟩ := Option.bind_eq_some_iff.mp h
  obtain ⟨rfl, h3, h4⟩ := arI_of h1
  by_cases hi : inb i q.2.1 = true
  · rw [if_pos hi] at h2
    cases h2
    have hat := hw.1.2.2.2.2.2 q.1 h3
    rw [h4] at hat
    exact hb_iald C.1 C.2.1 K.1 0 hat rfl (inb_in hi) d (kk H locs ls hl hw)
  · rw [if_neg hi] at h2; cases h2
theorem jc_tasI (C : CC p s m args meth c y cc n r) (K : cK g s) {x : Option Nat} {i : Int32} {v : Int32} {S1 : CS} (h : tasI S x i v = some S1) (d : decode cc pc = .ok (.iastore, 1)) (kk : JJ p l e R s m args below meth c n (cW g s S0) Q (pc + 1) lv rest S1 cells slots) : JJ p l e R s m args below meth c n (cW g s S0) Q pc lv (.int v :: .int i :: va_rf x :: rest) S cells slots := by
  intro H locs ls hl hw
  obtain ⟨q, h1, h2⟩ := Option.bind_eq_some_iff.mp h
  obtain ⟨rfl, h3, h4⟩ := arI_of h1
  by_cases hi : inb i q.2.1 = true
  · rw [if_pos hi] at h2
    cases h2
    have hat := hw.1.2.2.2.2.2 q.1 h3
    rw [h4] at hat
    exact hb_iast C.1 C.2.1 K.1 0 hat rfl (inb_in hi) d (fun H1 sl q1 q2 q3 => kk H1 _ ls hl (cW_put hw (cAt_putH hw.2.1 hw.1 h3 q1 q3) rfl rfl q2 q3 (hw.2.2.2.2.1 _ h3)))
  · rw [if_neg hi] at h2; cases h2
def arQ (S : CS) (x : Option Nat) : Option (Nat × Nat × (Nat → Option Nat)) := match x with
  | none => none
  | some a => if a ∈ cLs S then (match cH S a with | .inl (n, .inr (.inr (.inr (.inr f)))) => some (a, n, f) | _ => none) else none
theorem arQ_of {x : Option Nat} {q : Nat × Nat × (Nat → Option Nat)} (h : arQ S x = some q) : x = some q.1 ∧ q.1 ∈ cLs S ∧ cH S q.1 = .inl (q.2.1, .inr (.inr (.inr (.inr q.2.2)))) := by
  cases x with
  | none => cases h
  | some a =>
    unfold arQ at h
    by_cases ha : a ∈ cLs S
    · simp only [ha, if_true] at h
      split at h
      · rename_i n f hh
        cases h
        exact ⟨rfl, ha, hh⟩
      · cases h
    · simp only [ha, if_false] at h; cases h
def talQ (S : CS) (x : Option Nat) (i : Int32) : Option (Option Nat) := (arQ S x).bind fun q => if inb i q.2.1 = true then some (q.2.2 (ix i)) else none
def tasQ (S : CS) (x : Option Nat) (i : Int32) (v : Option Nat) : Option CS := (arQ S x).bind fun q => if inb i q.2.1 = true ∧ stK S v = true then some (cpH S q.1 (.inl (q.2.1, .inr (.inr (.inr (.inr (va_up q.2.2 (ix i) v))))))) else none
theorem jc_talQ (C : CC p s m args meth c y cc n r) (K : cK g s) {x : Option Nat} {i : Int32} {v : Option Nat} (h : talQ S x i = some v) (d : decode cc pc = .ok (.aaload, 1)) (kk : JJ p l e R s m args below meth c n (cW g s S0) Q (pc + 1) lv (va_rf v :: rest) S cells slots) : JJ p l e R s m args below meth c n (cW g s S0) Q pc lv (.int i :: va_rf x :: rest) S cells slots := by
  intro H locs ls hl hw
  obtain ⟨q, h1, h2⟩ := Option.bind_eq_some_iff.mp h
  obtain ⟨rfl, h3, h4⟩ := arQ_of h1
  by_cases hi : inb i q.2.1 = true
  · rw [if_pos hi] at h2
    cases h2
    have hat := hw.1.2.2.2.2.2 q.1 h3
    rw [h4] at hat
    exact hb_qld C.1 C.2.1 K.1 2 hat rfl (inb_in hi) d (kk H locs ls hl hw)
  · rw [if_neg hi] at h2; cases h2
theorem jc_tasQ (C : CC p s m args meth c y cc n r) (K : cK g s) {x : Option Nat} {i : Int32} {v : Option Nat} {S1 : CS} (h : tasQ S x i v = some S1) (d : decode cc pc = .ok (.aastore, 1)) (kk : JJ p l e R s m args below meth c n (cW g s S0) Q (pc + 1) lv rest S1 cells slots) : JJ p l e R s m args below meth c n (cW g s S0) Q pc lv (va_rf v :: .int i :: va_rf x :: rest) S cells slots := by
  intro H locs ls hl hw
  obtain ⟨q, h1, h2⟩ := Option.bind_eq_some_iff.mp h
  obtain ⟨rfl, h3, h4⟩ := arQ_of h1
  by_cases hi : inb i q.2.1 = true ∧ stK S v = true
  · rw [if_pos hi] at h2
    cases h2
    have hat := hw.1.2.2.2.2.2 q.1 h3
    rw [h4] at hat
    cases v with
    | none => exact hb_qstN C.1 C.2.1 K.1 2 hat rfl (inb_in hi.1) d (fun H1 sl q1 q2 q3 => kk H1 _ ls hl (cW_put hw (cAt_putH hw.2.1 hw.1 h3 q1 q3) rfl rfl q2 q3 (hw.2.2.2.2.1 _ h3)))
    | some a =>
      obtain ⟨k1, ci, fs, k2, k3⟩ := isK_of hi.2
      obtain ⟨z, hz, hc⟩ := thK_cast ci k3
      have hat2 := hw.1.2.2.2.2.2 a k1
      rw [k2] at hat2
      exact hb_qst C.1 C.2.1 K.1 2 ci hat rfl (K.2.1 _ (nw_in hc) rfl) hat2 hz (inb_in hi.1) d (fun H1 sl q1 q2 q3 => kk H1 _ ls hl (cW_put hw (cAt_putH hw.2.1 hw.1 h3 q1 q3) rfl rfl q2 q3 (hw.2.2.2.2.1 _ h3)))
  · rw [if_neg hi] at h2; cases h2
def tlen (S : CS) (x : Option Nat) : Option Int32 := match x with
  | none => none
  | some a => if a ∈ cLs S then (match cH S a with | .inl q => some (Int32.ofNat q.1) | _ => none) else none
theorem jc_tlen (C : CC p s m args meth c y cc n r) (K : cK g s) {x : Option Nat} {v : Int32} (h : tlen S x = some v) (d : decode cc pc = .ok (.arraylength, 1)) (kk : JJ p l e R s m args below meth c n (cW g s S0) Q (pc + 1) lv (.int v :: rest) S cells slots) : JJ p l e R s m args below meth c n (cW g s S0) Q pc lv (va_rf x :: rest) S cells slots := by
  intro H locs ls hl hw
  cases x with
  | none => cases h
  | some a =>
    unfold tlen at h
    by_cases ha : a ∈ cLs S
    · simp only [ha, if_true] at h
      split at h
      · rename_i q hh
        cases h
        have hat := hw.1.2.2.2.2.2 a ha
        rw [hh, tE_inl] at hat
        obtain ⟨nq, f | f | f | f | f⟩ := q
        · exact va_alen C.1 C.2.1 K.1 (hb_P hat) 0 0 rfl rfl rfl d (kk H locs ls hl hw)
        · exact va_alen C.1 C.2.1 K.1 (hb_P hat) 0 1 rfl rfl rfl d (kk H locs ls hl hw)
        · exact va_alen C.1 C.2.1 K.1 (hb_P hat) 0 2 rfl rfl rfl d (kk H locs ls hl hw)
        · exact va_alen C.1 C.2.1 K.1 (hb_P hat) 0 2 rfl rfl rfl d (kk H locs ls hl hw)
        · exact va_alen C.1 C.2.1 K.1 (hb_P hat) 0 2 rfl rfl rfl d (kk H locs ls hl hw)
      · cases h
    · simp only [ha, if_false] at h; cases h
def isKx (S : CS) (x : Option Nat) (cs : List Nat) : Bool := match x with
  | none => false
  | some a => isK S a cs
theorem isKx_of {x : Option Nat} {cs : List Nat} (h : isKx S x cs = true) : ∃ a, x = some a ∧ isK S a cs = true := by
  cases x with
  | none => cases h
  | some a => exact ⟨a, rfl, h⟩
def cInst (S : CS) (x : Option Nat) (ys ns : List Nat) : Option Int32 := match x with
  | none => some 0
  | some a => if isK S a ys = true then some 1 else if isK S a ns = true then some 0 else none
def cCast (S : CS) (x : Option Nat) (ys : List Nat) : Bool := match x with
  | none => true
  | some a => isK S a ys
theorem c_recv {a : Nat} {cs : List Nat} {H : Heap} {locs : List Loc} (K : cK g s) (h : isK S a cs = true) (hw : cW g s S0 S H locs) : ∃ ci ∈ cs, ∀ q : vw_C, vwT[ci]? = some q → ∃ cell : Cell, H[a]? = some cell ∧ cell.vm.isStatics = false ∧ s.vm.findClass q.1 = some cell.cls := by
  obtain ⟨h1, ci, fs, h2, h3⟩ := isK_of h
  have hat := hw.1.2.2.2.2.2 a h1
  rw [h2] at hat
  exact ⟨ci, h3, fun q hq => va_recv K.1 (hb_P hat) hq (q0 := 0) rfl⟩
def yOK (nm : String) (ys : List Nat) : Prop := ∀ ci ∈ ys, ∃ q : vw_C, vwT[ci]? = some q ∧ (q.1 = nm ∨ Cond.castable q.1 nm ∈ lw_tbl)
def nOK (nm : String) (ns : List Nat) : Prop := ∀ ci ∈ ns, ∃ q : vw_C, vwT[ci]? = some q ∧ (q.1, nm) ∈ ncL
theorem jc_inst (C : CC p s m args meth c y cc n r) (K : cK g s) {i : Nat} {x : Option Nat} {ys ns : List Nat} {b : Int32} {nm : String} (h : cInst S x ys ns = some b) (hy : yOK nm ys) (hn : nOK nm ns) (hl0 : Cond.classLink y.cls i nm ∈ lw_tbl) (d : decode cc pc = .ok (.instanceof i, 3)) (kk : JJ p l e R s m args below meth c n (cW g s S0) Q (pc + 3) lv (.int b :: rest) S cells slots) : JJ p l e R s m args below meth c n (cW g s S0) Q pc lv (va_rf x :: rest) S cells slots := by
  intro H locs ls hl hw
  have lk := C.2.2.2.2.2.2.2 _ hl0 rfl
  cases x with
  | none => cases h; exact lv_instN C.1 C.2.1 d (kk H locs ls hl hw)
  | some a =>
    unfold cInst at h
    by_cases h1 : isK S a ys = true
    · simp only [h1, if_true] at h
      cases h
      obtain ⟨ci, hc, hr⟩ := c_recv K h1 hw
      obtain ⟨q, hq, hh | hh⟩ := hy ci hc
      · obtain ⟨C0, T, N⟩ := q
        cases hh
        exact va_instS C.1 C.2.1 C.2.2.2.2.2.1 lk (K.1.1 ci _ hq).2 (hr _ hq) d (kk H locs ls hl hw)
      · exact va_instY C.1 C.2.1 C.2.2.2.2.2.1 lk (K.2.1 _ (nw_in hh) rfl) (hr _ hq) d (kk H locs ls hl hw)
    · by_cases h2 : isK S a ns = true
      · simp only [h1, h2, if_true] at h
        cases h
        obtain ⟨ci, hc, hr⟩ := c_recv K h2 hw
        obtain ⟨q, hq, hh⟩ := hn ci hc
        exact va_instNo C.1 C.2.1 C.2.2.2.2.2.1 lk (K.2.2.1 _ hh) (hr _ hq) d (kk H locs ls hl hw)
      · simp only [h1, h2] at h; cases h
theorem jc_cast (C : CC p s m args meth c y cc n r) (K : cK g s) {i : Nat} {x : Option Nat} {ys : List Nat} {nm : String} (h : cCast S x ys = true) (hy : yOK nm ys) (hl0 : Cond.classLink y.cls i nm ∈ lw_tbl) (d : decode cc pc = .ok (.checkcast i, 3)) (kk : JJ p l e R s m args below meth c n (cW g s S0) Q (pc + 3) lv (va_rf x :: rest) S cells slots) : JJ p l e R s m args below meth c n (cW g s S0) Q pc lv (va_rf x :: rest) S cells slots := by
  intro H locs ls hl hw
  have lk := C.2.2.2.2.2.2.2 _ hl0 rfl
  cases x with
  | none => exact lv_castN C.1 C.2.1 d (kk H locs ls hl hw)
  | some a =>
    obtain ⟨ci, hc, hr⟩ := c_recv K h hw
    obtain ⟨q, hq, hh | hh⟩ := hy ci hc
    · obtain ⟨C0, T, N⟩ := q
      cases hh
      exact va_castS C.1 C.2.1 C.2.2.2.2.2.1 lk (K.1.1 ci _ hq).2 (hr _ hq) d (kk H locs ls hl hw)
    · exact va_castY C.1 C.2.1 C.2.2.2.2.2.1 lk (K.2.1 _ (nw_in hh) rfl) (hr _ hq) d (kk H locs ls hl hw)
theorem jc_new (C : CC p s m args meth c y cc n r) (K : cK g s) (ci : Nat) {i N : Nat} {C0 : String} {T : u_T} {fs : List Value} (hq : vwT[ci]? = some (C0, T, N)) (hin : ∀ w ∈ u_ws C0 T N, w ∈ gw_G) (ty : Nat → FieldType) (hty : ∀ k, k < N → parseFieldDescriptor (T k).2.2.1 = some (ty k)) (hl0 : Cond.classLink y.cls i C0 ∈ lw_tbl) (hi0 : Cond.instantiable C0 N ∈ lw_tbl) (hn0 : Cond.initialized C0 ∈ lw_tbl) (hfs : ∀ j, j < N → defaultValue (ty j) = vp_V fs j) (hc : cells + 1 ≤ R.cells) (hs : slots + N ≤ R.slots) (d : decode cc pc = .ok (.new i, 3)) (kk : JJ p l e R s m args below meth c n (cW g s S0) Q (pc + 3) lv (va_rf (some (cSz S)) :: rest) (cnew S (.inr (ci, fs))) (cells + 1) (slots + N)) : JJ p l e R s m args below meth c n (cW g s S0) Q pc lv rest S cells slots := by
  intro H locs ls hl hw
  exact hb_new C.1 C.2.1 (gw_hts C) hin ty hty C.2.2.2.2.2.1 (C.2.2.2.2.2.2.2 _ hl0 rfl) (C.2.2.2.2.2.2.2 _ hi0 rfl) (C.2.2.2.2.2.2.2 _ hn0 rfl) K.1 hq hfs hc hs d hw.2.2.1 (fun H1 h1 z o => kk H1 locs ls hl (cW_new hw h1 z o))
def okn (i : Int32) : Bool := decide (0 ≤ i.toInt ∧ i.toInt ≤ 1000000)
theorem okn_of {i : Int32} (h : okn i = true) : ¬ i < 0 ∧ ix i ≤ 1000000 := by
  have h1 := of_decide_eq_true h
  refine ⟨fun q => ?_, ?_⟩
  · have := Int32.lt_iff_toInt_lt.mp q
    have e : (0 : Int32).toInt = 0 := rfl
    omega
  · show i.toInt.toNat ≤ 1000000
    omega
theorem jc_newJ (C : CC p s m args meth c y cc n r) (K : cK g s) {i : Int32} (h : okn i = true) (hc : cells + 1 ≤ R.cells) (hs : slots + ix i ≤ R.slots) (d : decode cc pc = .ok (.newarray .long, 2)) (kk : JJ p l e R s m args below meth c n (cW g s S0) Q (pc + 2) lv (va_rf (some (cSz S)) :: rest) (cnew S (.inl (ix i, .inr (.inl (fun _ => 0))))) (cells + 1) (slots + ix i)) : JJ p l e R s m args below meth c n (cW g s S0) Q pc lv (.int i :: rest) S cells slots := by
  intro H locs ls hl hw
  obtain ⟨h1, h2⟩ := okn_of h
  exact hb_newA (atype := .long) (a0 := (ix i, .inr (.inl (fun _ => 0)))) C.1 C.2.1 (C.2.2.2.2.2.2.2 _ kw_121 rfl) rfl (K.1.2 1 _ rfl).2 (fun _ => rfl) h1 rfl (by show ix i * 8 ≤ _; omega) hc hs d hw.2.2.1 (fun H1 h1 z o => kk H1 locs ls hl (cW_new hw h1 z o))
theorem jc_newI (C : CC p s m args meth c y cc n r) (K : cK g s) {i : Int32} (h : okn i = true) (hc : cells + 1 ≤ R.cells) (hs : slots + ix i ≤ R.slots) (d : decode cc pc = .ok (.newarray .int, 2)) (kk : JJ p l e R s m args below meth c n (cW g s S0) Q (pc + 2) lv (va_rf (some (cSz S)) :: rest) (cnew S (.inl (ix i, .inl (fun _ => 0)))) (cells + 1) (slots + ix i)) : JJ p l e R s m args below meth c n (cW g s S0) Q pc lv (.int i :: rest) S cells slots := by
  intro H locs ls hl hw
  obtain ⟨h1, h2⟩ := okn_of h
  exact hb_newA (atype := .int) (a0 := (ix i, .inl (fun _ => 0))) C.1 C.2.1 (C.2.2.2.2.2.2.2 _ kw_120 rfl) rfl (K.1.2 0 _ rfl).2 (fun _ => rfl) h1 rfl (by show ix i * 4 ≤ _; omega) hc hs d hw.2.2.1 (fun H1 h1 z o => kk H1 locs ls hl (cW_new hw h1 z o))
theorem jc_newQ (C : CC p s m args meth c y cc n r) (K : cK g s) {i : Int32} {k : Nat} (h : okn i = true) (hl0 : Cond.classLink y.cls k RX9 ∈ lw_tbl) (hc : cells + 1 ≤ R.cells) (hs : slots + ix i ≤ R.slots) (d : decode cc pc = .ok (.anewarray k, 3)) (kk : JJ p l e R s m args below meth c n (cW g s S0) Q (pc + 3) lv (va_rf (some (cSz S)) :: rest) (cnew S (.inl (ix i, .inr (.inr (.inr (.inr (fun _ => none))))))) (cells + 1) (slots + ix i)) : JJ p l e R s m args below meth c n (cW g s S0) Q pc lv (.int i :: rest) S cells slots := by
  intro H locs ls hl hw
  obtain ⟨h1, h2⟩ := okn_of h
  obtain ⟨-, -, -, -, -, hcA⟩ := (K.1.2 2 _ rfl).2
  exact hb_newQ C.1 C.2.1 C.2.2.2.2.2.1 (C.2.2.2.2.2.2.2 _ hl0 rfl) K.2.2.2 hcA h1 rfl (by show ix i * 4 ≤ _; omega) hc hs d hw.2.2.1 (fun H1 h1 z o => kk H1 locs ls hl (cW_new hw h1 z o))
/-- what a call asks of the tables, of whatever kind -/
def ok_c (y : MethodName) (cc : ByteArray) (n : Nat) (r : Option FieldType) (a : Nat) (w : Cond) : Prop := Cond.code y cc n r ∈ lw_tbl ∧ (w ∈ lw_tbl ∧ goodWord w = true) ∧ Cond.initialized y.cls ∈ lw_tbl ∧ (y.cls ≠ "java/lang/invoke/MethodHandle" ∧ y.cls ≠ "java/lang/invoke/VarHandle" ∧ (parseMethodDescriptor y.desc).map (fun d => d.parameters.length) = some a)
theorem jc_after {mc2 ms2 : Nat} {v2 : Option Value} {S2 : CS} {a : Array Value} {H : Heap} {locs : List Loc} {ls : Array Slot} {st : List Value} (hr : CallRun p l e R s m args below meth c H locs cells slots mc2 ms2 (F0 m pc ls st) rest (cC_Q g v2 S S2 a) (cA g S)) (hw : cW g s S0 S H locs) (hls : lv_has ls n lv) (kk : JJ p l e R s m args below meth c n (cW g s S0) Q (pc + 3) lv (v2.toList ++ rest) S2 (cells + mc2) (slots + ms2)) : W p l e R s m args below meth c H locs cells slots Q (F0 m pc ls st) := by
  intro T hT X
  obtain ⟨v, st₀, t, T', L, h0, X', hL, e1, ⟨hv, hK2, hA2, hL2, hz2, hF, hin⟩, st⟩ := hr T hT X
  cases hv
  have hS2 : va_S (cA g S0) s.heap t.heap (locs ++ L) := by
    have hS := hw.2.2.2.1
    refine ⟨Nat.le_trans hS.1 (by rw [← h0]; exact hF.1), fun q h1 h2 => ?_, fun q hq => ?_⟩
    · rw [← hS.2.1 q h1 h2, ← h0]
      exact hF.2 q (by rw [h0]; exact Nat.lt_of_lt_of_le h1 hS.1) (fun hh => h2 (cW_sub hw hh))
    · rcases List.mem_append.mp hq with h | h
      · exact hS.2.2 q h
      · exact cW_sub hw (hL q h)
  obtain ⟨t2, a1, b1⟩ := kk t.heap (locs ++ L) ls hls ⟨hA2, hL2, hz2, hS2, fun b hb => cW_sub hw (hin b hb), hw.2.2.2.2.2⟩ T' e1 X'
  exact ⟨t2, st t2 a1, b1⟩
theorem c_pre {As : List Value} {H : Heap} {locs : List Loc} (K : cK g s) (hw : cW g s S0 S H locs) : ∀ U : State, U.heap = H → s.WarmedH U.vm → cC_P g As S As.toArray U := fun U hU hW => ⟨rfl, cK_warm hW K, by rw [hU]; exact hw.1, hw.2.1, by rw [hU]; exact hw.2.2.1⟩
theorem jc_callS (C : CC p s m args meth c y cc n r) (K : cK g s) {y2 : MethodName} {cc2 : ByteArray} {n2 k2 i a mc2 ms2 : Nat} {r2 : Option FieldType} {As : List Value} {v2 : Option Value} {S2 : CS} {st : List Value} (hM : cC l y2 cc2 n2 r2 k2 mc2 ms2 g As S v2 S2) (ho : ok_c y2 cc2 n2 r2 a (.static y2)) (hl : Cond.methodLink y.cls i y2 ∈ lw_tbl) (ha : As.length = a) (hR : k2 + 1 ≤ R.frames ∧ 8 + (n2 + 11) + 48 * k2 ≤ R.locals) (hst : st = As.reverse ++ rest) (hW : (rest.map fun v => v.category).sum ≤ 8) (hc : cells + mc2 ≤ R.cells ∧ slots + ms2 ≤ R.slots) (d : decode cc pc = .ok (.invokestatic i, 3)) (kk : JJ p l e R s m args below meth c n (cW g s S0) Q (pc + 3) lv (v2.toList ++ rest) S2 (cells + mc2) (slots + ms2)) : JJ p l e R s m args below meth c n (cW g s S0) Q pc lv st S cells slots := by
  intro H locs ls hls hw
  subst hst
  have hi := C.2.2.2.2.2.2.2
  exact jc_after (W.runS (g := F0 m pc ls (As.reverse ++ rest)) (R := R) (H := H) (locs := locs) (cells := cells) (slots := slots) (e := e) (below := below) (meth := meth) (As := As) (rest := rest) ⟨C.1, C.2.1, rfl, C.2.2.2.2.2.1, gw_hts C⟩ hM ⟨callB_of (y := y2) (own := y.cls) (index := i) (R := R) (rm := cr_ k2 mc2 ms2) (mc := mc2) (ms := ms2) a (gw_hts C) (gw_in2 ho.1) rfl rfl rfl (hi _ ho.2.2.1 rfl) (hi _ hl rfl) ho.2.2.2 hR, hi _ ho.2.1.1 ho.2.1.2⟩ ⟨cC_blind, c_pre K hw⟩ rfl ha (by show ls.size = _; rw [C.2.2.1]; exact hls.1) rfl (lv_room hW) d hc) hw hls kk
theorem jc_callO (C : CC p s m args meth c y cc n r) (K : cK g s) {y2 : MethodName} {cc2 : ByteArray} {n2 k2 i a mc2 ms2 : Nat} {r2 : Option FieldType} {As : List Value} {v2 : Option Value} {S2 : CS} {st : List Value} (hM : cC l y2 cc2 n2 r2 k2 mc2 ms2 g (.ref (co g) :: As) S v2 S2) (ho : ok_c y2 cc2 n2 r2 a (.instanceMethod y2)) (hsel : Cond.selects RX11 y2 y2 ∈ lw_tbl) (hl : Cond.methodLink y.cls i y2 ∈ lw_tbl) (ha : As.length = a) (hR : k2 + 1 ≤ R.frames ∧ 8 + (n2 + 11) + 48 * k2 ≤ R.locals) (hst : st = As.reverse ++ .ref (co g) :: rest) (hW : (rest.map fun v => v.category).sum ≤ 8) (hc : cells + mc2 ≤ R.cells ∧ slots + ms2 ≤ R.slots) (d : decode cc pc = .ok (.invokevirtual i, 3)) (kk : JJ p l e R s m args below meth c n (cW g s S0) Q (pc + 3) lv (v2.toList ++ rest) S2 (cells + mc2) (slots + ms2)) : JJ p l e R s m args below meth c n (cW g s S0) Q pc lv st S cells slots := by
  intro H locs ls hls hw
  subst hst
  have hi := C.2.2.2.2.2.2.2
  exact jc_after (W.runV (g := F0 m pc ls (As.reverse ++ .ref (co g) :: rest)) (C := RX11) (R := R) (H := H) (locs := locs) (cells := cells) (slots := slots) (e := e) (below := below) (meth := meth) (b := co g) (As := As) (rest := rest) ⟨C.1, C.2.1, rfl, C.2.2.2.2.2.1, gw_hts C⟩ hM ⟨callB_of (y := y2) (own := y.cls) (index := i) (R := R) (rm := cr_ k2 mc2 ms2) (mc := mc2) (ms := ms2) a (gw_hts C) (gw_in2 ho.1) rfl rfl rfl (hi _ ho.2.2.1 rfl) (hi _ hl rfl) ho.2.2.2 hR, hi _ ho.2.1.1 ho.2.1.2, hi _ hsel rfl⟩ ⟨cC_blind, va_recv K.1 (hb_P hw.1.1) (ci := 7) (q0 := 0) rfl rfl, c_pre K hw⟩ rfl ha (by show ls.size = _; rw [C.2.2.1]; exact hls.1) rfl (lv_room hW) d hc) hw hls kk
theorem jc_callR (C : CC p s m args meth c y cc n r) (K : cK g s) {y2 : MethodName} {cc2 : ByteArray} {n2 k2 i a mc2 ms2 : Nat} {r2 : Option FieldType} {As : List Value} {v2 : Option Value} {S2 : CS} {st : List Value} (hM : cC l y2 cc2 n2 r2 k2 mc2 ms2 g (.ref (cad g 5) :: As) S v2 S2) (ho : ok_c y2 cc2 n2 r2 a (.instanceMethod y2)) (hsel : Cond.selects RX7 y2 y2 ∈ lw_tbl) (hl : Cond.methodLink y.cls i y2 ∈ lw_tbl) (ha : As.length = a) (hR : k2 + 1 ≤ R.frames ∧ 8 + (n2 + 11) + 48 * k2 ≤ R.locals) (hst : st = As.reverse ++ .ref (cad g 5) :: rest) (hW : (rest.map fun v => v.category).sum ≤ 8) (hc : cells + mc2 ≤ R.cells ∧ slots + ms2 ≤ R.slots) (d : decode cc pc = .ok (.invokevirtual i, 3)) (kk : JJ p l e R s m args below meth c n (cW g s S0) Q (pc + 3) lv (v2.toList ++ rest) S2 (cells + mc2) (slots + ms2)) : JJ p l e R s m args below meth c n (cW g s S0) Q pc lv st S cells slots := by
  intro H locs ls hls hw
  subst hst
  have hi := C.2.2.2.2.2.2.2
  exact jc_after (W.runV (g := F0 m pc ls (As.reverse ++ .ref (cad g 5) :: rest)) (C := RX7) (R := R) (H := H) (locs := locs) (cells := cells) (slots := slots) (e := e) (below := below) (meth := meth) (b := cad g 5) (As := As) (rest := rest) ⟨C.1, C.2.1, rfl, C.2.2.2.2.2.1, gw_hts C⟩ hM ⟨callB_of (y := y2) (own := y.cls) (index := i) (R := R) (rm := cr_ k2 mc2 ms2) (mc := mc2) (ms := ms2) a (gw_hts C) (gw_in2 ho.1) rfl rfl rfl (hi _ ho.2.2.1 rfl) (hi _ hl rfl) ho.2.2.2 hR, hi _ ho.2.1.1 ho.2.1.2, hi _ hsel rfl⟩ ⟨cC_blind, va_recv K.1 (hb_P hw.1.2.1) (ci := 8) (q0 := 0) rfl rfl, c_pre K hw⟩ rfl ha (by show ls.size = _; rw [C.2.2.1]; exact hls.1) rfl (lv_room hW) d hc) hw hls kk
theorem jc_callT (C : CC p s m args meth c y cc n r) (K : cK g s) {y2 : MethodName} {cc2 : ByteArray} {n2 k2 i a mc2 ms2 : Nat} {r2 : Option FieldType} {As : List Value} {v2 : Option Value} {S2 : CS} {st : List Value} {x : Option Nat} {ci : Nat} {q : vw_C} (hM : cC l y2 cc2 n2 r2 k2 mc2 ms2 g (va_rf x :: As) S v2 S2) (hx : isKx S x [ci] = true) (hq : vwT[ci]? = some q) (ho : ok_c y2 cc2 n2 r2 a (.instanceMethod y2)) (hsel : Cond.selects q.1 y2 y2 ∈ lw_tbl) (hl : Cond.methodLink y.cls i y2 ∈ lw_tbl) (ha : As.length = a) (hR : k2 + 1 ≤ R.frames ∧ 8 + (n2 + 11) + 48 * k2 ≤ R.locals) (hst : st = As.reverse ++ va_rf x :: rest) (hW : (rest.map fun v => v.category).sum ≤ 8) (hc : cells + mc2 ≤ R.cells ∧ slots + ms2 ≤ R.slots) (d : decode cc pc = .ok (.invokevirtual i, 3)) (kk : JJ p l e R s m args below meth c n (cW g s S0) Q (pc + 3) lv (v2.toList ++ rest) S2 (cells + mc2) (slots + ms2)) : JJ p l e R s m args below meth c n (cW g s S0) Q pc lv st S cells slots := by
  intro H locs ls hls hw
  subst hst
  obtain ⟨b, rfl, hk⟩ := isKx_of hx
  obtain ⟨cj, hj, hr⟩ := c_recv K hk hw
  have e0 : cj = ci := List.mem_singleton.mp hj
  subst e0
  have hi := C.2.2.2.2.2.2.2
  exact jc_after (W.runV (g := F0 m pc ls (As.reverse ++ .ref b :: rest)) (C := q.1) (R := R) (H := H) (locs := locs) (cells := cells) (slots := slots) (e := e) (below := below) (meth := meth) (b := b) (As := As) (rest := rest) ⟨C.1, C.2.1, rfl, C.2.2.2.2.2.1, gw_hts C⟩ hM ⟨callB_of (y := y2) (own := y.cls) (index := i) (R := R) (rm := cr_ k2 mc2 ms2) (mc := mc2) (ms := ms2) a (gw_hts C) (gw_in2 ho.1) rfl rfl rfl (hi _ ho.2.2.1 rfl) (hi _ hl rfl) ho.2.2.2 hR, hi _ ho.2.1.1 ho.2.1.2, hi _ hsel rfl⟩ ⟨cC_blind, hr q hq, c_pre K hw⟩ rfl ha (by show ls.size = _; rw [C.2.2.1]; exact hls.1) rfl (lv_room hW) d hc) hw hls kk
/-- what a call of a method that is inherited, overridden or abstract asks of the tables -/
def ok_u (x2 y2 : MethodName) (owner C : String) (cc : ByteArray) (n : Nat) (r : Option FieldType) (a : Nat) : Prop := Cond.code y2 cc n r ∈ lw_tbl ∧ Cond.instanceMethod y2 ∈ lw_tbl ∧ Cond.initialized y2.cls ∈ lw_tbl ∧ Cond.sameMethod x2.cls owner x2.name x2.desc ∈ lw_tbl ∧ Cond.selects C x2 y2 ∈ nwT ∧ (Cond.declares ⟨owner, x2.name, x2.desc⟩ ∈ lw_tbl ∨ (Cond.instanceMethod ⟨owner, x2.name, x2.desc⟩ ∈ lw_tbl ∧ ∃ (b0 : ByteArray) (m0 : Nat) (r0 : Option FieldType), Cond.code ⟨owner, x2.name, x2.desc⟩ b0 m0 r0 ∈ lw_tbl)) ∧ (owner ≠ "java/lang/invoke/MethodHandle" ∧ owner ≠ "java/lang/invoke/VarHandle" ∧ (parseMethodDescriptor x2.desc).map (fun d => d.parameters.length) = some a)
theorem jc_callU (C : CC p s m args meth c y cc n r) (K : cK g s) {y2 : MethodName} {cc2 : ByteArray} {n2 k2 i a mc2 ms2 : Nat} {r2 : Option FieldType} {As : List Value} {v2 : Option Value} {S2 : CS} {st : List Value} {x : Option Nat} {ci : Nat} {q : vw_C} {x2 : MethodName} {owner : String} (hM : cC l y2 cc2 n2 r2 k2 mc2 ms2 g (va_rf x :: As) S v2 S2) (hx : isKx S x [ci] = true) (hq : vwT[ci]? = some q) (ho : ok_u x2 y2 owner q.1 cc2 n2 r2 a) (hl : Cond.methodLink y.cls i x2 ∈ lw_tbl) (ha : As.length = a) (hR : k2 + 1 ≤ R.frames ∧ 8 + (n2 + 11) + 48 * k2 ≤ R.locals) (hst : st = As.reverse ++ va_rf x :: rest) (hW : (rest.map fun v => v.category).sum ≤ 8) (hc : cells + mc2 ≤ R.cells ∧ slots + ms2 ≤ R.slots) (d : decode cc pc = .ok (.invokevirtual i, 3)) (kk : JJ p l e R s m args below meth c n (cW g s S0) Q (pc + 3) lv (v2.toList ++ rest) S2 (cells + mc2) (slots + ms2)) : JJ p l e R s m args below meth c n (cW g s S0) Q pc lv st S cells slots := by
  intro H locs ls hls hw
  subst hst
  obtain ⟨b, rfl, hk⟩ := isKx_of hx
  obtain ⟨cj, hj, hr⟩ := c_recv K hk hw
  have e0 : cj = ci := List.mem_singleton.mp hj
  subst e0
  have hi := C.2.2.2.2.2.2.2
  have hde : va_Decl s ⟨owner, x2.name, x2.desc⟩ := by
    rcases ho.2.2.2.2.2.1 with h | ⟨h1, b0, m0, r0, h2⟩
    · exact va_Decl.abs (K.2.1 _ (nw_in h) rfl)
    · exact va_Decl.of (hi _ h1 rfl) (hi _ h2 rfl)
  have cw : va_CU R s args y.cls q.1 owner i x2 y2 cc2 n2 r2 (.code y2 cc2 n2 r2 :: gw_G) (cr_ k2 mc2 ms2) mc2 ms2 a := ⟨⟨rfl, rfl, hR.1, hR.2, pay_in (gw_hts C) (gw_in2 ho.1), List.mem_cons_self⟩, hi _ ho.1 rfl, hi _ ho.2.2.1 rfl, ⟨ho.2.2.2.2.2.2.1, ho.2.2.2.2.2.2.2.1⟩, fun sig h => by have h2 := ho.2.2.2.2.2.2.2.2; rw [h] at h2; exact (Option.some.inj h2).symm, hi _ hl rfl, hi _ ho.2.2.2.1 rfl, hde, va_Nw.use rfl (K.2.1 _ ho.2.2.2.2.1 rfl), hi _ ho.2.1 rfl⟩
  exact jc_after (va_runU (g := F0 m pc ls (As.reverse ++ .ref b :: rest)) (C := q.1) (R := R) (H := H) (locs := locs) (cells := cells) (slots := slots) (e := e) (below := below) (meth := meth) (b := b) (As := As) (rest := rest) ⟨C.1, C.2.1, rfl, C.2.2.2.2.2.1, gw_hts C⟩ hM cw ⟨cC_blind, hr q hq, c_pre K hw⟩ rfl ha (by show ls.size = _; rw [C.2.2.1]; exact hls.1) rfl (lv_room hW) d hc).run hw hls kk
theorem jc_callP (C : CC p s m args meth c y cc n r) (K : cK g s) {y2 : MethodName} {cc2 : ByteArray} {n2 k2 i a mc2 ms2 : Nat} {r2 : Option FieldType} {As : List Value} {v2 : Option Value} {S2 : CS} {st : List Value} {x : Option Nat} {ci : Nat} {q : vw_C} (hM : cC l y2 cc2 n2 r2 k2 mc2 ms2 g (va_rf x :: As) S v2 S2) (hx : isKx S x [ci] = true) (hq : vwT[ci]? = some q) (ho : ok_c y2 cc2 n2 r2 a (.instanceMethod y2)) (hsm : Cond.sameMethod y2.cls y2.cls y2.name y2.desc ∈ lw_tbl) (hsu : Cond.superclass y.cls y2.cls ∈ lw_tbl) (hno : y2.name ≠ "<init>") (hl : Cond.methodLink y.cls i y2 ∈ lw_tbl) (ha : As.length = a) (hR : k2 + 1 ≤ R.frames ∧ 8 + (n2 + 11) + 48 * k2 ≤ R.locals) (hst : st = As.reverse ++ va_rf x :: rest) (hW : (rest.map fun v => v.category).sum ≤ 8) (hc : cells + mc2 ≤ R.cells ∧ slots + ms2 ≤ R.slots) (d : decode cc pc = .ok (.invokespecial i, 3)) (kk : JJ p l e R s m args below meth c n (cW g s S0) Q (pc + 3) lv (v2.toList ++ rest) S2 (cells + mc2) (slots + ms2)) : JJ p l e R s m args below meth c n (cW g s S0) Q pc lv st S cells slots := by
  intro H locs ls hls hw
  subst hst
  obtain ⟨b, rfl, hk⟩ := isKx_of hx
  obtain ⟨cj, hj, hr⟩ := c_recv K hk hw
  have e0 : cj = ci := List.mem_singleton.mp hj
  subst e0
  have hi := C.2.2.2.2.2.2.2
  have cw : va_CS R s args y.cls i y2 cc2 n2 r2 (.code y2 cc2 n2 r2 :: gw_G) (cr_ k2 mc2 ms2) mc2 ms2 a := ⟨⟨rfl, rfl, hR.1, hR.2, pay_in (gw_hts C) (gw_in2 ho.1), List.mem_cons_self⟩, hi _ hl rfl, hi _ hsm rfl, hi _ hsu rfl, hi _ ho.2.1.1 ho.2.1.2, hi _ ho.2.2.1 rfl, hi _ ho.1 rfl, hno, fun sig h => by have h2 := ho.2.2.2.2.2; rw [h] at h2; exact (Option.some.inj h2).symm⟩
  exact jc_after (va_runSU (g := F0 m pc ls (As.reverse ++ .ref b :: rest)) (C := q.1) (K.1.1 cj _ hq).2 (R := R) (H := H) (locs := locs) (cells := cells) (slots := slots) (e := e) (below := below) (meth := meth) (b := b) (As := As) (rest := rest) ⟨C.1, C.2.1, rfl, C.2.2.2.2.2.1, gw_hts C⟩ hM cw ⟨cC_blind, hr q hq, c_pre K hw⟩ rfl ha (by show ls.size = _; rw [C.2.2.1]; exact hls.1) rfl (lv_room hW) d hc).run hw hls kk
theorem jc_callI (C : CC p s m args meth c y cc n r) (K : cK g s) {y2 : MethodName} {cc2 : ByteArray} {n2 k2 i a mc2 ms2 : Nat} {As : List Value} {v2 : Option Value} {S2 : CS} {st : List Value} {x : Option Nat} {cs : List Nat} (hM : cC l y2 cc2 n2 none k2 mc2 ms2 g (va_rf x :: As) S v2 S2) (hx : isKx S x cs = true) (ho : ok_c y2 cc2 n2 none a (.instanceMethod y2)) (hno : y2.name = "<init>") (hl : Cond.methodLink y.cls i y2 ∈ lw_tbl) (ha : As.length = a) (hR : k2 + 1 ≤ R.frames ∧ 8 + (n2 + 11) + 48 * k2 ≤ R.locals) (hst : st = As.reverse ++ va_rf x :: rest) (hW : (rest.map fun v => v.category).sum ≤ 8) (hc : cells + mc2 ≤ R.cells ∧ slots + ms2 ≤ R.slots) (d : decode cc pc = .ok (.invokespecial i, 3)) (kk : JJ p l e R s m args below meth c n (cW g s S0) Q (pc + 3) lv (v2.toList ++ rest) S2 (cells + mc2) (slots + ms2)) : JJ p l e R s m args below meth c n (cW g s S0) Q pc lv st S cells slots := by
  intro H locs ls hls hw
  subst hst
  obtain ⟨b, rfl, hk⟩ := isKx_of hx
  have hi := C.2.2.2.2.2.2.2
  exact jc_after (W.runI (g := F0 m pc ls (As.reverse ++ .ref b :: rest)) (R := R) (H := H) (locs := locs) (cells := cells) (slots := slots) (e := e) (below := below) (meth := meth) (b := b) (As := As) (rest := rest) ⟨C.1, C.2.1, rfl, C.2.2.2.2.2.1, gw_hts C⟩ hM ⟨callB_of (y := y2) (own := y.cls) (index := i) (R := R) (rm := cr_ k2 mc2 ms2) (mc := mc2) (ms := ms2) a (gw_hts C) (gw_in2 ho.1) rfl rfl rfl (hi _ ho.2.2.1 rfl) (hi _ hl rfl) ho.2.2.2 hR, hno, hi _ ho.2.1.1 ho.2.1.2⟩ ⟨cC_blind, c_pre K hw⟩ rfl ha (by show ls.size = _; rw [C.2.2.1]; exact hls.1) rfl (lv_room hW) d hc) hw hls kk
theorem jc_callN (C : CC p s m args meth c y cc n r) (K : cK g s) {y2 : MethodName} {cc2 : ByteArray} {n2 k2 i a mc2 ms2 : Nat} {As : List Value} {v2 : Option Value} {S2 : CS} {st : List Value} {x : Option Nat} {cs : List Nat} {host : String} (hM : cC l y2 cc2 n2 none k2 mc2 ms2 g (va_rf x :: As) S v2 S2) (hx : isKx S x cs = true) (ho : ok_c y2 cc2 n2 none a (.instanceMethod y2)) (hno : y2.name = "<init>") (hl : Cond.methodLinkNest y.cls i y2 host ∈ lw_tbl) (ha : As.length = a) (hR : k2 + 1 ≤ R.frames ∧ 8 + (n2 + 11) + 48 * k2 ≤ R.locals) (hst : st = As.reverse ++ va_rf x :: rest) (hW : (rest.map fun v => v.category).sum ≤ 8) (hc : cells + mc2 ≤ R.cells ∧ slots + ms2 ≤ R.slots) (d : decode cc pc = .ok (.invokespecial i, 3)) (kk : JJ p l e R s m args below meth c n (cW g s S0) Q (pc + 3) lv (v2.toList ++ rest) S2 (cells + mc2) (slots + ms2)) : JJ p l e R s m args below meth c n (cW g s S0) Q pc lv st S cells slots := by
  intro H locs ls hls hw
  subst hst
  obtain ⟨b, rfl, hk⟩ := isKx_of hx
  have hi := C.2.2.2.2.2.2.2
  have cw := va_cnB (own := y.cls) (host := host) (index := i) (R := R) (rm := cr_ k2 mc2 ms2) (mc := mc2) (ms := ms2) a (gw_hts C) (gw_in2 ho.1) rfl rfl rfl (K.2.1 _ (nw_in hl) rfl) (hi _ ho.2.2.1 rfl) ho.2.2.2 hR
  exact jc_after (va_runIN (g := F0 m pc ls (As.reverse ++ .ref b :: rest)) (R := R) (H := H) (locs := locs) (cells := cells) (slots := slots) (e := e) (below := below) (meth := meth) (b := b) (As := As) (rest := rest) ⟨C.1, C.2.1, rfl, C.2.2.2.2.2.1, gw_hts C⟩ hM ⟨cw, hno, hi _ ho.2.1.1 ho.2.1.2⟩ ⟨cC_blind, c_pre K hw⟩ rfl ha (by show ls.size = _; rw [C.2.2.1]; exact hls.1) rfl (lv_room hW) d hc).run hw hls kk
def tcpJ (S : CS) (x : Option Nat) (sp : Int32) (x2 : Option Nat) (dp k : Int32) : Option CS := (arJ S x).bind fun q => (arJ S x2).bind fun q2 => if 0 ≤ sp.toInt ∧ 0 ≤ dp.toInt ∧ 0 ≤ k.toInt ∧ ix sp + ix k ≤ q.2.1 ∧ ix dp + ix k ≤ q2.2.1 then some (cpH S q2.1 (.inl (q2.2.1, .inr (.inl (va_cpy q.2.2 q2.2.2 (ix sp) (ix dp) (ix k)))))) else none
theorem jc_tcpJ (C : CC p s m args meth c y cc n r) (K : cK g s) {x x2 : Option Nat} {sp dp k : Int32} {S1 : CS} {i : Nat} (h : tcpJ S x sp x2 dp k = some S1) (hl0 : Cond.methodLink y.cls i arraycopyName ∈ lw_tbl) (h1 : 1 ≤ R.frames) (h2 : (rest.map fun v => v.category).sum + (nativeFrameWords "java/lang/System" "arraycopy" 5 + 11) ≤ R.locals) (d : decode cc pc = .ok (.invokestatic i, 3)) (kk : JJ p l e R s m args below meth c n (cW g s S0) Q (pc + 3) lv rest S1 cells slots) : JJ p l e R s m args below meth c n (cW g s S0) Q pc lv (.int k :: .int dp :: va_rf x2 :: .int sp :: va_rf x :: rest) S cells slots := by
  intro H locs ls hl hw
  obtain ⟨q, a1, hA⟩ := Option.bind_eq_some_iff.mp h
  obtain ⟨q2, a2, hB⟩ := Option.bind_eq_some_iff.mp hA
  obtain ⟨rfl, b1, b2⟩ := arJ_of a1
  obtain ⟨rfl, c1, c2⟩ := arJ_of a2
  have ng : ∀ z : Int32, 0 ≤ z.toInt → ¬ z < 0 := fun z hz q => by
    have := Int32.lt_iff_toInt_lt.mp q
    have e : (0 : Int32).toInt = 0 := rfl
    omega
  by_cases hh : 0 ≤ sp.toInt ∧ 0 ≤ dp.toInt ∧ 0 ≤ k.toInt ∧ ix sp + ix k ≤ q.2.1 ∧ ix dp + ix k ≤ q2.2.1
  · rw [if_pos hh] at hB
    cases hB
    have hat := hw.1.2.2.2.2.2 q.1 b1
    rw [b2] at hat
    have hat2 := hw.1.2.2.2.2.2 q2.1 c1
    rw [c2] at hat2
    have hi := C.2.2.2.2.2.2.2
    refine hb_copyL C.1 C.2.1 (by rw [C.2.2.1]; exact hl.1.symm) C.2.2.2.2.2.1 (hi _ hl0 rfl) (hi _ kw_590 rfl) (hi _ kw_589 rfl) (hi _ kw_80 rfl) K.1 1 hat hat2 rfl (ng _ hh.1) (ng _ hh.2.1) (ng _ hh.2.2.1) hh.2.2.2.1 hh.2.2.2.2 h1 h2 d (fun H1 locs1 k1 k2 k3 k4 => kk H1 _ ls hl ?_)
    have hc := cAt_putH hw.2.1 hw.1 c1 (e := .inl (q2.2.1, .inr (.inl (va_cpy q.2.2 q2.2.2 (ix sp) (ix dp) (ix k))))) k2 k4
    refine ⟨hc, hw.2.1, by rw [k3]; exact hw.2.2.1, ⟨by rw [k3]; exact hw.2.2.2.1.1, fun z z1 z2 => ?_, fun z hz => ?_⟩, hw.2.2.2.2.1, hw.2.2.2.2.2⟩
    · rw [k4 z (fun e => z2 (by rw [e]; exact hw.2.2.2.2.1 _ c1))]
      exact hw.2.2.2.1.2.1 z z1 z2
    · rcases List.mem_append.mp hz with hz | hz
      · exact hw.2.2.2.1.2.2 z hz
      · rw [k1 z hz]; exact hw.2.2.2.2.1 _ c1
  · rw [if_neg hh] at hB; cases hB
def tcpI (S : CS) (x : Option Nat) (sp : Int32) (x2 : Option Nat) (dp k : Int32) : Option CS := (arI S x).bind fun q => (arI S x2).bind fun q2 => if 0 ≤ sp.toInt ∧ 0 ≤ dp.toInt ∧ 0 ≤ k.toInt ∧ ix sp + ix k ≤ q.2.1 ∧ ix dp + ix k ≤ q2.2.1 then some (cpH S q2.1 (.inl (q2.2.1, .inl (va_cpy q.2.2 q2.2.2 (ix sp) (ix dp) (ix k))))) else none
theorem jc_tcpI (C : CC p s m args meth c y cc n r) (K : cK g s) {x x2 : Option Nat} {sp dp k : Int32} {S1 : CS} {i : Nat} (h : tcpI S x sp x2 dp k = some S1) (hl0 : Cond.methodLink y.cls i arraycopyName ∈ lw_tbl) (h1 : 1 ≤ R.frames) (h2 : (rest.map fun v => v.category).sum + (nativeFrameWords "java/lang/System" "arraycopy" 5 + 11) ≤ R.locals) (d : decode cc pc = .ok (.invokestatic i, 3)) (kk : JJ p l e R s m args below meth c n (cW g s S0) Q (pc + 3) lv rest S1 cells slots) : JJ p l e R s m args below meth c n (cW g s S0) Q pc lv (.int k :: .int dp :: va_rf x2 :: .int sp :: va_rf x :: rest) S cells slots := by
  intro H locs ls hl hw
  obtain ⟨q, a1, hA⟩ := Option.bind_eq_some_iff.mp h
  obtain ⟨q2, a2, hB⟩ := Option.bind_eq_some_iff.mp hA
  obtain ⟨rfl, b1, b2⟩ := arI_of a1
  obtain ⟨rfl, c1, c2⟩ := arI_of a2
  have ng : ∀ z : Int32, 0 ≤ z.toInt → ¬ z < 0 := fun z hz q => by
    have := Int32.lt_iff_toInt_lt.mp q
    have e : (0 : Int32).toInt = 0 := rfl
    omega
  by_cases hh : 0 ≤ sp.toInt ∧ 0 ≤ dp.toInt ∧ 0 ≤ k.toInt ∧ ix sp + ix k ≤ q.2.1 ∧ ix dp + ix k ≤ q2.2.1
  · rw [if_pos hh] at hB
    cases hB
    have hat := hw.1.2.2.2.2.2 q.1 b1
    rw [b2] at hat
    have hat2 := hw.1.2.2.2.2.2 q2.1 c1
    rw [c2] at hat2
    have hi := C.2.2.2.2.2.2.2
    refine hb_copyI C.1 C.2.1 (by rw [C.2.2.1]; exact hl.1.symm) C.2.2.2.2.2.1 (hi _ hl0 rfl) (hi _ kw_590 rfl) (hi _ kw_589 rfl) (hi _ kw_80 rfl) K.1 0 hat hat2 rfl (ng _ hh.1) (ng _ hh.2.1) (ng _ hh.2.2.1) hh.2.2.2.1 hh.2.2.2.2 h1 h2 d (fun H1 locs1 k1 k2 k3 k4 => kk H1 _ ls hl ?_)
    have hc := cAt_putH hw.2.1 hw.1 c1 (e := .inl (q2.2.1, .inl (va_cpy q.2.2 q2.2.2 (ix sp) (ix dp) (ix k)))) k2 k4
    refine ⟨hc, hw.2.1, by rw [k3]; exact hw.2.2.1, ⟨by rw [k3]; exact hw.2.2.2.1.1, fun z z1 z2 => ?_, fun z hz => ?_⟩, hw.2.2.2.2.1, hw.2.2.2.2.2⟩
    · rw [k4 z (fun e => z2 (by rw [e]; exact hw.2.2.2.2.1 _ c1))]
      exact hw.2.2.2.1.2.1 z z1 z2
    · rcases List.mem_append.mp hz with hz | hz
      · exact hw.2.2.2.1.2.2 z hz
      · rw [k1 z hz]; exact hw.2.2.2.2.1 _ c1
  · rw [if_neg hh] at hB; cases hB
end JC2
theorem y_Row : yOK RX8 [5] := by
  intro ci h
  simp only [List.mem_singleton] at h
  subst h
  exact ⟨_, rfl, Or.inl rfl⟩
theorem n_Row : nOK RX8 [0, 1, 2, 3, 4, 6] := by
  intro ci h
  simp only [List.mem_cons, List.not_mem_nil, or_false] at h
  rcases h with rfl | rfl | rfl | rfl | rfl | rfl
  · exact ⟨_, rfl, by decide +kernel⟩
  · exact ⟨_, rfl, by decide +kernel⟩
  · exact ⟨_, rfl, by decide +kernel⟩
  · exact ⟨_, rfl, by decide +kernel⟩
  · exact ⟨_, rfl, by decide +kernel⟩
  · exact ⟨_, rfl, by decide +kernel⟩
theorem y_Pose : yOK RX4 [2, 1] := by
  intro ci h
  simp only [List.mem_cons, List.not_mem_nil, or_false] at h
  rcases h with rfl | rfl
  · exact ⟨_, rfl, Or.inl rfl⟩
  · exact ⟨_, rfl, Or.inr kw_1627⟩
theorem n_Pose : nOK RX4 [0, 3, 4, 5, 6] := by
  intro ci h
  simp only [List.mem_cons, List.not_mem_nil, or_false] at h
  rcases h with rfl | rfl | rfl | rfl | rfl
  · exact ⟨_, rfl, by decide +kernel⟩
  · exact ⟨_, rfl, by decide +kernel⟩
  · exact ⟨_, rfl, by decide +kernel⟩
  · exact ⟨_, rfl, by decide +kernel⟩
  · exact ⟨_, rfl, by decide +kernel⟩
theorem y_Grasp : yOK RX3 [1] := by
  intro ci h
  simp only [List.mem_singleton] at h
  subst h
  exact ⟨_, rfl, Or.inl rfl⟩
theorem n_Grasp : nOK RX3 [0, 2, 3, 4, 5, 6] := by
  intro ci h
  simp only [List.mem_cons, List.not_mem_nil, or_false] at h
  rcases h with rfl | rfl | rfl | rfl | rfl | rfl
  · exact ⟨_, rfl, by decide +kernel⟩
  · exact ⟨_, rfl, by decide +kernel⟩
  · exact ⟨_, rfl, by decide +kernel⟩
  · exact ⟨_, rfl, by decide +kernel⟩
  · exact ⟨_, rfl, by decide +kernel⟩
  · exact ⟨_, rfl, by decide +kernel⟩
theorem y_Device : yOK RX1 [0, 3, 4, 6] := by
  intro ci h
  simp only [List.mem_cons, List.not_mem_nil, or_false] at h
  rcases h with rfl | rfl | rfl | rfl
  · exact ⟨_, rfl, Or.inr kw_1628⟩
  · exact ⟨_, rfl, Or.inr kw_1629⟩
  · exact ⟨_, rfl, Or.inr kw_1630⟩
  · exact ⟨_, rfl, Or.inr kw_1631⟩
theorem n_Device : nOK RX1 [1, 2, 5] := by
  intro ci h
  simp only [List.mem_cons, List.not_mem_nil, or_false] at h
  rcases h with rfl | rfl | rfl
  · exact ⟨_, rfl, by decide +kernel⟩
  · exact ⟨_, rfl, by decide +kernel⟩
  · exact ⟨_, rfl, by decide +kernel⟩
theorem y_Axis : yOK RX0 [0, 4, 6] := by
  intro ci h
  simp only [List.mem_cons, List.not_mem_nil, or_false] at h
  rcases h with rfl | rfl | rfl
  · exact ⟨_, rfl, Or.inl rfl⟩
  · exact ⟨_, rfl, Or.inr kw_1632⟩
  · exact ⟨_, rfl, Or.inr kw_1633⟩
theorem n_Axis : nOK RX0 [1, 2, 3, 5] := by
  intro ci h
  simp only [List.mem_cons, List.not_mem_nil, or_false] at h
  rcases h with rfl | rfl | rfl | rfl
  · exact ⟨_, rfl, by decide +kernel⟩
  · exact ⟨_, rfl, by decide +kernel⟩
  · exact ⟨_, rfl, by decide +kernel⟩
  · exact ⟨_, rfl, by decide +kernel⟩
theorem y_Probe : yOK RX5 [3] := by
  intro ci h
  simp only [List.mem_singleton] at h
  subst h
  exact ⟨_, rfl, Or.inl rfl⟩
theorem n_Probe : nOK RX5 [0, 1, 2, 4, 5, 6] := by
  intro ci h
  simp only [List.mem_cons, List.not_mem_nil, or_false] at h
  rcases h with rfl | rfl | rfl | rfl | rfl | rfl
  · exact ⟨_, rfl, by decide +kernel⟩
  · exact ⟨_, rfl, by decide +kernel⟩
  · exact ⟨_, rfl, by decide +kernel⟩
  · exact ⟨_, rfl, by decide +kernel⟩
  · exact ⟨_, rfl, by decide +kernel⟩
  · exact ⟨_, rfl, by decide +kernel⟩
theorem fg_Axis_at : ∀ ci ∈ [0, 4, 6], fOK ci 0 RX0 "at" "J" := by
  intro ci h
  simp only [List.mem_cons, List.not_mem_nil, or_false] at h
  rcases h with rfl | rfl | rfl
  · exact ⟨_, _, _, rfl, by decide, rfl, rfl, rfl, kg_0⟩
  · exact ⟨_, _, _, rfl, by decide, rfl, rfl, rfl, kg_4⟩
  · exact ⟨_, _, _, rfl, by decide, rfl, rfl, rfl, kg_6⟩
theorem fp_Axis_at : ∀ ci ∈ [0, 4, 6], fOKp ci 0 RX0 "at" "J" .long false := by
  intro ci h
  simp only [List.mem_cons, List.not_mem_nil, or_false] at h
  rcases h with rfl | rfl | rfl
  · exact ⟨_, _, _, tyX0, rfl, by decide, rfl, rfl, rfl, kg_0, tyX0_ok, nmX0, rfl, by decide +kernel⟩
  · exact ⟨_, _, _, tyX6, rfl, by decide, rfl, rfl, rfl, kg_4, tyX6_ok, nmX6, rfl, by decide +kernel⟩
  · exact ⟨_, _, _, tyX10, rfl, by decide, rfl, rfl, rfl, kg_6, tyX10_ok, nmX10, rfl, by decide +kernel⟩
theorem fg_Axis_travelled : ∀ ci ∈ [0, 4, 6], fOK ci 1 RX0 "travelled" "J" := by
  intro ci h
  simp only [List.mem_cons, List.not_mem_nil, or_false] at h
  rcases h with rfl | rfl | rfl
  · exact ⟨_, _, _, rfl, by decide, rfl, rfl, rfl, kg_0⟩
  · exact ⟨_, _, _, rfl, by decide, rfl, rfl, rfl, kg_4⟩
  · exact ⟨_, _, _, rfl, by decide, rfl, rfl, rfl, kg_6⟩
theorem fp_Axis_travelled : ∀ ci ∈ [0, 4, 6], fOKp ci 1 RX0 "travelled" "J" .long false := by
  intro ci h
  simp only [List.mem_cons, List.not_mem_nil, or_false] at h
  rcases h with rfl | rfl | rfl
  · exact ⟨_, _, _, tyX0, rfl, by decide, rfl, rfl, rfl, kg_0, tyX0_ok, nmX0, rfl, by decide +kernel⟩
  · exact ⟨_, _, _, tyX6, rfl, by decide, rfl, rfl, rfl, kg_4, tyX6_ok, nmX6, rfl, by decide +kernel⟩
  · exact ⟨_, _, _, tyX10, rfl, by decide, rfl, rfl, rfl, kg_6, tyX10_ok, nmX10, rfl, by decide +kernel⟩
theorem fg_Axis_moves : ∀ ci ∈ [0, 4, 6], fOK ci 2 RX0 "moves" "J" := by
  intro ci h
  simp only [List.mem_cons, List.not_mem_nil, or_false] at h
  rcases h with rfl | rfl | rfl
  · exact ⟨_, _, _, rfl, by decide, rfl, rfl, rfl, kg_0⟩
  · exact ⟨_, _, _, rfl, by decide, rfl, rfl, rfl, kg_4⟩
  · exact ⟨_, _, _, rfl, by decide, rfl, rfl, rfl, kg_6⟩
theorem fp_Axis_moves : ∀ ci ∈ [0, 4, 6], fOKp ci 2 RX0 "moves" "J" .long false := by
  intro ci h
  simp only [List.mem_cons, List.not_mem_nil, or_false] at h
  rcases h with rfl | rfl | rfl
  · exact ⟨_, _, _, tyX0, rfl, by decide, rfl, rfl, rfl, kg_0, tyX0_ok, nmX0, rfl, by decide +kernel⟩
  · exact ⟨_, _, _, tyX6, rfl, by decide, rfl, rfl, rfl, kg_4, tyX6_ok, nmX6, rfl, by decide +kernel⟩
  · exact ⟨_, _, _, tyX10, rfl, by decide, rfl, rfl, rfl, kg_6, tyX10_ok, nmX10, rfl, by decide +kernel⟩
theorem fg_Pose_x : ∀ ci ∈ [2, 1], fOK ci 0 RX4 "x" "J" := by
  intro ci h
  simp only [List.mem_cons, List.not_mem_nil, or_false] at h
  rcases h with rfl | rfl
  · exact ⟨_, _, _, rfl, by decide, rfl, rfl, rfl, kg_2⟩
  · exact ⟨_, _, _, rfl, by decide, rfl, rfl, rfl, kg_1⟩
theorem fp_Pose_x : ∀ ci ∈ [2, 1], fOKp ci 0 RX4 "x" "J" .long false := by
  intro ci h
  simp only [List.mem_cons, List.not_mem_nil, or_false] at h
  rcases h with rfl | rfl
  · exact ⟨_, _, _, tyX4, rfl, by decide, rfl, rfl, rfl, kg_2, tyX4_ok, nmX4, rfl, by decide +kernel⟩
  · exact ⟨_, _, _, tyX3, rfl, by decide, rfl, rfl, rfl, kg_1, tyX3_ok, nmX3, rfl, by decide +kernel⟩
theorem fg_Pose_y : ∀ ci ∈ [2, 1], fOK ci 1 RX4 "y" "J" := by
  intro ci h
  simp only [List.mem_cons, List.not_mem_nil, or_false] at h
  rcases h with rfl | rfl
  · exact ⟨_, _, _, rfl, by decide, rfl, rfl, rfl, kg_2⟩
  · exact ⟨_, _, _, rfl, by decide, rfl, rfl, rfl, kg_1⟩
theorem fp_Pose_y : ∀ ci ∈ [2, 1], fOKp ci 1 RX4 "y" "J" .long false := by
  intro ci h
  simp only [List.mem_cons, List.not_mem_nil, or_false] at h
  rcases h with rfl | rfl
  · exact ⟨_, _, _, tyX4, rfl, by decide, rfl, rfl, rfl, kg_2, tyX4_ok, nmX4, rfl, by decide +kernel⟩
  · exact ⟨_, _, _, tyX3, rfl, by decide, rfl, rfl, rfl, kg_1, tyX3_ok, nmX3, rfl, by decide +kernel⟩
theorem fg_Pose_angle : ∀ ci ∈ [2, 1], fOK ci 2 RX4 "angle" "J" := by
  intro ci h
  simp only [List.mem_cons, List.not_mem_nil, or_false] at h
  rcases h with rfl | rfl
  · exact ⟨_, _, _, rfl, by decide, rfl, rfl, rfl, kg_2⟩
  · exact ⟨_, _, _, rfl, by decide, rfl, rfl, rfl, kg_1⟩
theorem fp_Pose_angle : ∀ ci ∈ [2, 1], fOKp ci 2 RX4 "angle" "J" .long false := by
  intro ci h
  simp only [List.mem_cons, List.not_mem_nil, or_false] at h
  rcases h with rfl | rfl
  · exact ⟨_, _, _, tyX4, rfl, by decide, rfl, rfl, rfl, kg_2, tyX4_ok, nmX4, rfl, by decide +kernel⟩
  · exact ⟨_, _, _, tyX3, rfl, by decide, rfl, rfl, rfl, kg_1, tyX3_ok, nmX3, rfl, by decide +kernel⟩
theorem fg_Pose_mark : ∀ ci ∈ [2, 1], fOK ci 3 RX4 "mark" "I" := by
  intro ci h
  simp only [List.mem_cons, List.not_mem_nil, or_false] at h
  rcases h with rfl | rfl
  · exact ⟨_, _, _, rfl, by decide, rfl, rfl, rfl, kg_2⟩
  · exact ⟨_, _, _, rfl, by decide, rfl, rfl, rfl, kg_1⟩
theorem fp_Pose_mark : ∀ ci ∈ [2, 1], fOKp ci 3 RX4 "mark" "I" .int false := by
  intro ci h
  simp only [List.mem_cons, List.not_mem_nil, or_false] at h
  rcases h with rfl | rfl
  · exact ⟨_, _, _, tyX4, rfl, by decide, rfl, rfl, rfl, kg_2, tyX4_ok, nmX4, rfl, by decide +kernel⟩
  · exact ⟨_, _, _, tyX3, rfl, by decide, rfl, rfl, rfl, kg_1, tyX3_ok, nmX3, rfl, by decide +kernel⟩
theorem fg_Pose_after : ∀ ci ∈ [2, 1], fOK ci 4 RX4 "after" "LRobotCell$Pose;" := by
  intro ci h
  simp only [List.mem_cons, List.not_mem_nil, or_false] at h
  rcases h with rfl | rfl
  · exact ⟨_, _, _, rfl, by decide, rfl, rfl, rfl, kg_2⟩
  · exact ⟨_, _, _, rfl, by decide, rfl, rfl, rfl, kg_1⟩
theorem fp_Pose_after : ∀ ci ∈ [2, 1], fOKp ci 4 RX4 "after" "LRobotCell$Pose;" (.object RX4) false := by
  intro ci h
  simp only [List.mem_cons, List.not_mem_nil, or_false] at h
  rcases h with rfl | rfl
  · exact ⟨_, _, _, tyX4, rfl, by decide, rfl, rfl, rfl, kg_2, tyX4_ok, nmX4, rfl, by decide +kernel⟩
  · exact ⟨_, _, _, tyX3, rfl, by decide, rfl, rfl, rfl, kg_1, tyX3_ok, nmX3, rfl, by decide +kernel⟩
theorem fg_Grasp_force : ∀ ci ∈ [1], fOK ci 5 RX3 "force" "J" := by
  intro ci h
  simp only [List.mem_singleton] at h
  subst h
  exact ⟨_, _, _, rfl, by decide, rfl, rfl, rfl, kg_1⟩
theorem fp_Grasp_force : ∀ ci ∈ [1], fOKp ci 5 RX3 "force" "J" .long false := by
  intro ci h
  simp only [List.mem_singleton] at h
  subst h
  exact ⟨_, _, _, tyX3, rfl, by decide, rfl, rfl, rfl, kg_1, tyX3_ok, nmX3, rfl, by decide +kernel⟩
theorem fg_Probe_readings : ∀ ci ∈ [3], fOK ci 0 RX5 "readings" "[I" := by
  intro ci h
  simp only [List.mem_singleton] at h
  subst h
  exact ⟨_, _, _, rfl, by decide, rfl, rfl, rfl, kg_3⟩
theorem fp_Probe_readings : ∀ ci ∈ [3], fOKp ci 0 RX5 "readings" "[I" (.array .int) true := by
  intro ci h
  simp only [List.mem_singleton] at h
  subst h
  exact ⟨_, _, _, tyX5, rfl, by decide, rfl, rfl, rfl, kg_3, tyX5_ok, nmX5, rfl, by decide +kernel⟩
theorem fg_Probe_had : ∀ ci ∈ [3], fOK ci 1 RX5 "had" "J" := by
  intro ci h
  simp only [List.mem_singleton] at h
  subst h
  exact ⟨_, _, _, rfl, by decide, rfl, rfl, rfl, kg_3⟩
theorem fp_Probe_had : ∀ ci ∈ [3], fOKp ci 1 RX5 "had" "J" .long false := by
  intro ci h
  simp only [List.mem_singleton] at h
  subst h
  exact ⟨_, _, _, tyX5, rfl, by decide, rfl, rfl, rfl, kg_3, tyX5_ok, nmX5, rfl, by decide +kernel⟩
theorem fg_Row_kind : ∀ ci ∈ [5], fOK ci 0 RX8 "kind" "I" := by
  intro ci h
  simp only [List.mem_singleton] at h
  subst h
  exact ⟨_, _, _, rfl, by decide, rfl, rfl, rfl, kg_5⟩
theorem fp_Row_kind : ∀ ci ∈ [5], fOKp ci 0 RX8 "kind" "I" .int true := by
  intro ci h
  simp only [List.mem_singleton] at h
  subst h
  exact ⟨_, _, _, tyX8, rfl, by decide, rfl, rfl, rfl, kg_5, tyX8_ok, nmX8, rfl, by decide +kernel⟩
theorem fg_Row_length : ∀ ci ∈ [5], fOK ci 1 RX8 "length" "I" := by
  intro ci h
  simp only [List.mem_singleton] at h
  subst h
  exact ⟨_, _, _, rfl, by decide, rfl, rfl, rfl, kg_5⟩
theorem fp_Row_length : ∀ ci ∈ [5], fOKp ci 1 RX8 "length" "I" .int true := by
  intro ci h
  simp only [List.mem_singleton] at h
  subst h
  exact ⟨_, _, _, tyX8, rfl, by decide, rfl, rfl, rfl, kg_5, tyX8_ok, nmX8, rfl, by decide +kernel⟩
theorem fg_Row_values : ∀ ci ∈ [5], fOK ci 2 RX8 "values" "[J" := by
  intro ci h
  simp only [List.mem_singleton] at h
  subst h
  exact ⟨_, _, _, rfl, by decide, rfl, rfl, rfl, kg_5⟩
theorem fp_Row_values : ∀ ci ∈ [5], fOKp ci 2 RX8 "values" "[J" (.array .long) true := by
  intro ci h
  simp only [List.mem_singleton] at h
  subst h
  exact ⟨_, _, _, tyX8, rfl, by decide, rfl, rfl, rfl, kg_5, tyX8_ok, nmX8, rfl, by decide +kernel⟩
theorem fg_Row_parts : ∀ ci ∈ [5], fOK ci 3 RX8 "parts" "[LRobotCell$Thing;" := by
  intro ci h
  simp only [List.mem_singleton] at h
  subst h
  exact ⟨_, _, _, rfl, by decide, rfl, rfl, rfl, kg_5⟩
theorem fp_Row_parts : ∀ ci ∈ [5], fOKp ci 3 RX8 "parts" "[LRobotCell$Thing;" (.array (.object RX9)) true := by
  intro ci h
  simp only [List.mem_singleton] at h
  subst h
  exact ⟨_, _, _, tyX8, rfl, by decide, rfl, rfl, rfl, kg_5, tyX8_ok, nmX8, rfl, by decide +kernel⟩
