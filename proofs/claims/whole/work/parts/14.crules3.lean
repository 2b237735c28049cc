theorem cat_i (x : Int32) : (Value.int x).category = 1 := rfl
theorem cat_l (x : Int64) : (Value.long x).category = 2 := rfl
theorem cat_r (x : Nat) : (Value.ref x).category = 1 := rfl
/-! what a method makes, added up -/
def addD {α : Type} (a b : Nat) (x : Option (α × Nat × Nat)) : Option (α × Nat × Nat) := match x with
  | none => none
  | some w => some (w.1, w.2.1 + a, w.2.2 + b)
theorem addD_of {α : Type} {a b : Nat} {x : Option (α × Nat × Nat)} {w : α × Nat × Nat} (h : addD a b x = some w) : ∃ w' : α × Nat × Nat, x = some w' ∧ w'.1 = w.1 ∧ w.2.1 = w'.2.1 + a ∧ w.2.2 = w'.2.2 + b := by
  cases x with
  | none => cases h
  | some v => cases h; exact ⟨v, rfl, rfl, rfl, rfl⟩
theorem nar_rf {C : String} (x : Option Nat) : narrow (.object C) (va_rf x) = va_rf x := by cases x <;> rfl
theorem fit_rf {C : String} (x : Option Nat) : fits (.object C) (va_rf x) = true := by cases x <;> rfl
theorem nar_rfA {t : FieldType} (x : Option Nat) : narrow (.array t) (va_rf x) = va_rf x := by cases x <;> rfl
theorem fit_rfA {t : FieldType} (x : Option Nat) : fits (.array t) (va_rf x) = true := by cases x <;> rfl
section JC4
variable {p : Program} {l : Launch} {e : Env} {R : Room} {s : State} {m : MethodId} {args : Array Value} {below : List Frame} {meth : Method} {c : Code} {y : MethodName} {cc : ByteArray} {n : Nat} {r : Option FieldType} {Q : State → Prop} {pc : Nat} {lv lv' : List (Nat × Value)} {rest : List Value} {S S0 : CS} {cells slots : Nat} {g : CG}
theorem jc_slen (C : CC p s m args meth c y cc n r) (K : cK g s) {k : Nat} (h : cty k = 3) (d : decode cc pc = .ok (.arraylength, 1)) (kk : JJ p l e R s m args below meth c n (cW g s S0) Q (pc + 1) lv (.int (Int32.ofNat (clen k)) :: rest) S cells slots) : JJ p l e R s m args below meth c n (cW g s S0) Q pc lv (.ref (cad g k) :: rest) S cells slots := by
  intro H locs ls hl hw
  exact va_alen C.1 C.2.1 K.1 (hb_P (hw.1.2.2.2.1 k h)) 0 1 rfl rfl rfl d (kk H locs ls hl hw)
theorem jc_objI (C : CC p s m args meth c y cc n r) (K : cK g s) {i : Nat} {x : Option Nat} {cs : List Nat} (h : isKx S x cs = true) (hl0 : Cond.methodLink y.cls i ⟨"java/lang/Object", "<init>", "()V"⟩ ∈ lw_tbl) (h1 : 1 ≤ R.frames) (h2 : (rest.map fun v => v.category).sum + 12 ≤ R.locals) (d : decode cc pc = .ok (.invokespecial i, 3)) (kk : JJ p l e R s m args below meth c n (cW g s S0) Q (pc + 3) lv rest S cells slots) : JJ p l e R s m args below meth c n (cW g s S0) Q pc lv (va_rf x :: rest) S cells slots := by
  intro H locs ls hl hw
  obtain ⟨a, rfl, -⟩ := isKx_of h
  have hi := C.2.2.2.2.2.2.2
  exact W.objInit C.1 C.2.1 C.2.2.2.2.2.1 (hi _ hl0 rfl) (hi _ kw_100 rfl) (hi _ kw_101 rfl) (g := F0 m pc ls (.ref a :: rest)) rfl (by show ls.size = _; rw [C.2.2.1]; exact hl.1) rfl d h1 (by show 2 * 0 + _ + 12 ≤ _; omega) (kk H locs ls hl hw)
end JC4
theorem nb_of {x : Int32} (h : x = 0 ∨ x = 1) : narrow .boolean (.int x) = .int x := by rcases h with rfl | rfl <;> rfl
theorem b_fX2_isLess (x y : Int64) : fX2_isLess x y = 0 ∨ fX2_isLess x y = 1 := by
  unfold fX2_isLess
  (repeat' split) <;> first | exact Or.inl rfl | exact Or.inr rfl
theorem b_fX2_isLike (x y : Int64) : fX2_isLike x y = 0 ∨ fX2_isLike x y = 1 := by
  unfold fX2_isLike
  (repeat' split) <;> first | exact Or.inl rfl | exact Or.inr rfl
theorem cInst_b {S : CS} {x : Option Nat} {ys ns : List Nat} {b : Int32} (h : cInst S x ys ns = some b) : b = 0 ∨ b = 1 := by
  cases x with
  | none => cases h; exact Or.inl rfl
  | some a =>
    unfold cInst at h
    simp only at h
    split at h
    · cases h; exact Or.inr rfl
    · split at h
      · cases h; exact Or.inl rfl
      · cases h
