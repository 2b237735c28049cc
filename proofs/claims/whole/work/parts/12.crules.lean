section JC
variable {p : Program} {l : Launch} {e : Env} {R : Room} {s : State} {m : MethodId} {args : Array Value} {below : List Frame} {meth : Method} {c : Code} {y : MethodName} {cc : ByteArray} {n : Nat} {r : Option FieldType} {Q : State → Prop} {pc : Nat} {lv lv' : List (Nat × Value)} {rest : List Value} {S S0 : CS} {cells slots : Nat} {g : CG}
theorem cC_of {k mc ms : Nat} {As : List Value} {v : Option Value} {S' : CS} (hy : plainName y.cls = true) (hn : (lg_sl As).length ≤ n) (hlv : lv_args 0 As = lv)
    (body : ∀ {p : Program} {e : Env} {s : State} {m : MethodId} {args : Array Value} {below : List Frame} {meth : Method} {c : Code}, CC p s m args meth c y cc n r → cK g s → CJ p l e s m args below meth c n k mc ms g S v S' 0 lv [] S 0 0) : cC l y cc n r k mc ms g As S v S' := by
  refine Met.ofW (cc := cc) (maxL := n) (ret := r) hy rfl ?_
  intro p e s m args below meth c s₁ B hml hv
  have hts := atoms_spec (ws := (Cond.code y cc n r :: gw_G)) B.pre
  obtain ⟨hv', hK, hP, hL, hz⟩ := hv
  subst hv'
  subst hlv
  rw [lg_entry_eq]
  exact body ⟨B.exec, B.bytes, hml, B.returns, B.notSynchronized, findClass_of_methodNamed B.named, (name_of_methodNamed B.named B.method).1, fun w hw hg => hts w (List.mem_cons_of_mem _ (gw_in hw hg))⟩ hK s.heap [] _ (lv_entry As hn) ⟨hP, hL, hz, va_S.rf, fun a ha => Or.inr (Or.inr (Or.inl ha)), hz⟩
theorem jc_lret {k mc ms : Nat} {x w : Int64} {S' : CS} (C : CC p s m args meth c y cc n (some .long)) (K : cK g s) (d : decode cc pc = .ok (.lreturn, 1)) (hv : (x, S) = (w, S')) (hc : cells ≤ mc ∧ slots ≤ ms) : CJ p l e s m args below meth c n k mc ms g S0 (some (.long w)) S' pc lv [.long x] S cells slots := by
  intro H locs ls hl hw
  cases hv
  refine W.widen hc.1 hc.2 ?_
  exact W.lret C.1 C.2.1 C.2.2.2.1 (fun t ht hW => ⟨rfl, cK_warm hW K, by rw [ht]; exact hw.1, hw.2.1, by rw [ht]; exact hw.2.2.1, hw.2.2.2.1.F ht, hw.2.2.2.2.1⟩) hw.2.2.2.1.2.2 d C.2.2.2.2.1
theorem jc_iret {k mc ms : Nat} {x w : Int32} {S' : CS} (C : CC p s m args meth c y cc n (some .int)) (K : cK g s) (d : decode cc pc = .ok (.ireturn, 1)) (hv : (x, S) = (w, S')) (hc : cells ≤ mc ∧ slots ≤ ms) : CJ p l e s m args below meth c n k mc ms g S0 (some (.int w)) S' pc lv [.int x] S cells slots := by
  intro H locs ls hl hw
  cases hv
  refine W.widen hc.1 hc.2 ?_
  exact W.iret C.1 C.2.1 C.2.2.2.1 (fun t ht hW => ⟨rfl, cK_warm hW K, by rw [ht]; exact hw.1, hw.2.1, by rw [ht]; exact hw.2.2.1, hw.2.2.2.1.F ht, hw.2.2.2.2.1⟩) hw.2.2.2.1.2.2 d C.2.2.2.2.1
theorem jc_zret {k mc ms : Nat} {x w : Int32} {S' : CS} (C : CC p s m args meth c y cc n (some .boolean)) (K : cK g s) (d : decode cc pc = .ok (.ireturn, 1)) (hn : narrow .boolean (.int x) = .int x) (hv : (x, S) = (w, S')) (hc : cells ≤ mc ∧ slots ≤ ms) : CJ p l e s m args below meth c n k mc ms g S0 (some (.int w)) S' pc lv [.int x] S cells slots := by
  intro H locs ls hl hw
  cases hv
  refine W.widen hc.1 hc.2 ?_
  exact W.zret C.1 C.2.1 C.2.2.2.1 hn (fun t ht hW => ⟨rfl, cK_warm hW K, by rw [ht]; exact hw.1, hw.2.1, by rw [ht]; exact hw.2.2.1, hw.2.2.2.1.F ht, hw.2.2.2.2.1⟩) hw.2.2.2.1.2.2 d C.2.2.2.2.1
theorem jc_vret {k mc ms : Nat}  {S' : CS} (C : CC p s m args meth c y cc n none) (K : cK g s) (d : decode cc pc = .ok (.return_, 1)) (hv : S = S') (hc : cells ≤ mc ∧ slots ≤ ms) : CJ p l e s m args below meth c n k mc ms g S0 none S' pc lv [] S cells slots := by
  intro H locs ls hl hw
  cases hv
  refine W.widen hc.1 hc.2 ?_
  exact W.vret C.1 C.2.1 C.2.2.2.1 (fun t ht hW => ⟨rfl, cK_warm hW K, by rw [ht]; exact hw.1, hw.2.1, by rw [ht]; exact hw.2.2.1, hw.2.2.2.1.F ht, hw.2.2.2.2.1⟩) hw.2.2.2.1.2.2 d C.2.2.2.2.1
theorem jc_aret {k mc ms : Nat} {nm : String} {x w : Option Nat} {S' : CS} (C : CC p s m args meth c y cc n (some (.object nm))) (K : cK g s) (d : decode cc pc = .ok (.areturn, 1)) (hv : (x, S) = (w, S')) (hc : cells ≤ mc ∧ slots ≤ ms) : CJ p l e s m args below meth c n k mc ms g S0 (some (va_rf w)) S' pc lv [va_rf x] S cells slots := by
  intro H locs ls hl hw
  cases hv
  refine W.widen hc.1 hc.2 ?_
  exact W.aret C.1 C.2.1 C.2.2.2.1 (Or.inl ⟨_, rfl⟩) (by cases x with | none => exact Or.inl rfl | some a => exact Or.inr ⟨a, rfl⟩) (fun t ht hW => ⟨rfl, cK_warm hW K, by rw [ht]; exact hw.1, hw.2.1, by rw [ht]; exact hw.2.2.1, hw.2.2.2.1.F ht, hw.2.2.2.2.1⟩) hw.2.2.2.1.2.2 d C.2.2.2.2.1
theorem jc_getI (C : CC p s m args meth c y cc n r) (K : cK g s) (k : Nat) {i : Nat} (hk : k < 16) (ht : cty k = 0) (hl0 : Cond.fieldLink y.cls i RX11 (TX11 k).2.1 (TX11 k).2.2.1 ∈ lw_tbl) (hs : (TX11 k).1 = RX11) (d : decode cc pc = .ok (.getfield i, 3)) (kk : JJ p l e R s m args below meth c n (cW g s S0) Q (pc + 3) lv (.int (gI S.1 k) :: rest) S cells slots) : JJ p l e R s m args below meth c n (cW g s S0) Q pc lv (.ref (co g) :: rest) S cells slots := by
  intro H locs ls hl hw
  refine hb_get C.1 C.2.1 (gw_hts C) kg_7 C.2.2.2.2.2.1 K.1 hw.1.1 rfl k hk (C.2.2.2.2.2.2.2 _ hl0 rfl) (fun x h => by rw [hs] at h; exact h) (cObj_at g S hk) d ?_
  rw [show cF g S k = .int (gI S.1 k) by simp [cF, ht]]
  exact kk H locs ls hl hw
theorem jc_getR (C : CC p s m args meth c y cc n r) (K : cK g s) (k : Nat) {i : Nat} (hk : k < 16) (ht : 2 ≤ cty k) (hl0 : Cond.fieldLink y.cls i RX11 (TX11 k).2.1 (TX11 k).2.2.1 ∈ lw_tbl) (hs : (TX11 k).1 = RX11) (d : decode cc pc = .ok (.getfield i, 3)) (kk : JJ p l e R s m args below meth c n (cW g s S0) Q (pc + 3) lv (.ref (cad g k) :: rest) S cells slots) : JJ p l e R s m args below meth c n (cW g s S0) Q pc lv (.ref (co g) :: rest) S cells slots := by
  intro H locs ls hl hw
  refine hb_get C.1 C.2.1 (gw_hts C) kg_7 C.2.2.2.2.2.1 K.1 hw.1.1 rfl k hk (C.2.2.2.2.2.2.2 _ hl0 rfl) (fun x h => by rw [hs] at h; exact h) (cObj_at g S hk) d ?_
  rw [show cF g S k = .ref (cad g k) by unfold cF; rw [if_neg (by omega)]]
  exact kk H locs ls hl hw
theorem jc_getS (C : CC p s m args meth c y cc n r) (K : cK g s) (k j : Nat) {i : Nat} (hk : k < 3) (hj : (cReg g)[k]? = some (.ref (cad g j))) (hl0 : Cond.fieldLink y.cls i RX7 (TX7 k).2.1 (TX7 k).2.2.1 ∈ lw_tbl) (hs : (TX7 k).1 = RX7) (d : decode cc pc = .ok (.getfield i, 3)) (kk : JJ p l e R s m args below meth c n (cW g s S0) Q (pc + 3) lv (.ref (cad g j) :: rest) S cells slots) : JJ p l e R s m args below meth c n (cW g s S0) Q pc lv (.ref (cad g 5) :: rest) S cells slots := by
  intro H locs ls hl hw
  exact hb_get C.1 C.2.1 (gw_hts C) kg_8 C.2.2.2.2.2.1 K.1 hw.1.2.1 rfl k hk (C.2.2.2.2.2.2.2 _ hl0 rfl) (fun x h => by rw [hs] at h; exact h) hj d (kk H locs ls hl hw)
theorem jc_putI (C : CC p s m args meth c y cc n r) (K : cK g s) (G : cSep g) (k : Nat) {i : Nat} {v : Int32} (hk : k < 16) (ht : cty k = 0) (hl0 : Cond.fieldLink y.cls i RX11 (TX11 k).2.1 (TX11 k).2.2.1 ∈ lw_tbl) (hs : (TX11 k).1 = RX11) (hf : (TX11 k).2.2.2 = false) (hd : parseFieldDescriptor (TX11 k).2.2.1 = some .int) (d : decode cc pc = .ok (.putfield i, 3)) (kk : JJ p l e R s m args below meth c n (cW g s S0) Q (pc + 3) lv rest (cpI S k v) cells slots) : JJ p l e R s m args below meth c n (cW g s S0) Q pc lv (.int v :: .ref (co g) :: rest) S cells slots := by
  intro H locs ls hl hw
  refine hb_put C.1 C.2.1 (gw_hts C) kg_7 tyX11 tyX11_ok nmX11 C.2.2.2.2.2.1 K.1 hw.1.1 rfl k hk (C.2.2.2.2.2.2.2 _ hl0 rfl) (fun x h => by rw [hs] at h; exact h) hf hd rfl rfl (by rw [cObj_len]; exact hk) d (fun H1 sl h1 h2 h3 => ?_)
  rw [cObj_setI g S ht] at h1
  exact kk H1 _ ls hl (cW_put hw (cAt_putI G hw.2.1 hw.1 h1 h3) rfl rfl h2 h3 (Or.inl rfl))
theorem clA_of {k : Nat} {i : Int32} (h : inb i (clA k) = true) : cty k = 2 ∧ vp_in i (clen k) := by
  have h1 := inb_in h
  unfold clA at h1
  by_cases e : cty k = 2
  · rw [if_pos e] at h1; exact ⟨e, h1⟩
  · rw [if_neg e] at h1; exact absurd (vp_in_iff.mp h1) (by omega)
theorem clB_of {k : Nat} {i : Int32} (h : inb i (clB k) = true) : cty k = 3 ∧ vp_in i (clen k) := by
  have h1 := inb_in h
  unfold clB at h1
  by_cases e : cty k = 3
  · rw [if_pos e] at h1; exact ⟨e, h1⟩
  · rw [if_neg e] at h1; exact absurd (vp_in_iff.mp h1) (by omega)
theorem jc_iald (C : CC p s m args meth c y cc n r) (K : cK g s) {k : Nat} {i : Int32} (h : inb i (clA k) = true) (d : decode cc pc = .ok (.iaload, 1)) (kk : JJ p l e R s m args below meth c n (cW g s S0) Q (pc + 1) lv (.int (gA S.1 k (ix i)) :: rest) S cells slots) : JJ p l e R s m args below meth c n (cW g s S0) Q pc lv (.int i :: .ref (cad g k) :: rest) S cells slots := by
  intro H locs ls hl hw
  obtain ⟨h1, h2⟩ := clA_of h
  exact hb_iald C.1 C.2.1 K.1 0 (hw.1.2.2.1 k h1) rfl h2 d (kk H locs ls hl hw)
theorem jc_lald (C : CC p s m args meth c y cc n r) (K : cK g s) {k : Nat} {i : Int32} (h : inb i (clB k) = true) (d : decode cc pc = .ok (.laload, 1)) (kk : JJ p l e R s m args below meth c n (cW g s S0) Q (pc + 1) lv (.long (gB S.1 k (ix i)) :: rest) S cells slots) : JJ p l e R s m args below meth c n (cW g s S0) Q pc lv (.int i :: .ref (cad g k) :: rest) S cells slots := by
  intro H locs ls hl hw
  obtain ⟨h1, h2⟩ := clB_of h
  exact hb_lald C.1 C.2.1 K.1 1 (hw.1.2.2.2.1 k h1) rfl h2 d (kk H locs ls hl hw)
theorem jc_iast (C : CC p s m args meth c y cc n r) (K : cK g s) (G : cSep g) {k : Nat} {i v : Int32} (h : inb i (clA k) = true) (d : decode cc pc = .ok (.iastore, 1)) (kk : JJ p l e R s m args below meth c n (cW g s S0) Q (pc + 1) lv rest (cpA S k (ix i) v) cells slots) : JJ p l e R s m args below meth c n (cW g s S0) Q pc lv (.int v :: .int i :: .ref (cad g k) :: rest) S cells slots := by
  intro H locs ls hl hw
  obtain ⟨h1, h2⟩ := clA_of h
  exact hb_iast C.1 C.2.1 K.1 0 (hw.1.2.2.1 k h1) rfl h2 d (fun H1 sl q1 q2 q3 => kk H1 _ ls hl (cW_put hw (cAt_putA G hw.2.1 hw.1 h1 q1 q3) rfl rfl q2 q3 (Or.inr (Or.inl ⟨k, by omega, rfl⟩))))
theorem jc_last (C : CC p s m args meth c y cc n r) (K : cK g s) (G : cSep g) {k : Nat} {i : Int32} {v : Int64} (h : inb i (clB k) = true) (d : decode cc pc = .ok (.lastore, 1)) (kk : JJ p l e R s m args below meth c n (cW g s S0) Q (pc + 1) lv rest (cpB S k (ix i) v) cells slots) : JJ p l e R s m args below meth c n (cW g s S0) Q pc lv (.long v :: .int i :: .ref (cad g k) :: rest) S cells slots := by
  intro H locs ls hl hw
  obtain ⟨h1, h2⟩ := clB_of h
  exact hb_last C.1 C.2.1 K.1 1 (hw.1.2.2.2.1 k h1) rfl h2 d (fun H1 sl q1 q2 q3 => kk H1 _ ls hl (cW_put hw (cAt_putB G hw.2.1 hw.1 h1 q1 q3) rfl rfl q2 q3 (Or.inr (Or.inl ⟨k, by omega, rfl⟩))))
theorem jc_slld (C : CC p s m args meth c y cc n r) (K : cK g s) {i : Int32} (h : inb i 16 = true) (d : decode cc pc = .ok (.aaload, 1)) (kk : JJ p l e R s m args below meth c n (cW g s S0) Q (pc + 1) lv (va_rf (cSl S (ix i)) :: rest) S cells slots) : JJ p l e R s m args below meth c n (cW g s S0) Q pc lv (.int i :: .ref (cad g 18) :: rest) S cells slots := by
  intro H locs ls hl hw
  exact hb_qld C.1 C.2.1 K.1 2 hw.1.2.2.2.2.1 rfl (inb_in h) d (kk H locs ls hl hw)
def isK (S : CS) (a : Nat) (cs : List Nat) : Bool := decide (a ∈ cLs S) && (match cH S a with | .inr o => cs.contains o.1 | .inl _ => false)
theorem isK_of {S : CS} {a : Nat} {cs : List Nat} (h : isK S a cs = true) : a ∈ cLs S ∧ ∃ (ci : Nat) (fs : List Value), cH S a = .inr (ci, fs) ∧ ci ∈ cs := by
  unfold isK at h
  simp only [Bool.and_eq_true, decide_eq_true_eq] at h
  obtain ⟨h1, h2⟩ := h
  cases hh : cH S a with
  | inl x => rw [hh] at h2; cases h2
  | inr o => rw [hh] at h2; exact ⟨h1, o.1, o.2, rfl, List.contains_iff_mem.mp h2⟩
def tF (S : CS) (x : Option Nat) (cs : List Nat) (k : Nat) : Option Value := match x with
  | none => none
  | some a => if isK S a cs = true then (match cH S a with | .inr o => o.2[k]? | .inl _ => none) else none
def vI : Value → Option Int32
  | .int v => some v
  | _ => none
def vJ : Value → Option Int64
  | .long v => some v
  | _ => none
def vN : Value → Option (Option Nat)
  | .null => some none
  | .ref a => some (some a)
  | _ => none
def tgI (S : CS) (x : Option Nat) (cs : List Nat) (k : Nat) : Option Int32 := (tF S x cs k).bind vI
def tgJ (S : CS) (x : Option Nat) (cs : List Nat) (k : Nat) : Option Int64 := (tF S x cs k).bind vJ
def tgN (S : CS) (x : Option Nat) (cs : List Nat) (k : Nat) : Option (Option Nat) := (tF S x cs k).bind vN
theorem tgI_F {x : Option Nat} {cs : List Nat} {k : Nat} {u : Int32} (h : tgI S x cs k = some u) : tF S x cs k = some (.int u) := by
  obtain ⟨v, h1, h2⟩ := Option.bind_eq_some_iff.mp h
  rw [h1]; cases v <;> first | (cases h2; rfl) | cases h2
theorem tgJ_F {x : Option Nat} {cs : List Nat} {k : Nat} {u : Int64} (h : tgJ S x cs k = some u) : tF S x cs k = some (.long u) := by
  obtain ⟨v, h1, h2⟩ := Option.bind_eq_some_iff.mp h
  rw [h1]; cases v <;> first | (cases h2; rfl) | cases h2
theorem tgN_F {x : Option Nat} {cs : List Nat} {k : Nat} {u : Option Nat} (h : tgN S x cs k = some u) : tF S x cs k = some (va_rf u) := by
  obtain ⟨v, h1, h2⟩ := Option.bind_eq_some_iff.mp h
  rw [h1]; cases v <;> first | (cases h2; rfl) | cases h2
theorem tF_of {x : Option Nat} {cs : List Nat} {k : Nat} {v : Value} (h : tF S x cs k = some v) : ∃ (a ci : Nat) (fs : List Value), x = some a ∧ a ∈ cLs S ∧ cH S a = .inr (ci, fs) ∧ ci ∈ cs ∧ fs[k]? = some v := by
  cases x with
  | none => cases h
  | some a =>
    unfold tF at h
    by_cases hk : isK S a cs = true
    · simp only [hk, if_true] at h
      obtain ⟨h1, ci, fs, h2, h3⟩ := isK_of hk
      rw [h2] at h
      exact ⟨a, ci, fs, rfl, h1, h2, h3, h⟩
    · simp only [hk] at h; cases h
/-- a field's place in the tables of the classes that have it -/
def fOK (ci k : Nat) (ref nm ds : String) : Prop := ∃ (C : String) (T : u_T) (N : Nat), vwT[ci]? = some (C, T, N) ∧ k < N ∧ (T k).1 = ref ∧ (T k).2.1 = nm ∧ (T k).2.2.1 = ds ∧ ∀ w ∈ u_ws C T N, w ∈ gw_G
def fOKp (ci k : Nat) (ref nm ds : String) (ty : FieldType) (fin : Bool) : Prop := ∃ (C : String) (T : u_T) (N : Nat) (ty0 : Nat → FieldType), vwT[ci]? = some (C, T, N) ∧ k < N ∧ (T k).1 = ref ∧ (T k).2.1 = nm ∧ (T k).2.2.1 = ds ∧ (∀ w ∈ u_ws C T N, w ∈ gw_G) ∧ (∀ k, k < N → parseFieldDescriptor (T k).2.2.1 = some (ty0 k)) ∧ (∀ a, a < N → ∀ b, b < N → a ≠ b → (T a).2.1 ≠ (T b).2.1) ∧ (T k).2.2.2 = fin ∧ parseFieldDescriptor (T k).2.2.1 = some ty
theorem jc_tg (C : CC p s m args meth c y cc n r) (K : cK g s) {k i : Nat} {x : Option Nat} {cs : List Nat} {v : Value} {ref nm ds : String} (h : tF S x cs k = some v) (hf : ∀ ci ∈ cs, fOK ci k ref nm ds) (hl0 : Cond.fieldLink y.cls i ref nm ds ∈ lw_tbl) (d : decode cc pc = .ok (.getfield i, 3)) (kk : JJ p l e R s m args below meth c n (cW g s S0) Q (pc + 3) lv (v :: rest) S cells slots) : JJ p l e R s m args below meth c n (cW g s S0) Q pc lv (va_rf x :: rest) S cells slots := by
  intro H locs ls hl hw
  obtain ⟨a, ci, fs, rfl, h1, h2, h3, h4⟩ := tF_of h
  obtain ⟨C0, T, N, f1, f2, f3, f4, f5, f6⟩ := hf ci h3
  have hat := hw.1.2.2.2.2.2 a h1
  rw [h2] at hat
  exact hb_get (ref := ref) C.1 C.2.1 (gw_hts C) f6 C.2.2.2.2.2.1 K.1 hat f1 k f2 (by rw [f4, f5]; exact C.2.2.2.2.2.2.2 _ hl0 rfl) (fun z hz => by rw [f3] at hz; exact hz) h4 d (kk H locs ls hl hw)
def tp (S : CS) (x : Option Nat) (cs : List Nat) (k : Nat) (v : Value) : Option CS := match x with
  | none => none
  | some a => if isK S a cs = true then (match cH S a with | .inr o => if k < o.2.length then some (cpH S a (.inr (o.1, o.2.set k v))) else none | .inl _ => none) else none
theorem tp_of {x : Option Nat} {cs : List Nat} {k : Nat} {v : Value} {S1 : CS} (h : tp S x cs k v = some S1) : ∃ (a ci : Nat) (fs : List Value), x = some a ∧ a ∈ cLs S ∧ cH S a = .inr (ci, fs) ∧ ci ∈ cs ∧ k < fs.length ∧ S1 = cpH S a (.inr (ci, fs.set k v)) := by
  cases x with
  | none => cases h
  | some a =>
    unfold tp at h
    by_cases hk : isK S a cs = true
    · simp only [hk, if_true] at h
      obtain ⟨h1, ci, fs, h2, h3⟩ := isK_of hk
      rw [h2] at h
      simp only at h
      by_cases h5 : k < fs.length
      · rw [if_pos h5] at h
        exact ⟨a, ci, fs, rfl, h1, h2, h3, h5, (Option.some.inj h).symm⟩
      · rw [if_neg h5] at h; cases h
    · simp only [hk] at h; cases h
theorem jc_tp (C : CC p s m args meth c y cc n r) (K : cK g s) {k i : Nat} {x : Option Nat} {cs : List Nat} {v : Value} {ref nm ds : String} {ty : FieldType} {S1 : CS} (h : tp S x cs k v = some S1) (hf : ∀ ci ∈ cs, fOKp ci k ref nm ds ty false) (hn : narrow ty v = v) (hfit : fits ty v = true) (hl0 : Cond.fieldLink y.cls i ref nm ds ∈ lw_tbl) (d : decode cc pc = .ok (.putfield i, 3)) (kk : JJ p l e R s m args below meth c n (cW g s S0) Q (pc + 3) lv rest S1 cells slots) : JJ p l e R s m args below meth c n (cW g s S0) Q pc lv (v :: va_rf x :: rest) S cells slots := by
  intro H locs ls hl hw
  obtain ⟨a, ci, fs, rfl, h1, h2, h3, h4, rfl⟩ := tp_of h
  obtain ⟨C0, T, N, ty0, f1, f2, f3, f4, f5, f6, f7, f8, f9, f10⟩ := hf ci h3
  have hat := hw.1.2.2.2.2.2 a h1
  rw [h2] at hat
  exact hb_put (ref := ref) C.1 C.2.1 (gw_hts C) f6 ty0 f7 f8 C.2.2.2.2.2.1 K.1 hat f1 k f2 (by rw [f4, f5]; exact C.2.2.2.2.2.2.2 _ hl0 rfl) (fun z hz => by rw [f3] at hz; exact hz) f9 f10 hn hfit h4 d (fun H1 sl q1 q2 q3 => kk H1 _ ls hl (cW_put hw (cAt_putH hw.2.1 hw.1 h1 q1 q3) rfl rfl q2 q3 (hw.2.2.2.2.1 a h1)))
theorem jc_tpF (C : CC p s m args meth c y cc n r) (K : cK g s) {k i : Nat} {x : Option Nat} {cs : List Nat} {v : Value} {ref nm ds : String} {ty : FieldType} {S1 : CS} (h : tp S x cs k v = some S1) (hf : ∀ ci ∈ cs, fOKp ci k ref nm ds ty true) (hi : y.name = "<init>") (hr : ref = y.cls) (hn : narrow ty v = v) (hfit : fits ty v = true) (hl0 : Cond.fieldLink y.cls i ref nm ds ∈ lw_tbl) (d : decode cc pc = .ok (.putfield i, 3)) (kk : JJ p l e R s m args below meth c n (cW g s S0) Q (pc + 3) lv rest S1 cells slots) : JJ p l e R s m args below meth c n (cW g s S0) Q pc lv (v :: va_rf x :: rest) S cells slots := by
  intro H locs ls hl hw
  obtain ⟨a, ci, fs, rfl, h1, h2, h3, h4, rfl⟩ := tp_of h
  obtain ⟨C0, T, N, ty0, f1, f2, f3, f4, f5, f6, f7, f8, f9, f10⟩ := hf ci h3
  have hat := hw.1.2.2.2.2.2 a h1
  rw [h2] at hat
  exact hb_putF (ref := ref) (own := y.cls) C.1 C.2.1 (gw_hts C) f6 ty0 f7 f8 C.2.2.2.2.2.1 K.1 hat f1 k f2 (by rw [f4, f5]; exact C.2.2.2.2.2.2.2 _ hl0 rfl) (fun z hz => by rw [f3] at hz; exact hz) f9 (C.2.2.2.2.2.2.1.trans hi) (f3.trans hr) f10 hn hfit h4 d (fun H1 sl q1 q2 q3 => kk H1 _ ls hl (cW_put hw (cAt_putH hw.2.1 hw.1 h1 q1 q3) rfl rfl q2 q3 (hw.2.2.2.2.1 a h1)))
end JC
