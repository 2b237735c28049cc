/-! the reference's methods: contracts and rows -/
section JM
variable {p : Program} {l : Launch} {e : Env} {R : Room} {s : State} {m : MethodId} {args : Array Value} {below : List Frame} {meth : Method} {c : Code} {y : MethodName} {cc : ByteArray} {n : Nat} {r : Option FieldType} {Q : State → Prop} {pc : Nat} {lv lv' : List (Nat × Value)} {rest : List Value} {S : MS} {cells slots : Nat} {g : MG}
def mC_P (g : MG) (As : List Value) (S : MS) : Array Value → State → Prop := fun a U => a = As.toArray ∧ mK g U ∧ mAt g S U.heap
def mC_Q (g : MG) (v : Option Value) (S' : MS) : Array Value → State → Outcome → State → Prop := fun _ st o t => o = .returned v ∧ mK g t ∧ mAt g S' t.heap ∧ va_F (mA g) st t ∧ t.heap.size = st.heap.size
abbrev mC (l : Launch) (y : MethodName) (cc : ByteArray) (n : Nat) (r : Option FieldType) (k : Nat) (g : MG) (As : List Value) (S : MS) (v : Option Value) (S' : MS) : Prop := Met l y (.code y cc n r :: gw_G) (pu_r k) (mC_P g As S) (mC_Q g v S') 0 0 (mA g)
abbrev MJ (p : Program) (l : Launch) (e : Env) (s : State) (m : MethodId) (args : Array Value) (below : List Frame) (meth : Method) (c : Code) (n k : Nat) (g : MG) (v : Option Value) (S' : MS) (pc : Nat) (lv : List (Nat × Value)) (st : List Value) (S : MS) : Prop := JJ p l e (pu_r k) s m args below meth c n (mW g s) (MQ below (mC_Q g v S') args s 0 0 (mA g)) pc lv st S 0 0
theorem mC_blind {As : List Value} : FrameBlind (mC_P g As S) := fun a U f mk q => ⟨q.1, va_K.moved (u := U) (U := U.calling f mk a) (Vm.Alike.refl U.vm) q.2.1, q.2.2⟩
theorem mC_of {k : Nat} {As : List Value} {v : Option Value} {S' : MS} (hy : plainName y.cls = true) (hn : (lg_sl As).length ≤ n) (hlv : lv_args 0 As = lv)
    (body : ∀ {p : Program} {e : Env} {s : State} {m : MethodId} {args : Array Value} {below : List Frame} {meth : Method} {c : Code}, CC p s m args meth c y cc n r → mK g s → MJ p l e s m args below meth c n k g v S' 0 lv [] S) : mC l y cc n r k g As S v S' := by
  refine Met.ofW (cc := cc) (maxL := n) (ret := r) hy rfl ?_
  intro p e s m args below meth c s₁ B hml hv
  have hts := atoms_spec (ws := (Cond.code y cc n r :: gw_G)) B.pre
  obtain ⟨hv', hK, hP⟩ := hv
  subst hv'
  subst hlv
  rw [lg_entry_eq]
  exact body ⟨B.exec, B.bytes, hml, B.returns, B.notSynchronized, findClass_of_methodNamed B.named, (name_of_methodNamed B.named B.method).1, fun w hw hg => hts w (List.mem_cons_of_mem _ (gw_in hw hg))⟩ hK s.heap [] _ (lv_entry As hn) ⟨hP, va_S.rf, rfl⟩
theorem jm_lret {k : Nat} {x w : Int64} {S' : MS} (C : CC p s m args meth c y cc n (some .long)) (K : mK g s) (d : decode cc pc = .ok (.lreturn, 1)) (hv : (x, S) = (w, S')) : MJ p l e s m args below meth c n k g (some (.long w)) S' pc lv [.long x] S := by
  intro H locs ls hl hw
  cases hv
  exact W.lret C.1 C.2.1 C.2.2.2.1 (fun t ht hW => ⟨rfl, va_K.moved hW.alike K, by rw [ht]; exact hw.1, hw.2.1.F ht, by rw [ht]; exact hw.2.2⟩) hw.2.1.2.2 d C.2.2.2.2.1
theorem jm_iret {k : Nat} {x w : Int32} {S' : MS} (C : CC p s m args meth c y cc n (some .int)) (K : mK g s) (d : decode cc pc = .ok (.ireturn, 1)) (hv : (x, S) = (w, S')) : MJ p l e s m args below meth c n k g (some (.int w)) S' pc lv [.int x] S := by
  intro H locs ls hl hw
  cases hv
  exact W.iret C.1 C.2.1 C.2.2.2.1 (fun t ht hW => ⟨rfl, va_K.moved hW.alike K, by rw [ht]; exact hw.1, hw.2.1.F ht, by rw [ht]; exact hw.2.2⟩) hw.2.1.2.2 d C.2.2.2.2.1
theorem jm_zret {k : Nat} {x w : Int32} {S' : MS} (C : CC p s m args meth c y cc n (some .boolean)) (K : mK g s) (d : decode cc pc = .ok (.ireturn, 1)) (hn : narrow .boolean (.int x) = .int x) (hv : (x, S) = (w, S')) : MJ p l e s m args below meth c n k g (some (.int w)) S' pc lv [.int x] S := by
  intro H locs ls hl hw
  cases hv
  exact W.zret C.1 C.2.1 C.2.2.2.1 hn (fun t ht hW => ⟨rfl, va_K.moved hW.alike K, by rw [ht]; exact hw.1, hw.2.1.F ht, by rw [ht]; exact hw.2.2⟩) hw.2.1.2.2 d C.2.2.2.2.1
theorem jm_vret {k : Nat} {S' : MS} (C : CC p s m args meth c y cc n none) (K : mK g s) (d : decode cc pc = .ok (.return_, 1)) (hv : S = S') : MJ p l e s m args below meth c n k g none S' pc lv [] S := by
  intro H locs ls hl hw
  cases hv
  exact W.vret C.1 C.2.1 C.2.2.2.1 (fun t ht hW => ⟨rfl, va_K.moved hW.alike K, by rw [ht]; exact hw.1, hw.2.1.F ht, by rw [ht]; exact hw.2.2⟩) hw.2.1.2.2 d C.2.2.2.2.1
theorem gw_hts (C : CC p s m args meth c y cc n r) : ∀ w ∈ gw_G, w.before args s = true := fun w hw => C.2.2.2.2.2.2.2 w (List.mem_filter.mp hw).1 (gw_good hw)
theorem jm_getI (C : CC p s m args meth c y cc n r) (K : mK g s) (k : Nat) {i : Nat} (hk : k < 46) (ht : mty k = 0) (hl0 : Cond.fieldLink y.cls i RX12 (TX12 k).2.1 (TX12 k).2.2.1 ∈ lw_tbl) (hs : (TX12 k).1 = RX12) (d : decode cc pc = .ok (.getfield i, 3)) (kk : JJ p l e R s m args below meth c n (mW g s) Q (pc + 3) lv (.int (gI S k) :: rest) S cells slots) : JJ p l e R s m args below meth c n (mW g s) Q pc lv (.ref (mo g) :: rest) S cells slots := by
  intro H locs ls hl hw
  refine hb_get C.1 C.2.1 (gw_hts C) mI_G C.2.2.2.2.2.1 K hw.1.1 rfl k hk (C.2.2.2.2.2.2.2 _ hl0 rfl) (fun x h => by rw [hs] at h; exact h) (mObj_at g S hk) d ?_
  rw [show mF g S k = .int (gI S k) by simp [mF, ht]]
  exact kk H locs ls hl hw
theorem jm_getJ (C : CC p s m args meth c y cc n r) (K : mK g s) (k : Nat) {i : Nat} (hk : k < 46) (ht : mty k = 1) (hl0 : Cond.fieldLink y.cls i RX12 (TX12 k).2.1 (TX12 k).2.2.1 ∈ lw_tbl) (hs : (TX12 k).1 = RX12) (d : decode cc pc = .ok (.getfield i, 3)) (kk : JJ p l e R s m args below meth c n (mW g s) Q (pc + 3) lv (.long (gJ S k) :: rest) S cells slots) : JJ p l e R s m args below meth c n (mW g s) Q pc lv (.ref (mo g) :: rest) S cells slots := by
  intro H locs ls hl hw
  refine hb_get C.1 C.2.1 (gw_hts C) mI_G C.2.2.2.2.2.1 K hw.1.1 rfl k hk (C.2.2.2.2.2.2.2 _ hl0 rfl) (fun x h => by rw [hs] at h; exact h) (mObj_at g S hk) d ?_
  rw [show mF g S k = .long (gJ S k) by simp [mF, ht]]
  exact kk H locs ls hl hw
theorem jm_getA (C : CC p s m args meth c y cc n r) (K : mK g s) (k : Nat) {i : Nat} (hk : k < 46) (ht : 2 ≤ mty k) (hl0 : Cond.fieldLink y.cls i RX12 (TX12 k).2.1 (TX12 k).2.2.1 ∈ lw_tbl) (hs : (TX12 k).1 = RX12) (d : decode cc pc = .ok (.getfield i, 3)) (kk : JJ p l e R s m args below meth c n (mW g s) Q (pc + 3) lv (.ref (mad g k) :: rest) S cells slots) : JJ p l e R s m args below meth c n (mW g s) Q pc lv (.ref (mo g) :: rest) S cells slots := by
  intro H locs ls hl hw
  refine hb_get C.1 C.2.1 (gw_hts C) mI_G C.2.2.2.2.2.1 K hw.1.1 rfl k hk (C.2.2.2.2.2.2.2 _ hl0 rfl) (fun x h => by rw [hs] at h; exact h) (mObj_at g S hk) d ?_
  rw [show mF g S k = .ref (mad g k) by unfold mF; rw [if_neg (by omega), if_neg (by omega)]]
  exact kk H locs ls hl hw
theorem jm_putI (C : CC p s m args meth c y cc n r) (K : mK g s) (G : mSep g) (k : Nat) {i : Nat} {v : Int32} (hk : k < 46) (ht : mty k = 0) (hl0 : Cond.fieldLink y.cls i RX12 (TX12 k).2.1 (TX12 k).2.2.1 ∈ lw_tbl) (hs : (TX12 k).1 = RX12) (hf : (TX12 k).2.2.2 = false) (hd : parseFieldDescriptor (TX12 k).2.2.1 = some .int) (d : decode cc pc = .ok (.putfield i, 3)) (kk : JJ p l e R s m args below meth c n (mW g s) Q (pc + 3) lv rest (pI S k v) cells slots) : JJ p l e R s m args below meth c n (mW g s) Q pc lv (.int v :: .ref (mo g) :: rest) S cells slots := by
  intro H locs ls hl hw
  refine hb_put C.1 C.2.1 (gw_hts C) mI_G tyX12 tyX12_ok nmX12 C.2.2.2.2.2.1 K hw.1.1 rfl k hk (C.2.2.2.2.2.2.2 _ hl0 rfl) (fun x h => by rw [hs] at h; exact h) hf hd rfl rfl (by rw [mObj_len]; exact hk) d (fun H1 sl h1 h2 h3 => ?_)
  rw [mObj_setI g S ht] at h1
  exact kk H1 _ ls hl ⟨mAt_putO G hw.1 h1 rfl h3, mS_put hw.2.1 h2 h3 (Or.inl rfl), h2.trans hw.2.2⟩
theorem jm_putJ (C : CC p s m args meth c y cc n r) (K : mK g s) (G : mSep g) (k : Nat) {i : Nat} {v : Int64} (hk : k < 46) (ht : mty k = 1) (hl0 : Cond.fieldLink y.cls i RX12 (TX12 k).2.1 (TX12 k).2.2.1 ∈ lw_tbl) (hs : (TX12 k).1 = RX12) (hf : (TX12 k).2.2.2 = false) (hd : parseFieldDescriptor (TX12 k).2.2.1 = some .long) (d : decode cc pc = .ok (.putfield i, 3)) (kk : JJ p l e R s m args below meth c n (mW g s) Q (pc + 3) lv rest (pJ S k v) cells slots) : JJ p l e R s m args below meth c n (mW g s) Q pc lv (.long v :: .ref (mo g) :: rest) S cells slots := by
  intro H locs ls hl hw
  refine hb_put C.1 C.2.1 (gw_hts C) mI_G tyX12 tyX12_ok nmX12 C.2.2.2.2.2.1 K hw.1.1 rfl k hk (C.2.2.2.2.2.2.2 _ hl0 rfl) (fun x h => by rw [hs] at h; exact h) hf hd rfl rfl (by rw [mObj_len]; exact hk) d (fun H1 sl h1 h2 h3 => ?_)
  rw [mObj_setJ g S ht] at h1
  exact kk H1 _ ls hl ⟨mAt_putO G hw.1 h1 rfl h3, mS_put hw.2.1 h2 h3 (Or.inl rfl), h2.trans hw.2.2⟩
theorem mlA_of {k : Nat} {i : Int32} (h : inb i (mlA k) = true) : mty k = 2 ∧ vp_in i (mlen k) := by
  have h1 := inb_in h
  unfold mlA at h1
  by_cases e : mty k = 2
  · rw [if_pos e] at h1; exact ⟨e, h1⟩
  · rw [if_neg e] at h1; exact absurd (vp_in_iff.mp h1) (by omega)
theorem mlB_of {k : Nat} {i : Int32} (h : inb i (mlB k) = true) : mty k = 3 ∧ vp_in i (mlen k) := by
  have h1 := inb_in h
  unfold mlB at h1
  by_cases e : mty k = 3
  · rw [if_pos e] at h1; exact ⟨e, h1⟩
  · rw [if_neg e] at h1; exact absurd (vp_in_iff.mp h1) (by omega)
theorem jm_iald (C : CC p s m args meth c y cc n r) (K : mK g s) {k : Nat} {i : Int32} (h : inb i (mlA k) = true) (d : decode cc pc = .ok (.iaload, 1)) (kk : JJ p l e R s m args below meth c n (mW g s) Q (pc + 1) lv (.int (gA S k (ix i)) :: rest) S cells slots) : JJ p l e R s m args below meth c n (mW g s) Q pc lv (.int i :: .ref (mad g k) :: rest) S cells slots := by
  intro H locs ls hl hw
  obtain ⟨h1, h2⟩ := mlA_of h
  exact hb_iald C.1 C.2.1 K 0 (hw.1.2.1 k h1) rfl h2 d (kk H locs ls hl hw)
theorem jm_lald (C : CC p s m args meth c y cc n r) (K : mK g s) {k : Nat} {i : Int32} (h : inb i (mlB k) = true) (d : decode cc pc = .ok (.laload, 1)) (kk : JJ p l e R s m args below meth c n (mW g s) Q (pc + 1) lv (.long (gB S k (ix i)) :: rest) S cells slots) : JJ p l e R s m args below meth c n (mW g s) Q pc lv (.int i :: .ref (mad g k) :: rest) S cells slots := by
  intro H locs ls hl hw
  obtain ⟨h1, h2⟩ := mlB_of h
  exact hb_lald C.1 C.2.1 K 1 (hw.1.2.2 k h1) rfl h2 d (kk H locs ls hl hw)
theorem jm_iast (C : CC p s m args meth c y cc n r) (K : mK g s) (G : mSep g) {k : Nat} {i v : Int32} (h : inb i (mlA k) = true) (d : decode cc pc = .ok (.iastore, 1)) (kk : JJ p l e R s m args below meth c n (mW g s) Q (pc + 1) lv rest (pA S k (ix i) v) cells slots) : JJ p l e R s m args below meth c n (mW g s) Q pc lv (.int v :: .int i :: .ref (mad g k) :: rest) S cells slots := by
  intro H locs ls hl hw
  obtain ⟨h1, h2⟩ := mlA_of h
  exact hb_iast C.1 C.2.1 K 0 (hw.1.2.1 k h1) rfl h2 d (fun H1 sl q1 q2 q3 => kk H1 _ ls hl ⟨mAt_putA G hw.1 h1 q1 q3, mS_put hw.2.1 q2 q3 (Or.inr ⟨k, by omega, rfl⟩), q2.trans hw.2.2⟩)
theorem jm_last (C : CC p s m args meth c y cc n r) (K : mK g s) (G : mSep g) {k : Nat} {i : Int32} {v : Int64} (h : inb i (mlB k) = true) (d : decode cc pc = .ok (.lastore, 1)) (kk : JJ p l e R s m args below meth c n (mW g s) Q (pc + 1) lv rest (pB S k (ix i) v) cells slots) : JJ p l e R s m args below meth c n (mW g s) Q pc lv (.long v :: .int i :: .ref (mad g k) :: rest) S cells slots := by
  intro H locs ls hl hw
  obtain ⟨h1, h2⟩ := mlB_of h
  exact hb_last C.1 C.2.1 K 1 (hw.1.2.2 k h1) rfl h2 d (fun H1 sl q1 q2 q3 => kk H1 _ ls hl ⟨mAt_putB G hw.1 h1 q1 q3, mS_put hw.2.1 q2 q3 (Or.inr ⟨k, by omega, rfl⟩), q2.trans hw.2.2⟩)
/-- what a call of an instance's own method asks of the tables -/
def ok_v (y : MethodName) (cc : ByteArray) (n : Nat) (r : Option FieldType) (a : Nat) : Prop := Cond.code y cc n r ∈ lw_tbl ∧ Cond.instanceMethod y ∈ lw_tbl ∧ Cond.selects y.cls y y ∈ lw_tbl ∧ Cond.initialized y.cls ∈ lw_tbl ∧ (y.cls ≠ "java/lang/invoke/MethodHandle" ∧ y.cls ≠ "java/lang/invoke/VarHandle" ∧ (parseMethodDescriptor y.desc).map (fun d => d.parameters.length) = some a)
theorem gw_in2 {y2 : MethodName} {cc2 : ByteArray} {n2 : Nat} {r2 : Option FieldType} (h : Cond.code y2 cc2 n2 r2 ∈ lw_tbl) : GoodIn gw_G (.code y2 cc2 n2 r2 :: gw_G) := fun w hw => by
  rcases List.mem_cons.mp hw with rfl | h2
  · exact ⟨gw_in h rfl, Or.inl rfl⟩
  · exact ⟨h2, good_of_word (gw_good h2)⟩
theorem m_recv {H : Heap} (K : mK g s) (h : mAt g S H) : ∃ cellB : Cell, H[mo g]? = some cellB ∧ cellB.vm.isStatics = false ∧ s.vm.findClass RX12 = some cellB.cls := va_recv K (hb_P h.1) (ci := 0) (q0 := 0) rfl rfl
theorem jm_call {y2 : MethodName} {cc2 : ByteArray} {n2 k2 i a : Nat} {r2 : Option FieldType} {As : List Value} {v2 : Option Value} {S2 : MS} {st : List Value} (C : CC p s m args meth c y cc n r) (K : mK g s) (G : mSep g)
    (hM : mC l y2 cc2 n2 r2 k2 g (.ref (mo g) :: As) S v2 S2) (ho : ok_v y2 cc2 n2 r2 a) (hy2 : y2.cls = RX12) (hl : Cond.methodLink y.cls i y2 ∈ lw_tbl) (ha : As.length = a) (hR : k2 + 1 ≤ R.frames ∧ 8 + (n2 + 11) + 48 * k2 ≤ R.locals) (hst : st = As.reverse ++ .ref (mo g) :: rest) (hW : (rest.map fun v => v.category).sum ≤ 8) (hc : cells ≤ R.cells ∧ slots ≤ R.slots) (d : decode cc pc = .ok (.invokevirtual i, 3))
    (kk : JJ p l e R s m args below meth c n (mW g s) Q (pc + 3) lv (v2.toList ++ rest) S2 cells slots) : JJ p l e R s m args below meth c n (mW g s) Q pc lv st S cells slots := by
  intro H locs ls hls hw
  subst hst
  have hi := C.2.2.2.2.2.2.2
  have hb := callB_of (y := y2) (own := y.cls) (index := i) (R := R) (rm := pu_r k2) (mc := 0) (ms := 0) a (gw_hts C) (gw_in2 ho.1) rfl rfl rfl (hi _ ho.2.2.2.1 rfl) (hi _ hl rfl) ho.2.2.2.2 hR
  have hr := W.runV (g := F0 m pc ls (As.reverse ++ .ref (mo g) :: rest)) (C := RX12) (R := R) (H := H) (locs := locs) (cells := cells) (slots := slots) (e := e) (below := below) (meth := meth) (b := mo g) (As := As) (rest := rest) ⟨C.1, C.2.1, rfl, C.2.2.2.2.2.1, gw_hts C⟩ hM ⟨hb, hi _ ho.2.1 rfl, by have := hi _ ho.2.2.1 rfl; rw [hy2] at this; exact this⟩ ⟨mC_blind, m_recv K hw.1, fun U hU hWm => ⟨rfl, va_K.moved hWm.alike K, by rw [hU]; exact hw.1⟩⟩ rfl ha (by show ls.size = _; rw [C.2.2.1]; exact hls.1) rfl (lv_room hW) d hc
  intro T hT X
  obtain ⟨v, st₀, t, T', L, h0, X', hL, e1, ⟨hv, hK2, hA2, hF, hsz⟩, st⟩ := hr T hT X
  cases hv
  have hS2 : va_S (mA g) s.heap t.heap (locs ++ L) := by
    refine ⟨Nat.le_trans hw.2.1.1 (by rw [← h0]; exact hF.1), fun q h1 h2 => ?_, fun q hq => ?_⟩
    · rw [← hw.2.1.2.1 q h1 h2, ← h0]
      exact hF.2 q (by rw [h0]; exact Nat.lt_of_lt_of_le h1 hw.2.1.1) h2
    · rcases List.mem_append.mp hq with h | h
      · exact hw.2.1.2.2 q h
      · exact hL q h
  obtain ⟨t2, a1, b1⟩ := kk t.heap (locs ++ L) ls hls ⟨hA2, hS2, by rw [hsz, h0]; exact hw.2.2⟩ T' e1 X'
  exact ⟨t2, st t2 a1, b1⟩
end JM
theorem jr_dup2_11 {σ : Type} {p : Program} {l : Launch} {e : Env} {R : Room} {s : State} {m : MethodId} {args : Array Value} {below : List Frame} {meth : Method} {c : Code} {y : MethodName} {cc : ByteArray} {n : Nat} {r : Option FieldType} {Wd : σ → Heap → List Loc → Prop} {Q : State → Prop} {pc : Nat} {lv : List (Nat × Value)} {rest : List Value} {w : σ} {cells slots : Nat} (C : CC p s m args meth c y cc n r) {va vb : Value} (d : decode cc pc = .ok (.dup2, 1)) (h1 : va.category = 1) (h2 : vb.category = 1) (kk : JJ p l e R s m args below meth c n Wd Q (pc + 1) lv (va :: vb :: va :: vb :: rest) w cells slots) : JJ p l e R s m args below meth c n Wd Q pc lv (va :: vb :: rest) w cells slots := fun H locs ls hl hw => lv_dup2_11 C.1 C.2.1 d h1 h2 (kk H locs ls hl hw)
