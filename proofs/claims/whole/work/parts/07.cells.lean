/-! cells one by one: what a write does to the heap -/
section HB
variable {p : Program} {l : Launch} {e : Env} {R : Room} {s : State} {m : MethodId} {args : Array Value} {below : List Frame} {meth : Method} {c : Code} {H : Heap} {locs : List Loc} {cells slots : Nat} {Q : State → Prop}
variable {cc : ByteArray} {pc : Nat} {ls : Array Slot} {rest : List Value} {D : va_G} {cl : List vw_C} {a : Nat} {tys : List (ClassId × FieldType)}
theorem hb_P {q : Nat × va_E} (h : va_at D cl q H) : va_P D cl [q] H := fun k r hk => by
  cases k with
  | zero => cases hk; exact h
  | succ k => simp at hk
theorem hb_get (hexec : p.tables.exec = Jvm.exec) (hb : c.code = cc) {own ref C : String} {T : u_T} {N ci index : Nat} {Ts : List Cond} (hts : ∀ w ∈ Ts, w.before args s = true) (hin : ∀ w ∈ u_ws C T N, w ∈ Ts) (hown : s.vm.findClass own = some m.cls) (hK : va_K D cl tys s) {fs : List Value} (hP : va_at D cl (a, .inr (ci, fs)) H) (hc : cl[ci]? = some (C, T, N)) (k : Nat) (hk : k < N) (hlink : (Cond.fieldLink own index ref (T k).2.1 (T k).2.2.1).before args s = true) (hsame : ∀ x, s.fieldFound? (T k).1 (T k).2.1 (T k).2.2.1 = some x → s.fieldFound? ref (T k).2.1 (T k).2.2.1 = some x) {v : Value} (hv : fs[k]? = some v) (hdg : decode cc pc = .ok (.getfield index, 3))
    (kk : W p l e R s m args below meth c H locs cells slots Q (F0 m (pc + 3) ls (v :: rest))) : W p l e R s m args below meth c H locs cells slots Q (F0 m pc ls (.ref a :: rest)) :=
  va_get hexec hb hts hin hown hK (hb_P hP) 0 rfl hc k hk hlink hsame hv hdg kk
theorem hb_put (hexec : p.tables.exec = Jvm.exec) (hb : c.code = cc) {own ref C : String} {T : u_T} {N ci index : Nat} {Ts : List Cond} (hts : ∀ w ∈ Ts, w.before args s = true) (hin : ∀ w ∈ u_ws C T N, w ∈ Ts) (ty0 : Nat → FieldType) (hty : ∀ k, k < N → parseFieldDescriptor (T k).2.2.1 = some (ty0 k)) (hnm : ∀ a, a < N → ∀ b, b < N → a ≠ b → (T a).2.1 ≠ (T b).2.1) (hown : s.vm.findClass own = some m.cls) (hK : va_K D cl tys s) {fs : List Value} (hP : va_at D cl (a, .inr (ci, fs)) H) (hc : cl[ci]? = some (C, T, N)) (k : Nat) (hk : k < N) (hlink : (Cond.fieldLink own index ref (T k).2.1 (T k).2.2.1).before args s = true) (hsame : ∀ x, s.fieldFound? (T k).1 (T k).2.1 (T k).2.2.1 = some x → s.fieldFound? ref (T k).2.1 (T k).2.2.1 = some x) (hfin : (T k).2.2.2 = false) {ty : FieldType} {v : Value} (hd : parseFieldDescriptor (T k).2.2.1 = some ty) (hn : narrow ty v = v) (hfit : fits ty v = true) (hl : k < fs.length)
    (hdg : decode cc pc = .ok (.putfield index, 3)) (kk : ∀ (H1 : Heap) (sl : Nat), va_at D cl (a, .inr (ci, fs.set k v)) H1 → H1.size = H.size → (∀ q, q ≠ a → H1[q]? = H[q]?) → W p l e R s m args below meth c H1 (locs ++ [⟨a, sl⟩]) cells slots Q (F0 m (pc + 3) ls rest)) : W p l e R s m args below meth c H locs cells slots Q (F0 m pc ls (v :: .ref a :: rest)) := by
  have hap := va_apart (own := own) hts hin ty0 hty hnm hK hc
  obtain ⟨r, h1, cell, q1, q2, q3, q4⟩ := hP
  have hr : r = (C, T, N) := Option.some.inj (h1.symm.trans hc)
  subst hr
  obtain ⟨hS, hfc, kC, hkC, hkind⟩ := hK.1 ci _ hc
  obtain ⟨cf, kf, fi, f, hi, hsl⟩ := hS k hk
  have hlay := hts _ (hin _ (u_in_lay hk))
  unfold u_lay at hlay
  rw [if_neg (by rw [hfin]; decide)] at hlay
  have hst := (u_facts hfc hkC (u_lays hts hin hk) hi).1
  have h6 := u_store hfc hkC hkind hlay hi hd hn hfit
  refine W.putK hexec hb (f := f) ⟨hown, hlink, ⟨_, _, _, hsame _ hi⟩, hst⟩ (by rw [q2]; exact h6) q1 q3 (by rw [hsl]; exact k2_hasslot (q4 k hk)) rfl rfl hdg fun H' e1 e2 e3 => ?_
  rw [hsl] at e1 ⊢
  exact kk H' _ ⟨_, hc, t_OB.to (V := updV (vp_V fs) k v) ⟨_, e1, q2, q3, t_set q4 hap hk v⟩ (fun j _ => vp_updV_set hl v j)⟩ e2 e3
theorem hb_iald (hexec : p.tables.exec = Jvm.exec) (hb : c.code = cc) (hK : va_K D cl tys s) (t0 : Nat) {cA : ClassId} {n : Nat} {f : Nat → Int32} (ha : va_at D cl (a, .inl (cA, n, .inl f)) H) (ht : tys[t0]? = some (cA, .int)) {i : Int32} (hin : vp_in i n) (hdg : decode cc pc = .ok (.iaload, 1))
    (kk : W p l e R s m args below meth c H locs cells slots Q (F0 m (pc + 1) ls (.int (f i.toNatClampNeg) :: rest))) : W p l e R s m args below meth c H locs cells slots Q (F0 m pc ls (.int i :: .ref a :: rest)) :=
  va_iald hexec hb hK (hb_P ha) 0 t0 rfl ht hin hdg kk
theorem hb_lald (hexec : p.tables.exec = Jvm.exec) (hb : c.code = cc) (hK : va_K D cl tys s) (t0 : Nat) {cA : ClassId} {n : Nat} {f : Nat → Int64} (ha : va_at D cl (a, .inl (cA, n, .inr (.inl f))) H) (ht : tys[t0]? = some (cA, .long)) {i : Int32} (hin : vp_in i n) (hdg : decode cc pc = .ok (.laload, 1))
    (kk : W p l e R s m args below meth c H locs cells slots Q (F0 m (pc + 1) ls (.long (f i.toNatClampNeg) :: rest))) : W p l e R s m args below meth c H locs cells slots Q (F0 m pc ls (.int i :: .ref a :: rest)) :=
  va_lald hexec hb hK (hb_P ha) 0 t0 rfl ht hin hdg kk
theorem hb_iast (hexec : p.tables.exec = Jvm.exec) (hb : c.code = cc) (hK : va_K D cl tys s) (t0 : Nat) {cA : ClassId} {n : Nat} {f : Nat → Int32} (ha : va_at D cl (a, .inl (cA, n, .inl f)) H) (ht : tys[t0]? = some (cA, .int)) {i x : Int32} (hin : vp_in i n) (hdg : decode cc pc = .ok (.iastore, 1))
    (kk : ∀ (H1 : Heap) (sl : Nat), va_at D cl (a, .inl (cA, n, .inl (va_up f i.toNatClampNeg x))) H1 → H1.size = H.size → (∀ q, q ≠ a → H1[q]? = H[q]?) → W p l e R s m args below meth c H1 (locs ++ [⟨a, sl⟩]) cells slots Q (F0 m (pc + 1) ls rest)) : W p l e R s m args below meth c H locs cells slots Q (F0 m pc ls (.int x :: .int i :: .ref a :: rest)) := by
  refine W.iast hexec hb ha ((hK.2 t0 _ ht).1 n (fun j => .int (f j))) (fun q => by cases q) (by show ¬ (i < 0 ∨ (arrV _ _ _).slots.size ≤ _); rw [arrV_size]; exact hin) rfl rfl hdg fun H1 e z oq => ?_
  refine kk H1 _ ?_ z oq
  show H1[a]? = some (vp_cell _ _)
  rw [e]
  rw [vp_cell_i, vp_cell_i, arrV_store]
  congr 2
  funext q
  by_cases hq : q = i.toNatClampNeg
  · subst hq
    simp [updV, va_up]
  · simp [updV, va_up, hq]
theorem hb_last (hexec : p.tables.exec = Jvm.exec) (hb : c.code = cc) (hK : va_K D cl tys s) (t0 : Nat) {cA : ClassId} {n : Nat} {f : Nat → Int64} (ha : va_at D cl (a, .inl (cA, n, .inr (.inl f))) H) (ht : tys[t0]? = some (cA, .long)) {i : Int32} {x : Int64} (hin : vp_in i n) (hdg : decode cc pc = .ok (.lastore, 1))
    (kk : ∀ (H1 : Heap) (sl : Nat), va_at D cl (a, .inl (cA, n, .inr (.inl (va_up f i.toNatClampNeg x)))) H1 → H1.size = H.size → (∀ q, q ≠ a → H1[q]? = H[q]?) → W p l e R s m args below meth c H1 (locs ++ [⟨a, sl⟩]) cells slots Q (F0 m (pc + 1) ls rest)) : W p l e R s m args below meth c H locs cells slots Q (F0 m pc ls (.long x :: .int i :: .ref a :: rest)) := by
  refine W.last hexec hb ha ((hK.2 t0 _ ht).1 n (fun j => .long (f j))) (fun q => by cases q) (by show ¬ (i < 0 ∨ (arrV _ _ _).slots.size ≤ _); rw [arrV_size]; exact hin) rfl rfl hdg fun H1 e z oq => ?_
  refine kk H1 _ ?_ z oq
  show H1[a]? = some (vp_cell _ _)
  rw [e]
  rw [vp_cell_l, vp_cell_l, arrV_store]
  congr 2
  funext q
  by_cases hq : q = i.toNatClampNeg
  · subst hq
    simp [updV, va_up]
  · simp [updV, va_up, hq]
end HB
/-! struct states: scalars and arrays by the numbers of their fields -/
abbrev MS : Type := (Nat → Int32) × (Nat → Int64) × (Nat → Nat → Int32) × (Nat → Nat → Int64)
def gI (S : MS) (k : Nat) : Int32 := S.1 k
def gJ (S : MS) (k : Nat) : Int64 := S.2.1 k
def gA (S : MS) (k j : Nat) : Int32 := S.2.2.1 k j
def gB (S : MS) (k j : Nat) : Int64 := S.2.2.2 k j
def pI (S : MS) (k : Nat) (v : Int32) : MS := (va_up S.1 k v, S.2.1, S.2.2.1, S.2.2.2)
def pJ (S : MS) (k : Nat) (v : Int64) : MS := (S.1, va_up S.2.1 k v, S.2.2.1, S.2.2.2)
def pA (S : MS) (k j : Nat) (v : Int32) : MS := (S.1, S.2.1, va_up S.2.2.1 k (va_up (S.2.2.1 k) j v), S.2.2.2)
def pB (S : MS) (k j : Nat) (v : Int64) : MS := (S.1, S.2.1, S.2.2.1, va_up S.2.2.2 k (va_up (S.2.2.2 k) j v))
def ix (i : Int32) : Nat := i.toNatClampNeg
def inb (i : Int32) (n : Nat) : Bool := decide (0 ≤ i.toInt ∧ i.toInt < (n : Int))
theorem inb_in {i : Int32} {n : Nat} (h : inb i n = true) : vp_in i n := vp_in_iff.mpr (of_decide_eq_true h)
theorem op_none {α : Type} {x : α} {c : Prop} (h : (none : Option α) = some x) : c := by cases h
/-! the reference's world -/
abbrev vwClM : List vw_C := [(RX12, TX12, 46)]
def mty (k : Nat) : Nat := ([0, 1, 1, 3, 3, 2, 2, 2, 2, 3, 0, 0, 3, 3, 3, 3, 2, 2, 2, 3, 2, 2, 2, 2, 2, 0, 3, 0, 2, 2, 2, 2, 2, 2, 2, 2, 3, 0, 0, 0, 0, 0, 0, 0, 0, 0] : List Nat).getD k 0
def mlen (k : Nat) : Nat := ([0, 0, 0, 16, 16, 16, 4001, 4001, 4001, 256000, 0, 0, 4001, 4001, 4001, 4001, 4001, 4001, 4001, 20005, 4001, 400, 400, 400, 400, 0, 200, 0, 40, 40, 40, 40, 40, 40, 40, 40, 40, 0, 0, 0, 0, 0, 0, 0, 0, 0] : List Nat).getD k 0
def mlA (k : Nat) : Nat := if mty k = 2 then mlen k else 0
def mlB (k : Nat) : Nat := if mty k = 3 then mlen k else 0
abbrev MG : Type := va_G × ClassId × ClassId × Nat × (Nat → Nat)
def mo (g : MG) : Nat := g.2.2.2.1
def mad (g : MG) (k : Nat) : Nat := g.2.2.2.2 k
def mF (g : MG) (S : MS) (k : Nat) : Value := if mty k = 0 then .int (gI S k) else if mty k = 1 then .long (gJ S k) else .ref (mad g k)
def mObj (g : MG) (S : MS) : List Value := (List.range 46).map (mF g S)
def mAt (g : MG) (S : MS) (H : Heap) : Prop := va_at g.1 vwClM (mo g, .inr (0, mObj g S)) H ∧ (∀ k, mty k = 2 → va_at g.1 vwClM (mad g k, .inl (g.2.1, mlen k, .inl (gA S k))) H) ∧ ∀ k, mty k = 3 → va_at g.1 vwClM (mad g k, .inl (g.2.2.1, mlen k, .inr (.inl (gB S k)))) H
def mSep (g : MG) : Prop := (∀ k, 2 ≤ mty k → mad g k ≠ mo g) ∧ ∀ k j, 2 ≤ mty k → 2 ≤ mty j → mad g k = mad g j → k = j
def mA (g : MG) (q : Nat) : Prop := q = mo g ∨ ∃ k, 2 ≤ mty k ∧ q = mad g k
def mK (g : MG) (U : State) : Prop := va_K g.1 vwClM [(g.2.1, .int), (g.2.2.1, .long)] U
def mW (g : MG) (s : State) (S : MS) (H : Heap) (locs : List Loc) : Prop := mAt g S H ∧ va_S (mA g) s.heap H locs ∧ H.size = s.heap.size
theorem mObj_at (g : MG) (S : MS) {k : Nat} (hk : k < 46) : (mObj g S)[k]? = some (mF g S k) := by
  simp [mObj, List.getElem?_map, hk]
theorem mObj_len (g : MG) (S : MS) : (mObj g S).length = 46 := by simp [mObj]
theorem mObj_setI (g : MG) (S : MS) {k : Nat} (h : mty k = 0) (v : Int32) : (mObj g S).set k (.int v) = mObj g (pI S k v) := by
  apply List.ext_getElem?
  intro j
  rw [List.getElem?_set]
  by_cases hj : j < 46
  · rw [mObj_at g (pI S k v) hj, mObj_len]
    by_cases e : k = j
    · subst e
      rw [if_pos rfl, if_pos hj]
      simp [mF, h, gI, pI, va_up]
    · rw [if_neg e, mObj_at g S hj]
      have e2 : ¬ j = k := fun q => e q.symm
      simp [mF, gI, gJ, pI, va_up, e2]
  · have h1 : (mObj g S)[j]? = none := List.getElem?_eq_none (by rw [mObj_len]; omega)
    have h2 : (mObj g (pI S k v))[j]? = none := List.getElem?_eq_none (by rw [mObj_len]; omega)
    rw [h1, h2, mObj_len]
    by_cases e : k = j
    · rw [if_pos e, if_neg (by omega)]
    · rw [if_neg e]
theorem mObj_setJ (g : MG) (S : MS) {k : Nat} (h : mty k = 1) (v : Int64) : (mObj g S).set k (.long v) = mObj g (pJ S k v) := by
  apply List.ext_getElem?
  intro j
  rw [List.getElem?_set]
  by_cases hj : j < 46
  · rw [mObj_at g (pJ S k v) hj, mObj_len]
    by_cases e : k = j
    · subst e
      rw [if_pos rfl, if_pos hj]
      simp [mF, h, gJ, pJ, va_up]
    · rw [if_neg e, mObj_at g S hj]
      have e2 : ¬ j = k := fun q => e q.symm
      simp [mF, gI, gJ, pJ, va_up, e2]
  · have h1 : (mObj g S)[j]? = none := List.getElem?_eq_none (by rw [mObj_len]; omega)
    have h2 : (mObj g (pJ S k v))[j]? = none := List.getElem?_eq_none (by rw [mObj_len]; omega)
    rw [h1, h2, mObj_len]
    by_cases e : k = j
    · rw [if_pos e, if_neg (by omega)]
    · rw [if_neg e]
theorem mAt_putO {g : MG} {S S' : MS} {H H1 : Heap} (hs : mSep g) (h : mAt g S H) (h1 : va_at g.1 vwClM (mo g, .inr (0, mObj g S')) H1) (eA : S'.2.2 = S.2.2) (ho : ∀ q, q ≠ mo g → H1[q]? = H[q]?) : mAt g S' H1 := by
  refine ⟨h1, fun k hk => ?_, fun k hk => ?_⟩
  · have := (h.2.1 k hk).kept (ho _ (hs.1 k (by omega)))
    rw [show gA S' k = gA S k by unfold gA; rw [eA]]
    exact this
  · have := (h.2.2 k hk).kept (ho _ (hs.1 k (by omega)))
    rw [show gB S' k = gB S k by unfold gB; rw [eA]]
    exact this
theorem mAt_putA {g : MG} {S : MS} {H H1 : Heap} {k j : Nat} {v : Int32} (hs : mSep g) (h : mAt g S H) (hk : mty k = 2) (h1 : va_at g.1 vwClM (mad g k, .inl (g.2.1, mlen k, .inl (va_up (gA S k) j v))) H1) (ho : ∀ q, q ≠ mad g k → H1[q]? = H[q]?) : mAt g (pA S k j v) H1 := by
  refine ⟨?_, fun i hi => ?_, fun i hi => ?_⟩
  · have := h.1.kept (ho _ (fun q => hs.1 k (by omega) q.symm))
    exact this
  · by_cases e : i = k
    · subst e
      have e2 : gA (pA S i j v) i = va_up (gA S i) j v := by funext z; simp [gA, pA, va_up]
      rw [e2]; exact h1
    · have := (h.2.1 i hi).kept (ho _ (fun q => e (hs.2 i k (by omega) (by omega) q)))
      have e2 : gA (pA S k j v) i = gA S i := by funext z; simp [gA, pA, va_up, e]
      rw [e2]; exact this
  · have e : i ≠ k := fun q => by rw [q] at hi; omega
    exact (h.2.2 i hi).kept (ho _ (fun q => e (hs.2 i k (by omega) (by omega) q)))
theorem mAt_putB {g : MG} {S : MS} {H H1 : Heap} {k j : Nat} {v : Int64} (hs : mSep g) (h : mAt g S H) (hk : mty k = 3) (h1 : va_at g.1 vwClM (mad g k, .inl (g.2.2.1, mlen k, .inr (.inl (va_up (gB S k) j v)))) H1) (ho : ∀ q, q ≠ mad g k → H1[q]? = H[q]?) : mAt g (pB S k j v) H1 := by
  refine ⟨?_, fun i hi => ?_, fun i hi => ?_⟩
  · have := h.1.kept (ho _ (fun q => hs.1 k (by omega) q.symm))
    exact this
  · have e : i ≠ k := fun q => by rw [q] at hi; omega
    exact (h.2.1 i hi).kept (ho _ (fun q => e (hs.2 i k (by omega) (by omega) q)))
  · by_cases e : i = k
    · subst e
      have e2 : gB (pB S i j v) i = va_up (gB S i) j v := by funext z; simp [gB, pB, va_up]
      rw [e2]; exact h1
    · have := (h.2.2 i hi).kept (ho _ (fun q => e (hs.2 i k (by omega) (by omega) q)))
      have e2 : gB (pB S k j v) i = gB S i := by funext z; simp [gB, pB, va_up, e]
      rw [e2]; exact this
theorem mS_put {g : MG} {s : State} {H H1 : Heap} {locs : List Loc} {a sl : Nat} (h : va_S (mA g) s.heap H locs) (z : H1.size = H.size) (ho : ∀ q, q ≠ a → H1[q]? = H[q]?) (ha : mA g a) : va_S (mA g) s.heap H1 (locs ++ [⟨a, sl⟩]) := h.put z ho ha
theorem mI_12 : ∀ w ∈ u_ws RX12 TX12 46, w ∈ lw_tbl := by decide +kernel
theorem mI_good : ∀ w ∈ u_ws RX12 TX12 46, goodWord w = true := by decide +kernel
theorem mI_G : ∀ w ∈ u_ws RX12 TX12 46, w ∈ gw_G := fun w h => gw_in (mI_12 w h) (mI_good w h)
