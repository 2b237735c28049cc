/-! the class's world: its own object and registers by the numbers of their fields, its things by their addresses -/
abbrev vwT : List vw_C := [(RX0, TX0, 3), (RX3, TX3, 6), (RX4, TX4, 5), (RX5, TX5, 2), (RX6, TX6, 3), (RX8, TX8, 4), (RX10, TX10, 3), (RX11, TX11, 16), (RX7, TX7, 3)]
abbrev TE : Type := vp_A ⊕ (Nat × List Value)
abbrev CS : Type := MS × (Nat → Option Nat) × List Nat × (Nat → TE) × Nat
def cSl (S : CS) : Nat → Option Nat := S.2.1
def cLs (S : CS) : List Nat := S.2.2.1
def cH (S : CS) : Nat → TE := S.2.2.2.1
def cSz (S : CS) : Nat := S.2.2.2.2
def cpI (S : CS) (k : Nat) (v : Int32) : CS := (pI S.1 k v, S.2)
def cpA (S : CS) (k j : Nat) (v : Int32) : CS := (pA S.1 k j v, S.2)
def cpB (S : CS) (k j : Nat) (v : Int64) : CS := (pB S.1 k j v, S.2)
def cpS (S : CS) (j : Nat) (x : Option Nat) : CS := (S.1, va_up S.2.1 j x, S.2.2)
def cpH (S : CS) (a : Nat) (e : TE) : CS := (S.1, S.2.1, S.2.2.1, va_up S.2.2.2.1 a e, S.2.2.2.2)
def cnew (S : CS) (e : TE) : CS := (S.1, S.2.1, S.2.2.1 ++ [S.2.2.2.2], va_up S.2.2.2.1 S.2.2.2.2 e, S.2.2.2.2 + 1)
def cty (k : Nat) : Nat := ([2, 2, 2, 2, 0, 5, 3, 0, 0, 0, 0, 0, 0, 0, 0, 0, 3, 3, 4] : List Nat).getD k 0
def clen (k : Nat) : Nat := ([400, 400, 400, 400, 0, 0, 200, 0, 0, 0, 0, 0, 0, 0, 0, 0, 16, 16, 16] : List Nat).getD k 0
def clA (k : Nat) : Nat := if cty k = 2 then clen k else 0
def clB (k : Nat) : Nat := if cty k = 3 then clen k else 0
abbrev CG : Type := va_G × ClassId × ClassId × ClassId × Nat × (Nat → Nat)
def co (g : CG) : Nat := g.2.2.2.2.1
def cad (g : CG) (k : Nat) : Nat := g.2.2.2.2.2 k
def cF (g : CG) (S : CS) (k : Nat) : Value := if cty k = 0 then .int (gI S.1 k) else .ref (cad g k)
def cObj (g : CG) (S : CS) : List Value := (List.range 16).map (cF g S)
def cReg (g : CG) : List Value := [.ref (cad g 16), .ref (cad g 17), .ref (cad g 18)]
def tE (g : CG) (x : TE) : va_E := match x with
  | .inl (n, .inl f) => .inl (g.2.1, n, .inl f)
  | .inl (n, .inr (.inl f)) => .inl (g.2.2.1, n, .inr (.inl f))
  | .inl a => .inl (g.2.2.2.1, a)
  | .inr o => .inr o
def cAt (g : CG) (S : CS) (H : Heap) : Prop := va_at g.1 vwT (co g, .inr (7, cObj g S)) H ∧ va_at g.1 vwT (cad g 5, .inr (8, cReg g)) H ∧ (∀ k, cty k = 2 → va_at g.1 vwT (cad g k, .inl (g.2.1, clen k, .inl (gA S.1 k))) H) ∧ (∀ k, cty k = 3 → va_at g.1 vwT (cad g k, .inl (g.2.2.1, clen k, .inr (.inl (gB S.1 k)))) H) ∧ va_at g.1 vwT (cad g 18, .inl (g.2.2.2.1, 16, .inr (.inr (.inr (.inr (cSl S)))))) H ∧ ∀ a ∈ cLs S, va_at g.1 vwT (a, tE g (cH S a)) H
def cSep (g : CG) : Prop := (∀ k, 2 ≤ cty k → cad g k ≠ co g) ∧ ∀ k j, 2 ≤ cty k → 2 ≤ cty j → cad g k = cad g j → k = j
def cSepL (g : CG) (S : CS) : Prop := ∀ a ∈ cLs S, a ≠ co g ∧ ∀ k, 2 ≤ cty k → a ≠ cad g k
def cA (g : CG) (S : CS) (q : Nat) : Prop := q = co g ∨ (∃ k, 2 ≤ cty k ∧ q = cad g k) ∨ q ∈ cLs S ∨ cSz S ≤ q
def isN : Cond → Bool
  | .castable .. => true
  | .methodLinkNest .. => true
  | .declares .. => true
  | .selects .. => true
  | _ => false
theorem isN_tab {w : Cond} (h : isN w = true) : w.onTables = true := by
  cases w <;> first | rfl | (simp [isN] at h)
theorem isN_warm {w : Cond} (h : isN w = true) {s U : State} (hW : s.WarmedH U.vm) (hz : va_Nw w s) : va_Nw w U := by
  cases w <;> first | exact va_Nw.warmC hW hz | exact va_Nw.warmM hW hz | exact va_Nw.warmD hW hz | exact word_at hW (Or.inl rfl) hz | (simp [isN] at h)
def ncL : List (String × String) := [(RX0, RX3), (RX0, RX4), (RX0, RX5), (RX0, RX8), (RX3, RX0), (RX3, RX1), (RX3, RX5), (RX3, RX8), (RX4, RX0), (RX4, RX1), (RX4, RX3), (RX4, RX5), (RX4, RX8), (RX5, RX0), (RX5, RX3), (RX5, RX4), (RX5, RX8), (RX6, RX3), (RX6, RX4), (RX6, RX5), (RX6, RX8), (RX8, RX0), (RX8, RX1), (RX8, RX3), (RX8, RX4), (RX8, RX5), (RX10, RX3), (RX10, RX4), (RX10, RX5), (RX10, RX8)]
/-- words that the tables give only in another form: a private method is selected on objects of subclasses too -/
def selX : List Cond := [.selects RX6 yX0_ticksFor yX0_ticksFor, .selects RX10 yX0_ticksFor yX0_ticksFor]
def nwT : List Cond := selX ++ lw_tbl
theorem nw_in {w : Cond} (h : w ∈ lw_tbl) : w ∈ nwT := List.mem_append_right _ h
def cK (g : CG) (U : State) : Prop := va_K g.1 vwT [(g.2.1, .int), (g.2.2.1, .long), (g.2.2.2.1, .object RX9)] U ∧ (∀ w ∈ nwT, isN w = true → va_Nw w U) ∧ (∀ q ∈ ncL, va_Nc q.1 q.2 U) ∧ va_AO RX9 U
theorem cK_warm {g : CG} {s U : State} (hW : s.WarmedH U.vm) (h : cK g s) : cK g U := ⟨va_K.moved hW.alike h.1, fun w hw hn => isN_warm hn hW (h.2.1 w hw hn), fun q hq => (h.2.2.1 q hq).moved hW.alike, va_AO.moved hW.alike h.2.2.2⟩
theorem cK_same {g : CG} {u U : State} (e : u.vm = U.vm) (h : cK g u) : cK g U := ⟨va_K.moved (e ▸ Vm.Alike.refl _) h.1, fun w hw hn => va_Nw.same (isN_tab hn) e (h.2.1 w hw hn), fun q hq => (h.2.2.1 q hq).moved (e ▸ Vm.Alike.refl _), va_AO.moved (e ▸ Vm.Alike.refl _) h.2.2.2⟩
def cW (g : CG) (s : State) (S0 S : CS) (H : Heap) (locs : List Loc) : Prop := cAt g S H ∧ cSepL g S ∧ H.size = cSz S ∧ va_S (cA g S0) s.heap H locs ∧ (∀ a ∈ cLs S, cA g S0 a) ∧ s.heap.size = cSz S0
def cC_P (g : CG) (As : List Value) (S : CS) : Array Value → State → Prop := fun a U => a = As.toArray ∧ cK g U ∧ cAt g S U.heap ∧ cSepL g S ∧ U.heap.size = cSz S
def cC_Q (g : CG) (v : Option Value) (S S' : CS) : Array Value → State → Outcome → State → Prop := fun _ st o t => o = .returned v ∧ cK g t ∧ cAt g S' t.heap ∧ cSepL g S' ∧ t.heap.size = cSz S' ∧ va_F (cA g S) st t ∧ ∀ a ∈ cLs S', cA g S a
abbrev cr_ (k mc ms : Nat) : Room := { frames := k, cells := mc, slots := ms, locals := 48 * k }
abbrev cC (l : Launch) (y : MethodName) (cc : ByteArray) (n : Nat) (r : Option FieldType) (k mc ms : Nat) (g : CG) (As : List Value) (S : CS) (v : Option Value) (S' : CS) : Prop := Met l y (.code y cc n r :: gw_G) (cr_ k mc ms) (cC_P g As S) (cC_Q g v S S') mc ms (cA g S)
abbrev CJ (p : Program) (l : Launch) (e : Env) (s : State) (m : MethodId) (args : Array Value) (below : List Frame) (meth : Method) (c : Code) (n k mc ms : Nat) (g : CG) (S0 : CS) (v : Option Value) (S' : CS) (pc : Nat) (lv : List (Nat × Value)) (st : List Value) (S : CS) (cells slots : Nat) : Prop := JJ p l e (cr_ k mc ms) s m args below meth c n (cW g s S0) (MQ below (cC_Q g v S0 S') args s mc ms (cA g S0)) pc lv st S cells slots
theorem cC_blind {g : CG} {As : List Value} {S : CS} : FrameBlind (cC_P g As S) := fun a U f mk q => ⟨q.1, cK_same (u := U) (U := U.calling f mk a) rfl q.2.1, q.2.2⟩
theorem cObj_at (g : CG) (S : CS) {k : Nat} (hk : k < 16) : (cObj g S)[k]? = some (cF g S k) := by
  simp [cObj, List.getElem?_map, hk]
theorem cObj_len (g : CG) (S : CS) : (cObj g S).length = 16 := by simp [cObj]
theorem cObj_setI (g : CG) (S : CS) {k : Nat} (h : cty k = 0) (v : Int32) : (cObj g S).set k (.int v) = cObj g (cpI S k v) := by
  apply List.ext_getElem?
  intro j
  rw [List.getElem?_set]
  by_cases hj : j < 16
  · rw [cObj_at g (cpI S k v) hj, cObj_len]
    by_cases e : k = j
    · subst e
      rw [if_pos rfl, if_pos hj]
      simp [cF, h, gI, cpI, pI, va_up]
    · rw [if_neg e, cObj_at g S hj]
      have e2 : ¬ j = k := fun q => e q.symm
      simp [cF, gI, cpI, pI, va_up, e2]
  · have h1 : (cObj g S)[j]? = none := List.getElem?_eq_none (by rw [cObj_len]; omega)
    have h2 : (cObj g (cpI S k v))[j]? = none := List.getElem?_eq_none (by rw [cObj_len]; omega)
    rw [h1, h2, cObj_len]
    by_cases e : k = j
    · rw [if_pos e, if_neg (by omega)]
    · rw [if_neg e]
theorem cty_18 : cty 18 = 4 := rfl
theorem cty_5 : cty 5 = 5 := rfl
theorem cAt_putI {g : CG} {S : CS} {H H1 : Heap} {k : Nat} {v : Int32} (G : cSep g) (L : cSepL g S) (h : cAt g S H) (h1 : va_at g.1 vwT (co g, .inr (7, cObj g (cpI S k v))) H1) (ho : ∀ q, q ≠ co g → H1[q]? = H[q]?) : cAt g (cpI S k v) H1 :=
  ⟨h1, h.2.1.kept (ho _ (G.1 5 (by decide))), fun j hj => (h.2.2.1 j hj).kept (ho _ (G.1 j (by omega))), fun j hj => (h.2.2.2.1 j hj).kept (ho _ (G.1 j (by omega))), h.2.2.2.2.1.kept (ho _ (G.1 18 (by decide))), fun a ha => (h.2.2.2.2.2 a ha).kept (ho _ (L a ha).1)⟩
theorem cAt_putA {g : CG} {S : CS} {H H1 : Heap} {k j : Nat} {v : Int32} (G : cSep g) (L : cSepL g S) (h : cAt g S H) (hk : cty k = 2) (h1 : va_at g.1 vwT (cad g k, .inl (g.2.1, clen k, .inl (va_up (gA S.1 k) j v))) H1) (ho : ∀ q, q ≠ cad g k → H1[q]? = H[q]?) : cAt g (cpA S k j v) H1 := by
  refine ⟨h.1.kept (ho _ (fun q => G.1 k (by omega) q.symm)), h.2.1.kept (ho _ (fun q => ?_)), fun i hi => ?_, fun i hi => ?_, h.2.2.2.2.1.kept (ho _ (fun q => ?_)), fun a ha => (h.2.2.2.2.2 a ha).kept (ho _ ((L a ha).2 k (by omega)))⟩
  · have := G.2 5 k (by decide) (by omega) q; rw [← this] at hk; exact absurd hk (by decide)
  · by_cases e : i = k
    · subst e
      have e2 : gA (cpA S i j v).1 i = va_up (gA S.1 i) j v := by funext z; simp [gA, cpA, pA, va_up]
      rw [e2]; exact h1
    · have := (h.2.2.1 i hi).kept (ho _ (fun q => e (G.2 i k (by omega) (by omega) q)))
      have e2 : gA (cpA S k j v).1 i = gA S.1 i := by funext z; simp [gA, cpA, pA, va_up, e]
      rw [e2]; exact this
  · have e : i ≠ k := fun q => by rw [q] at hi; omega
    exact (h.2.2.2.1 i hi).kept (ho _ (fun q => e (G.2 i k (by omega) (by omega) q)))
  · have := G.2 18 k (by decide) (by omega) q; rw [← this] at hk; exact absurd hk (by decide)
theorem cAt_putB {g : CG} {S : CS} {H H1 : Heap} {k j : Nat} {v : Int64} (G : cSep g) (L : cSepL g S) (h : cAt g S H) (hk : cty k = 3) (h1 : va_at g.1 vwT (cad g k, .inl (g.2.2.1, clen k, .inr (.inl (va_up (gB S.1 k) j v)))) H1) (ho : ∀ q, q ≠ cad g k → H1[q]? = H[q]?) : cAt g (cpB S k j v) H1 := by
  refine ⟨h.1.kept (ho _ (fun q => G.1 k (by omega) q.symm)), h.2.1.kept (ho _ (fun q => ?_)), fun i hi => ?_, fun i hi => ?_, h.2.2.2.2.1.kept (ho _ (fun q => ?_)), fun a ha => (h.2.2.2.2.2 a ha).kept (ho _ ((L a ha).2 k (by omega)))⟩
  · have := G.2 5 k (by decide) (by omega) q; rw [← this] at hk; exact absurd hk (by decide)
  · have e : i ≠ k := fun q => by rw [q] at hi; omega
    exact (h.2.2.1 i hi).kept (ho _ (fun q => e (G.2 i k (by omega) (by omega) q)))
  · by_cases e : i = k
    · subst e
      have e2 : gB (cpB S i j v).1 i = va_up (gB S.1 i) j v := by funext z; simp [gB, cpB, pB, va_up]
      rw [e2]; exact h1
    · have := (h.2.2.2.1 i hi).kept (ho _ (fun q => e (G.2 i k (by omega) (by omega) q)))
      have e2 : gB (cpB S k j v).1 i = gB S.1 i := by funext z; simp [gB, cpB, pB, va_up, e]
      rw [e2]; exact this
  · have := G.2 18 k (by decide) (by omega) q; rw [← this] at hk; exact absurd hk (by decide)
theorem cAt_putS {g : CG} {S : CS} {H H1 : Heap} {j : Nat} {x : Option Nat} (G : cSep g) (L : cSepL g S) (h : cAt g S H) (h1 : va_at g.1 vwT (cad g 18, .inl (g.2.2.2.1, 16, .inr (.inr (.inr (.inr (va_up (cSl S) j x)))))) H1) (ho : ∀ q, q ≠ cad g 18 → H1[q]? = H[q]?) : cAt g (cpS S j x) H1 := by
  refine ⟨h.1.kept (ho _ (fun q => G.1 18 (by decide) q.symm)), h.2.1.kept (ho _ (fun q => ?_)), fun i hi => (h.2.2.1 i hi).kept (ho _ (fun q => ?_)), fun i hi => (h.2.2.2.1 i hi).kept (ho _ (fun q => ?_)), h1, fun a ha => (h.2.2.2.2.2 a ha).kept (ho _ ((L a ha).2 18 (by decide)))⟩
  · exact absurd (G.2 5 18 (by decide) (by decide) q) (by decide)
  · have := G.2 i 18 (by omega) (by decide) q; rw [this] at hi; exact absurd hi (by decide)
  · have := G.2 i 18 (by omega) (by decide) q; rw [this] at hi; exact absurd hi (by decide)
theorem cAt_putH {g : CG} {S : CS} {H H1 : Heap} {a : Nat} {e : TE} (L : cSepL g S) (h : cAt g S H) (ha : a ∈ cLs S) (h1 : va_at g.1 vwT (a, tE g e) H1) (ho : ∀ q, q ≠ a → H1[q]? = H[q]?) : cAt g (cpH S a e) H1 := by
  refine ⟨h.1.kept (ho _ (fun q => (L a ha).1 q.symm)), h.2.1.kept (ho _ (fun q => (L a ha).2 5 (by decide) q.symm)), fun i hi => (h.2.2.1 i hi).kept (ho _ (fun q => (L a ha).2 i (by omega) q.symm)), fun i hi => (h.2.2.2.1 i hi).kept (ho _ (fun q => (L a ha).2 i (by omega) q.symm)), h.2.2.2.2.1.kept (ho _ (fun q => (L a ha).2 18 (by decide) q.symm)), fun b hb => ?_⟩
  by_cases eb : b = a
  · subst eb
    have : cH (cpH S b e) b = e := by simp [cH, cpH, va_up]
    rw [this]; exact h1
  · have : cH (cpH S a e) b = cH S b := by simp [cH, cpH, va_up, eb]
    rw [this]; exact (h.2.2.2.2.2 b hb).kept (ho _ eb)
theorem va_at_lt {D : va_G} {cl : List vw_C} {q : Nat × va_E} {H : Heap} (h : va_at D cl q H) : q.1 < H.size := h.lt
theorem cAt_new {g : CG} {S : CS} {H H1 : Heap} {e : TE} (h : cAt g S H) (hz : H.size = cSz S) (h1 : va_at g.1 vwT (cSz S, tE g e) H1) (ho : ∀ q, q < cSz S → H1[q]? = H[q]?) : cAt g (cnew S e) H1 := by
  have lt : ∀ q : Nat × va_E, va_at g.1 vwT q H → va_at g.1 vwT q H1 := fun q hq => hq.kept (ho _ (by rw [← hz]; exact hq.lt))
  refine ⟨lt _ h.1, lt _ h.2.1, fun i hi => lt _ (h.2.2.1 i hi), fun i hi => lt _ (h.2.2.2.1 i hi), lt _ h.2.2.2.2.1, fun b hb => ?_⟩
  rcases List.mem_append.mp hb with hb | hb
  · have hne : b ≠ cSz S := fun q => by have := (h.2.2.2.2.2 b hb).lt; rw [hz] at this; simp only at this; omega
    have : cH (cnew S e) b = cH S b := if_neg hne
    rw [this]; exact lt _ (h.2.2.2.2.2 b hb)
  · have hb : b = cSz S := List.mem_singleton.mp hb
    subst hb
    have : cH (cnew S e) (cSz S) = e := by simp [cH, cnew, va_up, cSz]
    rw [this]; exact h1
theorem cSepL_new {g : CG} {S : CS} {H : Heap} {e : TE} (L : cSepL g S) (h : cAt g S H) (hz : H.size = cSz S) : cSepL g (cnew S e) := by
  intro b hb
  rcases List.mem_append.mp hb with hb | hb
  · exact L b hb
  · have hb : b = cSz S := List.mem_singleton.mp hb
    subst hb
    have o1 := h.1.lt
    simp only [hz] at o1
    refine ⟨fun q => by omega, fun k hk q => ?_⟩
    have k1 : k < 19 := by
      by_cases hh : k < 19
      · exact hh
      · exfalso
        have : cty k = 0 := by unfold cty; rw [List.getD_eq_getElem?_getD, List.getElem?_eq_none (by simp; omega)]; rfl
        omega
    have two : cty k = 2 ∨ cty k = 3 ∨ k = 5 ∨ k = 18 := by
      have : ∀ k, k < 19 → 2 ≤ cty k → cty k = 2 ∨ cty k = 3 ∨ k = 5 ∨ k = 18 := by decide
      exact this k k1 hk
    rcases two with h2 | h2 | h2 | h2
    · have := (h.2.2.1 k h2).lt; simp only [hz] at this; omega
    · have := (h.2.2.2.1 k h2).lt; simp only [hz] at this; omega
    · subst h2; have := h.2.1.lt; simp only [hz] at this; omega
    · subst h2; have := h.2.2.2.2.1.lt; simp only [hz] at this; omega
theorem cW_put {g : CG} {s : State} {S0 S S1 : CS} {H H1 : Heap} {locs : List Loc} {a sl : Nat} (hw : cW g s S0 S H locs) (h1 : cAt g S1 H1) (hl : cLs S1 = cLs S) (hs : cSz S1 = cSz S) (z : H1.size = H.size) (ho : ∀ q, q ≠ a → H1[q]? = H[q]?) (ha : cA g S0 a) : cW g s S0 S1 H1 (locs ++ [⟨a, sl⟩]) :=
  ⟨h1, fun b hb => hw.2.1 b (by rw [← hl]; exact hb), by rw [z, hs]; exact hw.2.2.1, hw.2.2.2.1.put z ho ha, fun b hb => hw.2.2.2.2.1 b (by rw [← hl]; exact hb), hw.2.2.2.2.2⟩
theorem cW_new {g : CG} {s : State} {S0 S : CS} {e : TE} {H H1 : Heap} {locs : List Loc} (hw : cW g s S0 S H locs) (h1 : va_at g.1 vwT (cSz S, tE g e) H1) (z : H1.size = cSz S + 1) (ho : ∀ q, q < cSz S → H1[q]? = H[q]?) : cW g s S0 (cnew S e) H1 locs := by
  have hz := hw.2.2.1
  have hS := hw.2.2.2.1
  refine ⟨cAt_new hw.1 hz h1 ho, cSepL_new hw.2.1 hw.1 hz, z, ⟨?_, fun q g1 g2 => ?_, hS.2.2⟩, fun b hb => ?_, hw.2.2.2.2.2⟩
  · rw [z]; have := hS.1; rw [hz] at this; omega
  · rw [ho q (by have := hS.1; rw [hz] at this; omega)]; exact hS.2.1 q g1 g2
  · rcases List.mem_append.mp hb with hb | hb
    · exact hw.2.2.2.2.1 b hb
    · have hb : b = cSz S := List.mem_singleton.mp hb
      subst hb
      refine Or.inr (Or.inr (Or.inr ?_))
      have := hS.1
      rw [hw.2.2.2.2.2, hz] at this
      exact this
theorem cW_sub {g : CG} {s : State} {S0 S : CS} {H : Heap} {locs : List Loc} (hw : cW g s S0 S H locs) {q : Nat} (h : cA g S q) : cA g S0 q := by
  rcases h with h | h | h | h
  · exact Or.inl h
  · exact Or.inr (Or.inl h)
  · exact hw.2.2.2.2.1 q h
  · refine Or.inr (Or.inr (Or.inr ?_))
    have h1 := hw.2.2.2.1.1
    rw [hw.2.2.2.2.2, hw.2.2.1] at h1
    omega
theorem kg_0 : ∀ w ∈ u_ws RX0 TX0 3, w ∈ gw_G := fun w h => gw_in ((by decide +kernel : ∀ w ∈ u_ws RX0 TX0 3, w ∈ lw_tbl) w h) ((by decide +kernel : ∀ w ∈ u_ws RX0 TX0 3, goodWord w = true) w h)
theorem kg_1 : ∀ w ∈ u_ws RX3 TX3 6, w ∈ gw_G := fun w h => gw_in ((by decide +kernel : ∀ w ∈ u_ws RX3 TX3 6, w ∈ lw_tbl) w h) ((by decide +kernel : ∀ w ∈ u_ws RX3 TX3 6, goodWord w = true) w h)
theorem kg_2 : ∀ w ∈ u_ws RX4 TX4 5, w ∈ gw_G := fun w h => gw_in ((by decide +kernel : ∀ w ∈ u_ws RX4 TX4 5, w ∈ lw_tbl) w h) ((by decide +kernel : ∀ w ∈ u_ws RX4 TX4 5, goodWord w = true) w h)
theorem kg_3 : ∀ w ∈ u_ws RX5 TX5 2, w ∈ gw_G := fun w h => gw_in ((by decide +kernel : ∀ w ∈ u_ws RX5 TX5 2, w ∈ lw_tbl) w h) ((by decide +kernel : ∀ w ∈ u_ws RX5 TX5 2, goodWord w = true) w h)
theorem kg_4 : ∀ w ∈ u_ws RX6 TX6 3, w ∈ gw_G := fun w h => gw_in ((by decide +kernel : ∀ w ∈ u_ws RX6 TX6 3, w ∈ lw_tbl) w h) ((by decide +kernel : ∀ w ∈ u_ws RX6 TX6 3, goodWord w = true) w h)
theorem kg_5 : ∀ w ∈ u_ws RX8 TX8 4, w ∈ gw_G := fun w h => gw_in ((by decide +kernel : ∀ w ∈ u_ws RX8 TX8 4, w ∈ lw_tbl) w h) ((by decide +kernel : ∀ w ∈ u_ws RX8 TX8 4, goodWord w = true) w h)
theorem kg_6 : ∀ w ∈ u_ws RX10 TX10 3, w ∈ gw_G := fun w h => gw_in ((by decide +kernel : ∀ w ∈ u_ws RX10 TX10 3, w ∈ lw_tbl) w h) ((by decide +kernel : ∀ w ∈ u_ws RX10 TX10 3, goodWord w = true) w h)
theorem kg_7 : ∀ w ∈ u_ws RX11 TX11 16, w ∈ gw_G := fun w h => gw_in ((by decide +kernel : ∀ w ∈ u_ws RX11 TX11 16, w ∈ lw_tbl) w h) ((by decide +kernel : ∀ w ∈ u_ws RX11 TX11 16, goodWord w = true) w h)
theorem kg_8 : ∀ w ∈ u_ws RX7 TX7 3, w ∈ gw_G := fun w h => gw_in ((by decide +kernel : ∀ w ∈ u_ws RX7 TX7 3, w ∈ lw_tbl) w h) ((by decide +kernel : ∀ w ∈ u_ws RX7 TX7 3, goodWord w = true) w h)
