/-! the law's world: the class's object, the reference's, the cell that place's answer lies in -/
abbrev ZS : Type := CS × MS × (Nat → Int64)
def zA (s : State) (q : Nat) : Prop := s.heap.size ≤ q
def zSep (g : CG) (h : MG) (o : Nat) (s : State) (S : CS) : Prop := (∀ q, cA g S q → s.heap.size ≤ q) ∧ (∀ q, mA h q → s.heap.size ≤ q ∧ q < cSz S ∧ ¬ cA g S q) ∧ s.heap.size ≤ o ∧ ¬ cA g S o ∧ ¬ mA h o
def zW (g : CG) (h : MG) (o : Nat) (s : State) (x : ZS) (H : Heap) (locs : List Loc) : Prop := cAt g x.1 H ∧ cSepL g x.1 ∧ H.size = cSz x.1 ∧ mAt h x.2.1 H ∧ oAt g o x.2.2 H ∧ va_S (zA s) s.heap H locs ∧ zSep g h o s x.1
theorem cAt_of {g : CG} {S : CS} {H H1 : Heap} (h : cAt g S H) (ho : ∀ q, cA g S q → q < H.size → H1[q]? = H[q]?) : cAt g S H1 := by
  have ne : ∀ q : Nat × va_E, va_at g.1 vwT q H → cA g S q.1 → va_at g.1 vwT q H1 := fun q hq hc => hq.kept (ho _ hc hq.lt)
  exact ⟨ne _ h.1 (Or.inl rfl), ne _ h.2.1 (Or.inr (Or.inl ⟨5, by decide, rfl⟩)), fun i hi => ne _ (h.2.2.1 i hi) (Or.inr (Or.inl ⟨i, by omega, rfl⟩)), fun i hi => ne _ (h.2.2.2.1 i hi) (Or.inr (Or.inl ⟨i, by omega, rfl⟩)), ne _ h.2.2.2.2.1 (Or.inr (Or.inl ⟨18, by decide, rfl⟩)), fun a ha => ne _ (h.2.2.2.2.2 a ha) (Or.inr (Or.inr (Or.inl ha)))⟩
theorem mAt_of {h : MG} {M : MS} {H H1 : Heap} (a : mAt h M H) (ho : ∀ q, mA h q → q < H.size → H1[q]? = H[q]?) : mAt h M H1 := by
  have ne : ∀ q : Nat × va_E, va_at h.1 vwClM q H → mA h q.1 → va_at h.1 vwClM q H1 := fun q hq hc => hq.kept (ho _ hc hq.lt)
  exact ⟨ne _ a.1 (Or.inl rfl), fun i hi => ne _ (a.2.1 i hi) (Or.inr ⟨i, by omega, rfl⟩), fun i hi => ne _ (a.2.2 i hi) (Or.inr ⟨i, by omega, rfl⟩)⟩
theorem zS_of {s : State} {A : Nat → Prop} {H H1 : Heap} {st t : State} {locs L : List Loc} (hA : ∀ q, A q → s.heap.size ≤ q) (hS : va_S (zA s) s.heap H locs) (h0 : st.heap = H) (hF : va_F A st t) (hL : ∀ q ∈ L, A q.base) (h1 : t.heap = H1) : va_S (zA s) s.heap H1 (locs ++ L) := by
  subst h1
  refine ⟨Nat.le_trans hS.1 (by rw [← h0]; exact hF.1), fun q q1 q2 => ?_, fun q hq => ?_⟩
  · rw [← hS.2.1 q q1 q2, ← h0]
    exact hF.2 q (by rw [h0]; exact Nat.lt_of_lt_of_le q1 hS.1) (fun hh => q2 (hA q hh))
  · rcases List.mem_append.mp hq with h | h
    · exact hS.2.2 q h
    · exact hA _ (hL q h)
theorem zSep_sub {g : CG} {h : MG} {o : Nat} {s : State} {S S2 : CS} (z : zSep g h o s S) (hs : ∀ q, cA g S2 q → cA g S q) (hz : cSz S ≤ cSz S2) : zSep g h o s S2 :=
  ⟨fun q hq => z.1 q (hs q hq), fun q hq => ⟨(z.2.1 q hq).1, Nat.lt_of_lt_of_le (z.2.1 q hq).2.1 hz, fun k => (z.2.1 q hq).2.2 (hs q k)⟩, z.2.2.1, fun k => z.2.2.2.1 (hs o k), z.2.2.2.2⟩
def cZ (S : CS) (n : Nat) : CS := (S.1, S.2.1, S.2.2.1, S.2.2.2.1, n)
theorem cZ_A {g : CG} {S : CS} {n : Nat} (hn : cSz S ≤ n) (q : Nat) (h : cA g (cZ S n) q) : cA g S q := by
  rcases h with h | h | h | h
  · exact Or.inl h
  · exact Or.inr (Or.inl h)
  · exact Or.inr (Or.inr (Or.inl h))
  · exact Or.inr (Or.inr (Or.inr (Nat.le_trans hn h)))
theorem Pb_Z {B : Nat} {S : CS} {M : MS} {n : Nat} (h : Pb B S M) (hn : cSz S ≤ n) : Pb B (cZ S n) M := by
  obtain ⟨⟨w, r1, r2, r3, r4, r5, r6, r7, r8⟩, c, i⟩ := h
  exact ⟨⟨w, r1, r2, r3, r4, r5, r6, ⟨r7.1, r7.2.1, fun a ha => Nat.lt_of_lt_of_le (r7.2.2 a ha) hn⟩, r8⟩, c, i⟩
theorem nT_0 {M : MS} {v : Int32} : nT (pI M 0 v) = nT M := by
  unfold nT
  rw [gI_pI_ne _ _ (by decide)]
theorem Pb_4000 {B : Nat} {S : CS} {M : MS} (h : Pb B S M) : nT M ≤ 4000 := by
  obtain ⟨⟨w, R⟩, _⟩ := h
  exact rl_4000 R
section ZR
variable {p : Program} {l : Launch} {e : Env} {R : Room} {s : State} {m : MethodId} {args : Array Value} {below : List Frame} {meth : Method} {c : Code} {y : MethodName} {cc : ByteArray} {n : Nat} {r : Option FieldType} {Q : State → Prop} {pc : Nat} {lv lv' : List (Nat × Value)} {rest : List Value} {S : CS} {M : MS} {f : Nat → Int64} {cells slots : Nat} {g : CG} {h : MG} {o b L : Nat} {xs : Nat → Int32}
theorem jz_widen {σ : Type} {Wd : σ → Heap → List Loc → Prop} {x : σ} {st : List Value} {k q : Nat} (h1 : cells ≤ k) (h2 : slots ≤ q) (kk : JJ p l e R s m args below meth c n Wd Q pc lv st x k q) : JJ p l e R s m args below meth c n Wd Q pc lv st x cells slots := fun H locs ls hl hw => W.widen h1 h2 (kk H locs ls hl hw)
theorem jz_lv {σ : Type} {Wd : σ → Heap → List Loc → Prop} {x : σ} {st : List Value} (ks : List Nat) (hk : lv_pick lv ks = lv') (kk : JJ p l e R s m args below meth c n Wd Q pc lv' st x cells slots) : JJ p l e R s m args below meth c n Wd Q pc lv st x cells slots := fun H locs ls hl hw => kk H locs ls (lv_sub hl ks hk) hw
theorem jz_C (C : CC p s m args meth c y cc n r) (K : cK g s) {y2 : MethodName} {cc2 : ByteArray} {n2 k2 i a mc2 ms2 : Nat} {r2 : Option FieldType} {As : List Value} {v2 : Option Value} {S2 : CS} {st : List Value} (hM : cC l y2 cc2 n2 r2 k2 mc2 ms2 g (.ref (co g) :: As) S v2 S2) (ho : ok_c y2 cc2 n2 r2 a (.instanceMethod y2)) (hsel : Cond.selects RX11 y2 y2 ∈ lw_tbl) (hl : Cond.methodLink y.cls i y2 ∈ lw_tbl) (ha : As.length = a) (hR : k2 + 1 ≤ R.frames ∧ 8 + (n2 + 11) + 48 * k2 ≤ R.locals) (hst : st = As.reverse ++ .ref (co g) :: rest) (hW : (rest.map fun v => v.category).sum ≤ 8) (hc : cells + mc2 ≤ R.cells ∧ slots + ms2 ≤ R.slots) (d : decode cc pc = .ok (.invokevirtual i, 3)) (kk : JJ p l e R s m args below meth c n (zW g h o s) Q (pc + 3) lv (v2.toList ++ rest) (S2, M, f) (cells + mc2) (slots + ms2)) : JJ p l e R s m args below meth c n (zW g h o s) Q pc lv st (S, M, f) cells slots := by
  intro H locs ls hls hw
  subst hst
  have hi := C.2.2.2.2.2.2.2
  obtain ⟨w1, w2, w3, w4, w5, w6, w7⟩ := hw
  simp only at w1 w2 w3 w4 w5 w7
  have hr := W.runV (g := F0 m pc ls (As.reverse ++ .ref (co g) :: rest)) (C := RX11) (R := R) (H := H) (locs := locs) (cells := cells) (slots := slots) (e := e) (below := below) (meth := meth) (b := co g) (As := As) (rest := rest) ⟨C.1, C.2.1, rfl, C.2.2.2.2.2.1, gw_hts C⟩ hM ⟨callB_of (y := y2) (own := y.cls) (index := i) (R := R) (rm := cr_ k2 mc2 ms2) (mc := mc2) (ms := ms2) a (gw_hts C) (gw_in2 ho.1) rfl rfl rfl (hi _ ho.2.2.1 rfl) (hi _ hl rfl) ho.2.2.2 hR, hi _ ho.2.1.1 ho.2.1.2, hi _ hsel rfl⟩ ⟨cC_blind, va_recv K.1 (hb_P w1.1) (ci := 7) (q0 := 0) rfl rfl, fun U hU hW => ⟨rfl, cK_warm hW K, by rw [hU]; exact w1, w2, by rw [hU]; exact w3⟩⟩ rfl ha (by show ls.size = _; rw [C.2.2.1]; exact hls.1) rfl (lv_room hW) d hc
  intro T hT X
  obtain ⟨v, st₀, t, T', L, h0, X', hL, e1, ⟨hv, hK2, hA2, hL2, hz2, hF, hin⟩, st⟩ := hr T hT X
  cases hv
  have hle : cSz S ≤ cSz S2 := by
    have := hF.1
    rw [h0, w3, hz2] at this
    exact this
  have hsub : ∀ q, cA g S2 q → cA g S q := fun q hq => by
    rcases hq with k | k | k | k
    · exact Or.inl k
    · exact Or.inr (Or.inl k)
    · exact hin q k
    · exact Or.inr (Or.inr (Or.inr (Nat.le_trans hle k)))
  have keep : ∀ q, q < H.size → ¬ cA g S q → t.heap[q]? = H[q]? := fun q q1 q2 => by
    rw [hF.2 q (by rw [h0]; exact q1) q2, h0]
  obtain ⟨t2, a1, b1⟩ := kk t.heap (locs ++ L) ls hls ⟨hA2, hL2, hz2, mAt_of w4 (fun q q1 q2 => keep q q2 (w7.2.1 q q1).2.2), w5.kept (keep o w5.lt w7.2.2.2.1), zS_of w7.1 w6 h0 hF hL rfl, zSep_sub w7 hsub hle⟩ T' e1 X'
  exact ⟨t2, st t2 a1, b1⟩
theorem jz_M (C : CC p s m args meth c y cc n r) (K : mK h s) {y2 : MethodName} {cc2 : ByteArray} {n2 k2 i a : Nat} {r2 : Option FieldType} {As : List Value} {v2 : Option Value} {M2 : MS} {st : List Value} (hM : mC l y2 cc2 n2 r2 k2 h (.ref (mo h) :: As) M v2 M2) (ho : ok_v y2 cc2 n2 r2 a) (hy2 : y2.cls = RX12) (hl : Cond.methodLink y.cls i y2 ∈ lw_tbl) (ha : As.length = a) (hR : k2 + 1 ≤ R.frames ∧ 8 + (n2 + 11) + 48 * k2 ≤ R.locals) (hst : st = As.reverse ++ .ref (mo h) :: rest) (hW : (rest.map fun v => v.category).sum ≤ 8) (hc : cells ≤ R.cells ∧ slots ≤ R.slots) (d : decode cc pc = .ok (.invokevirtual i, 3)) (kk : JJ p l e R s m args below meth c n (zW g h o s) Q (pc + 3) lv (v2.toList ++ rest) (S, M2, f) cells slots) : JJ p l e R s m args below meth c n (zW g h o s) Q pc lv st (S, M, f) cells slots := by
  intro H locs ls hls hw
  subst hst
  have hi := C.2.2.2.2.2.2.2
  obtain ⟨w1, w2, w3, w4, w5, w6, w7⟩ := hw
  simp only at w1 w2 w3 w4 w5 w7
  have hb := callB_of (y := y2) (own := y.cls) (index := i) (R := R) (rm := pu_r k2) (mc := 0) (ms := 0) a (gw_hts C) (gw_in2 ho.1) rfl rfl rfl (hi _ ho.2.2.2.1 rfl) (hi _ hl rfl) ho.2.2.2.2 hR
  have hr := W.runV (g := F0 m pc ls (As.reverse ++ .ref (mo h) :: rest)) (C := RX12) (R := R) (H := H) (locs := locs) (cells := cells) (slots := slots) (e := e) (below := below) (meth := meth) (b := mo h) (As := As) (rest := rest) ⟨C.1, C.2.1, rfl, C.2.2.2.2.2.1, gw_hts C⟩ hM ⟨hb, hi _ ho.2.1 rfl, by have := hi _ ho.2.2.1 rfl; rw [hy2] at this; exact this⟩ ⟨mC_blind, m_recv K w4, fun U hU hWm => ⟨rfl, va_K.moved hWm.alike K, by rw [hU]; exact w4⟩⟩ rfl ha (by show ls.size = _; rw [C.2.2.1]; exact hls.1) rfl (lv_room hW) d hc
  intro T hT X
  obtain ⟨v, st₀, t, T', L, h0, X', hL, e1, ⟨hv, hK2, hA2, hF, hsz⟩, st⟩ := hr T hT X
  cases hv
  have keep : ∀ q, q < H.size → ¬ mA h q → t.heap[q]? = H[q]? := fun q q1 q2 => by
    rw [hF.2 q (by rw [h0]; exact q1) q2, h0]
  obtain ⟨t2, a1, b1⟩ := kk t.heap (locs ++ L) ls hls ⟨cAt_of w1 (fun q q1 q2 => keep q q2 (fun k => (w7.2.1 q k).2.2 q1)), w2, by rw [hsz, h0]; exact w3, hA2, w5.kept (keep o w5.lt w7.2.2.2.2), zS_of (fun q hq => (w7.2.1 q hq).1) w6 h0 hF hL rfl, w7⟩ T' e1 X'
  exact ⟨t2, st t2 a1, b1⟩
theorem jz_P (C : CC p s m args meth c y cc n r) (K : cK g s) (G : cSep g) (hl : l.stackTraces = false) (hu : xU (zA s) s s.heap) (hn : va_Nc xIOB xISE s) {v1 v2 k : Int32} {x : Int64} (hv : fX11_place S v1 v2 = some ((k, x), S)) (hlk : Cond.methodLink y.cls 58 yL_place ∈ lw_tbl) (hR : 13 ≤ R.frames ∧ 8 + (5 + 11) + 48 * 12 ≤ R.locals) (hW : (rest.map fun v => v.category).sum ≤ 8) (hc : cells + 1 ≤ R.cells ∧ slots + 6 ≤ R.slots) (d : decode cc pc = .ok (.invokestatic 58, 3)) (kk : ∀ (z : Nat) (f' : Nat → Int64), cSz S ≤ z → (k = 0 → f' 0 = x) → JJ p l e R s m args below meth c n (zW g h o s) Q (pc + 3) lv (.int k :: rest) (cZ S z, M, f') (cells + 1) (slots + 6)) : JJ p l e R s m args below meth c n (zW g h o s) Q pc lv (.ref o :: .int v2 :: .int v1 :: .ref (co g) :: rest) (S, M, f) cells slots := by
  intro H locs ls hls hw
  have hi := C.2.2.2.2.2.2.2
  obtain ⟨w1, w2, w3, w4, w5, w6, w7⟩ := hw
  simp only at w1 w2 w3 w4 w5 w7
  have hgd : ∀ w ∈ (Cond.codeWith yL_place cL_place 5 (some .int) hhL :: gw_G), ∀ (a' : Array Value) (U : State), s.WarmedH U.vm → w.before a' U = true := fun w hw a' U hW => by
    rcases List.mem_cons.mp hw with e0 | h2
    · subst e0
      exact word_at hW (Or.inl rfl) (hi _ kw_1067 rfl)
    · exact word_at hW (good_of_word (gw_good h2)) (gw_hts C w h2)
  have hr := vx_runSX (g := F0 m pc ls (.ref o :: .int v2 :: .int v1 :: .ref (co g) :: rest)) (hh := hhL) (own := y.cls) (index := 58) (y := yL_place) (bytes := cL_place) (maxL := 5) (ret := some .int) (n := 4) (R := R) (H := H) (locs := locs) (cells := cells) (slots := slots) (e := e) (below := below) (meth := meth) (As := [.ref (co g), .int v1, .int v2, .ref o]) (rest := rest) (c := c) (Ts := gw_G) ⟨C.1, C.2.1, rfl, C.2.2.2.2.2.1, gw_hts C⟩ (pL_place l hl G S o f v1 v2 hv) ⟨⟨rfl, rfl, hR.1, hR.2, hgd, List.mem_cons_self⟩, hi _ kw_1067 rfl, hi _ kw_70 rfl, by decide +kernel, fun sig hs => by
      have h2 : (parseMethodDescriptor yL_place.desc).map (fun d => d.parameters.length) = some 4 := by decide +kernel
      rw [hs] at h2
      exact (Option.some.inj h2).symm, hi _ hlk rfl, hi _ kw_1066 rfl⟩ ⟨yP_blind, fun U hU hWm => ⟨⟨⟨rfl, cK_warm hWm K, by rw [hU]; exact w1, w2, by rw [hU]; exact w3⟩, by rw [hU]; exact xU_warm hWm (xU_narrow (xU_kept hu w6.2.1) w7.1)⟩, by rw [hU]; exact w5, w7.2.2.2.1, hn.moved hWm.alike⟩⟩ rfl rfl (by show ls.size = _; rw [C.2.2.1]; exact hls.1) rfl (lv_room hW) d hc
  intro T hT X
  rcases hr T hT X with ⟨v, st₀, t, T', L, h0, X', hL, e1, e2, ⟨hv', hA2, ⟨f', hf', hk'⟩, hF⟩, st⟩ | ⟨q, st₀, t, T', L, E, ce, h0, X', hL, e1, e2, hx, _⟩
  · cases hv'
    have hle : cSz S ≤ t.heap.size := by
      have := hF.1
      rw [h0, w3] at this
      exact this
    have keep : ∀ q, q < H.size → ¬ oA g S o q → t.heap[q]? = H[q]? := fun q q1 q2 => by
      rw [hF.2 q (by rw [h0]; exact q1) q2, h0]
    have hsub := cZ_A (g := g) (S := S) hle
    obtain ⟨t2, a1, b1⟩ := kk t.heap.size f' hle hk' t.heap (locs ++ L) ls hls ⟨hA2, w2, rfl, mAt_of w4 (fun q q1 q2 => keep q q2 (fun k => k.elim (w7.2.1 q q1).2.2 (fun e0 => w7.2.2.2.2 (e0 ▸ q1)))), hf', zS_of (A := oA g S o) (fun q hq => hq.elim (w7.1 q) (fun e0 => e0 ▸ w7.2.2.1)) w6 h0 hF hL rfl, zSep_sub w7 hsub hle⟩ T' e1 X'
    exact ⟨t2, st t2 a1, b1⟩
  · exact hx.elim
theorem jz_arg (C : CC p s m args meth c y cc n r) (X : va_X b L xs s s.heap) (hb : b < s.heap.size) {i k : Nat} (hi : i + k < L) (hL : L ≤ 2560) (q0 q4 : Nat) (h0 : lv[q0]? = some (0, .ref b)) (h4 : lv[q4]? = some (4, .int (nI i))) {kz : Int} (hk : Int32.ofInt kz = nI k) {w : ZS} (d0 : decode cc pc = .ok (.aload_n 0, 1)) (d1 : decode cc (pc + 1) = .ok (.iload 4, 2)) (d2 : decode cc (pc + 3) = .ok (.iconst kz, 1)) (d3 : decode cc (pc + 4) = .ok (.iadd, 1)) (d4 : decode cc (pc + 5) = .ok (.iaload, 1)) (kk : JJ p l e R s m args below meth c n (zW g h o s) Q (pc + 6) lv (.int (xs (i + k)) :: rest) w cells slots) : JJ p l e R s m args below meth c n (zW g h o s) Q pc lv rest w cells slots := by
  refine jr_aload_n C d0 rfl q0 h0 ?_
  refine jr_iload C d1 q4 h4 ?_
  refine jr_iconst C d2 hk ?_
  refine jr_iadd C d3 ?_
  intro H locs ls hl hw
  have ea : nI i + nI k = nI (i + k) := (Int32.ofNat_add i k).symm
  rw [ea]
  have ei : (nI (i + k)).toNatClampNeg = i + k := ix_nI (by omega)
  refine va_sld C.1 C.2.1 X hb (A := zA s) (by unfold zA; omega) hw.2.2.2.2.2.1 (by
    show ¬ (_ ∨ _)
    rw [ei]
    intro q
    rcases q with q | q
    · exact nI_n0 (by omega) q
    · omega) d4 ?_
  rw [ei]
  exact kk H locs ls hl hw
theorem jz_ld (C : CC p s m args meth c y cc n r) (X : va_X b L xs s s.heap) (hb : b < s.heap.size) {i : Nat} (hi : i < L) (hL : L ≤ 2560) {w : ZS} (d4 : decode cc pc = .ok (.iaload, 1)) (kk : JJ p l e R s m args below meth c n (zW g h o s) Q (pc + 1) lv (.int (xs i) :: rest) w cells slots) : JJ p l e R s m args below meth c n (zW g h o s) Q pc lv (.int (nI i) :: .ref b :: rest) w cells slots := by
  intro H locs ls hl hw
  have ei : (nI i).toNatClampNeg = i := ix_nI (by omega)
  refine va_sld C.1 C.2.1 X hb (A := zA s) (by unfold zA; omega) hw.2.2.2.2.2.1 (by
    show ¬ (_ ∨ _)
    rw [ei]
    intro q
    rcases q with q | q
    · exact nI_n0 (by omega) q
    · omega) d4 ?_
  rw [ei]
  exact kk H locs ls hl hw
theorem jz_len (C : CC p s m args meth c y cc n r) (X : va_X b L xs s s.heap) (hb : b < s.heap.size) {w : ZS} (d : decode cc pc = .ok (.arraylength, 1)) (kk : JJ p l e R s m args below meth c n (zW g h o s) Q (pc + 1) lv (.int (nI L) :: rest) w cells slots) : JJ p l e R s m args below meth c n (zW g h o s) Q pc lv (.ref b :: rest) w cells slots := fun H locs ls hl hw => va_slen C.1 C.2.1 X hb (A := zA s) (by unfold zA; omega) hw.2.2.2.2.2.1 d (kk H locs ls hl hw)
theorem jz_out (C : CC p s m args meth c y cc n r) (K : cK g s) (d : decode cc pc = .ok (.laload, 1)) (kk : JJ p l e R s m args below meth c n (zW g h o s) Q (pc + 1) lv (.long (f 0) :: rest) (S, M, f) cells slots) : JJ p l e R s m args below meth c n (zW g h o s) Q pc lv (.int 0 :: .ref o :: rest) (S, M, f) cells slots := fun H locs ls hl hw => hb_lald C.1 C.2.1 K.1 1 hw.2.2.2.2.1 rfl (by show ¬ ((0 : Int32) < 0 ∨ 1 ≤ (0 : Int32).toNatClampNeg); decide) d (kk H locs ls hl hw)
end ZR
