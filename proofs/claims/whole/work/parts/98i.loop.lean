def R_law : String := "RobotCellLaw"
def lw_P (b : Addr) (xs : List Int32) (args : Array Value) (s : State) : Prop := args = #[.ref b] ∧ s.IntsAt b xs ∧ xs.length ≤ 2560 ∧ (Jvm.Cond.and given_1 narrow_1).before args s = true
def lw_Q (_ : Array Value) (s : State) (o : Outcome) (t : State) : Prop := o = .returned (some (.int 1)) ∧ Framed s o t [] 601024 7293034
def lw_Z (below : List Frame) (a : Array Value) (s : State) : State → Prop := fun t => ∃ o, t.status = .running ∧ Ended t below o ∧ lw_Q a s o t
/-- the law's own end, with 1 on the stack, nothing written that was there before, its room as the claim has it -/
theorem lw_ret {p : Program} {l : Launch} {e : Env} {s : State} {m : MethodId} {below : List Frame} {meth : Method} {c : Code} {b : Nat} (hx : p.tables.exec = Jvm.exec) (hb : c.code = code) (hr : meth.sig.returnType = ret) (hlocks : meth.locks = false) {pc : Nat} {H : Heap} {ls : Array Slot} (hdg : decode code pc = .ok (.ireturn, 1)) : W p l e room_1 s m #[Value.ref b] below meth c H [] 601024 7293034 (lw_Z below #[Value.ref b] s) (F0 m pc ls [.int 1]) := by
  intro T hT X
  obtain ⟨fs, hret, hrun, hended, hW, hframe⟩ := X.leave (v := some (.int 1)) (hlocks := hlocks) (fun h => by rw [hr] at h; cases h)
  have hmeth' : T.vm.method? m = some meth := X.method'
  refine ⟨T.setFrames fs, ?_, .returned (some (.int 1)), hrun, hended, rfl, ⟨_, rfl⟩, hW, hframe⟩
  jvm_step X.here [X.here.top, hx, hb, hdg, hmeth', hr, ret, narrow_b1]
  (try refine ⟨rfl, ?_⟩); (try refine ⟨rfl, ?_⟩)
  first | (intro acts; rw [hret _ acts rfl rfl rfl]) | rw [hret _ _ rfl rfl rfl]
  exact Steps.refl _
/-! the law's loop -/
theorem zl_cmp {i L : Nat} (hi : i < 3000) (hL : L ≤ 2560) (q : ¬ nI L - 5 < nI i) : i + 5 ≤ L := by
  by_cases h5 : 5 ≤ L
  · have e : nI L - 5 = nI (L - 5) := pk_sub (a := L) (b := 5) h5
    rw [e, nI_ltI (by omega) (by omega)] at q
    omega
  · exfalso
    apply q
    rw [Int32.lt_iff_toInt_lt, nI_int (by omega)]
    have h : L = 0 ∨ L = 1 ∨ L = 2 ∨ L = 3 ∨ L = 4 := by omega
    have hz : (nI L - 5).toInt < 0 := by
      rcases h with rfl | rfl | rfl | rfl | rfl <;> decide
    omega
section ZL
variable {p : Program} {l : Launch} {e : Env} {s : State} {m : MethodId} {below : List Frame} {meth : Method} {c : Code} {g : CG} {h : MG} {o b L : Nat} {xs : Nat → Int32}
theorem zfin (C : CC p s m #[Value.ref b] meth c yL_law cL_law 8 ret) {lv : List (Nat × Value)} {x : ZS} {k q : Nat} (hk : k ≤ 601024) (hq : q ≤ 7293034) : JJ p l e room_1 s m #[Value.ref b] below meth c 8 (zW g h o s) (lw_Z below #[Value.ref b] s) 481 lv [] x k q := by
  intro H locs ls hl hw
  refine lv_iconst (v := 1) C.1 C.2.1 dL_law_481 (by decide) ?_
  refine va_forget (fun z hz => hw.2.2.2.2.2.1.2.2 z hz) ?_
  exact W.widen hk hq (lw_ret C.1 C.2.1 C.2.2.2.1 C.2.2.2.2.1 dL_law_482)
set_option maxRecDepth 100000 in
theorem zloop (C : CC p s m #[Value.ref b] meth c yL_law cL_law 8 ret) (K : cK g s) (Km : mK h s) (G : cSep g) (Gm : mSep h) (X : va_X b L xs s s.heap) (hb : b < s.heap.size) (hL : L ≤ 2560) (hl : l.stackTraces = false) (hu : xU (zA s) s s.heap) (hn : va_Nc xIOB xISE s) : ∀ (n j : Nat) (S : CS) (M : MS) (f : Nat → Int64), L + 5 ≤ 5 * j + 5 * n → 5 * j ≤ L → Pb (20000 * j) S M → JJ p l e room_1 s m #[Value.ref b] below meth c 8 (zW g h o s) (lw_Z below #[Value.ref b] s) 23 (zlv g h o b (5 * j)) [] (S, M, f) (42 + 3 * nT M + j) (324138 + 80 * nT M + 6 * j) := by
  intro n
  induction n with
  | zero => intro j S M f h1 h2 P; omega
  | succ n ih =>
    intro j S M f h1 h2 P
    have h4 := Pb_4000 P
    refine jr_iload C dL_law_23 0 rfl ?_
    refine jr_aload_n C dL_law_25 rfl 4 rfl ?_
    refine jz_len C X hb dL_law_26 ?_
    refine jr_iconst (v := 5) C dL_law_27 (by decide) ?_
    refine jr_isub C dL_law_28 ?_
    refine jr_icmp_gt (tgt := 481) C dL_law_29 rfl (fun _ => zfin C (by omega) (by omega)) (fun q => ?_)
    have hj : 5 * j + 5 ≤ L := zl_cmp (by omega) hL q
    refine jr_aload_n C dL_law_32 rfl 4 rfl ?_
    refine jr_iload C dL_law_33 0 rfl ?_
    refine jz_ld C X hb (i := 5 * j) (by omega) hL dL_law_35 ?_
    refine jr_bipush (v := 15) C dL_law_36 (by decide) ?_
    refine jr_iand C dL_law_38 ?_
    have E : zE p l e s m #[Value.ref b] below meth c (lw_Z below #[Value.ref b] s) g h o b (5 * j) (20000 * j) M (42 + 3 * nT M + j) (324138 + 80 * nT M + 6 * j) := by
      intro S1 M1 f1 k q P1 hT hk hq
      refine jr_iinc (v := nI (5 * (j + 1))) (lv' := zlv g h o b (5 * (j + 1))) C dL_law_475 0 rfl (nI_add (5 * j) 5) (by decide) rfl ?_
      refine jr_goto (tgt := 23) C dL_law_478 rfl ?_
      exact jz_widen (by omega) (by omega) (ih (j + 1) S1 M1 f1 (by omega) (by omega) (by rw [show 20000 * (j + 1) = 20000 * j + 20000 by omega]; exact P1))
    have hc : 42 + 3 * nT M + j ≤ 500000 := by omega
    have hs : 324138 + 80 * nT M + 6 * j ≤ 6000000 := by omega
    have hB : 20000 * j + 20000 ≤ 2000000000 := by omega
    have hi : 5 * j + 4 < L := by omega
    generalize xs (5 * j) &&& 15 = v
    by_cases v0 : v.toInt = 0
    · refine jr_tableIn (off := 61) (tgt := 100) C dL_law_39 (by rw [v0]; decide) (by rw [v0]; decide) (by rw [v0]; rfl) rfl ?_
      exact zc_0 C K Km G Gm X hb hi hL hc hs hB P E
    by_cases v1 : v.toInt = 1
    · refine jr_tableIn (off := 122) (tgt := 161) C dL_law_39 (by rw [v1]; decide) (by rw [v1]; decide) (by rw [v1]; rfl) rfl ?_
      exact zc_1 C K Km G Gm X hb hi hL hc hs hB P E
    by_cases v2 : v.toInt = 2
    · refine jr_tableIn (off := 133) (tgt := 172) C dL_law_39 (by rw [v2]; decide) (by rw [v2]; decide) (by rw [v2]; rfl) rfl ?_
      exact zc_2 C K Km G Gm X hb hi hL hc hs hB P E
    by_cases v3 : v.toInt = 3
    · refine jr_tableIn (off := 180) (tgt := 219) C dL_law_39 (by rw [v3]; decide) (by rw [v3]; decide) (by rw [v3]; rfl) rfl ?_
      exact zc_3 C K Km G Gm X hb hi hL hc hs hB P E
    by_cases v4 : v.toInt = 4
    · refine jr_tableIn (off := 205) (tgt := 244) C dL_law_39 (by rw [v4]; decide) (by rw [v4]; decide) (by rw [v4]; rfl) rfl ?_
      exact zc_4 C K Km G Gm X hb hi hL hc hs hB P E
    by_cases v5 : v.toInt = 5
    · refine jr_tableIn (off := 230) (tgt := 269) C dL_law_39 (by rw [v5]; decide) (by rw [v5]; decide) (by rw [v5]; rfl) rfl ?_
      exact zc_5 C K Km G Gm X hb hi hL hc hs hB P E
    by_cases v6 : v.toInt = 6
    · refine jr_tableIn (off := 256) (tgt := 295) C dL_law_39 (by rw [v6]; decide) (by rw [v6]; decide) (by rw [v6]; rfl) rfl ?_
      exact zc_6 C K Km G Gm X hb hi hL hc hs hB P E
    by_cases v7 : v.toInt = 7
    · refine jr_tableIn (off := 282) (tgt := 321) C dL_law_39 (by rw [v7]; decide) (by rw [v7]; decide) (by rw [v7]; rfl) rfl ?_
      exact zc_7 C K Km G Gm X hb hi hL hc hs hB P E
    by_cases v8 : v.toInt = 8
    · refine jr_tableIn (off := 319) (tgt := 358) C dL_law_39 (by rw [v8]; decide) (by rw [v8]; decide) (by rw [v8]; rfl) rfl ?_
      exact zc_8 C K Km G Gm X hb hi hL hc hs hB P E hl hu hn
    by_cases v9 : v.toInt = 9
    · refine jr_tableIn (off := 386) (tgt := 425) C dL_law_39 (by rw [v9]; decide) (by rw [v9]; decide) (by rw [v9]; rfl) rfl ?_
      exact zc_9 C K Km G Gm X hb hi hL hc hs hB P E
    by_cases v10 : v.toInt = 10
    · refine jr_tableIn (off := 412) (tgt := 451) C dL_law_39 (by rw [v10]; decide) (by rw [v10]; decide) (by rw [v10]; rfl) rfl ?_
      exact zc_10 C K Km G Gm X hb hi hL hc hs hB P E
    by_cases v11 : v.toInt = 11
    · refine jr_tableIn (off := 425) (tgt := 464) C dL_law_39 (by rw [v11]; decide) (by rw [v11]; decide) (by rw [v11]; rfl) rfl ?_
      exact zc_11 C K Km G Gm X hb hi hL hc hs hB P E
    refine jr_tableOut (tgt := 475) C dL_law_39 (by omega) rfl ?_
    exact E S M f _ _ (Pb_B P (by omega)) (Nat.le_refl _) (by omega) (by omega)
end ZL
