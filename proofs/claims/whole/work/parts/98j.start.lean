/-! the start: both objects as their constructors leave them -/
def ciI (k : Nat) : Nat := ([0, 1, 2, 3, 0, 4, 8, 0, 0, 0, 0, 0, 0, 0, 0, 0, 5, 6, 7] : List Nat).getD k 0
def miI (k : Nat) : Nat := ([0, 0, 0, 0, 1, 2, 3, 4, 5, 6, 0, 0, 7, 8, 9, 10, 11, 12, 13, 14, 15, 16, 17, 18, 19, 0, 20, 0, 21, 22, 23, 24, 25, 26, 27, 28, 29, 0, 0, 0, 0, 0, 0, 0, 0, 0] : List Nat).getD k 0
abbrev gI0 (D : va_G) (cI cJ cT : ClassId) (o z : Nat) : CG := (D, cI, cJ, cT, o, fun k => z + ciI k)
abbrev hI0 (D : va_G) (cI cJ : ClassId) (o z : Nat) : MG := (D, cI, cJ, o, fun k => z + miI k)
def S00 (n : Nat) : CS := ((fun k => if k = 12 ∨ k = 14 ∨ k = 15 then -1 else 0, fun _ => 0, fun _ _ => 0, fun _ _ => 0), fun _ => none, [], fun _ => .inr (0, []), n)
def M00 : MS := (fun _ => 0, fun _ => 0, fun _ _ => 0, fun _ _ => 0)
theorem getD_big {l : List Nat} {k : Nat} (h : l.length ≤ k) : l.getD k 0 = 0 := by
  rw [List.getD_eq_getElem?_getD, List.getElem?_eq_none h]
  rfl
theorem cty_lt {k : Nat} (h : cty k ≠ 0) : k < 19 := Nat.lt_of_not_le (fun q => h (getD_big q))
theorem mty_lt {k : Nat} (h : mty k ≠ 0) : k < 46 := Nat.lt_of_not_le (fun q => h (getD_big q))
theorem cty_2 {k : Nat} (h : cty k = 2) : k = 0 ∨ k = 1 ∨ k = 2 ∨ k = 3 := (by decide : ∀ k, k < 19 → cty k = 2 → k = 0 ∨ k = 1 ∨ k = 2 ∨ k = 3) k (cty_lt (by omega)) h
theorem cty_3 {k : Nat} (h : cty k = 3) : k = 6 ∨ k = 16 ∨ k = 17 := (by decide : ∀ k, k < 19 → cty k = 3 → k = 6 ∨ k = 16 ∨ k = 17) k (cty_lt (by omega)) h
theorem mty_2 {k : Nat} (h : mty k = 2) : k = 5 ∨ k = 6 ∨ k = 7 ∨ k = 8 ∨ k = 16 ∨ k = 17 ∨ k = 18 ∨ k = 20 ∨ k = 21 ∨ k = 22 ∨ k = 23 ∨ k = 24 ∨ k = 28 ∨ k = 29 ∨ k = 30 ∨ k = 31 ∨ k = 32 ∨ k = 33 ∨ k = 34 ∨ k = 35 := by
  have q : k ∈ [5, 6, 7, 8, 16, 17, 18, 20, 21, 22, 23, 24, 28, 29, 30, 31, 32, 33, 34, 35] := (by decide : ∀ k, k < 46 → mty k = 2 → k ∈ [5, 6, 7, 8, 16, 17, 18, 20, 21, 22, 23, 24, 28, 29, 30, 31, 32, 33, 34, 35]) k (mty_lt (by omega)) h
  simpa only [List.mem_cons, List.not_mem_nil, or_false] using q
theorem mty_3 {k : Nat} (h : mty k = 3) : k = 3 ∨ k = 4 ∨ k = 9 ∨ k = 12 ∨ k = 13 ∨ k = 14 ∨ k = 15 ∨ k = 19 ∨ k = 26 ∨ k = 36 := (by decide : ∀ k, k < 46 → mty k = 3 → k = 3 ∨ k = 4 ∨ k = 9 ∨ k = 12 ∨ k = 13 ∨ k = 14 ∨ k = 15 ∨ k = 19 ∨ k = 26 ∨ k = 36) k (mty_lt (by omega)) h
theorem ci_inj : ∀ k, k < 19 → ∀ j, j < 19 → 2 ≤ cty k → 2 ≤ cty j → ciI k = ciI j → k = j := by decide
theorem ci_lt : ∀ k, k < 19 → ciI k < 9 := by decide
theorem mi_lt : ∀ k, k < 46 → miI k < 30 := by decide
set_option maxRecDepth 100000 in
theorem mi_inj : ∀ k, k < 46 → ∀ j, j < 46 → 2 ≤ mty k → 2 ≤ mty j → miI k = miI j → k = j := by decide +kernel
section ZI
variable {D : va_G} {cI cJ cT : ClassId} {o z n : Nat} {H : Heap}
set_option maxRecDepth 100000 in
theorem cAt_0 (hP : va_P D vwT (cellL (gI0 D cI cJ cT o z) o z) H) : cAt (gI0 D cI cJ cT o z) (S00 n) H := by
  refine ⟨hP 0 _ rfl, hP 5 _ rfl, fun k hk => ?_, fun k hk => ?_, hP 8 _ rfl, fun a ha => nomatch ha⟩
  · rcases cty_2 hk with rfl | rfl | rfl | rfl
    · exact hP 1 _ rfl
    · exact hP 2 _ rfl
    · exact hP 3 _ rfl
    · exact hP 4 _ rfl
  · rcases cty_3 hk with rfl | rfl | rfl
    · exact hP 9 _ rfl
    · exact hP 6 _ rfl
    · exact hP 7 _ rfl
theorem cSep_0 (h : o < z) : cSep (gI0 D cI cJ cT o z) := ⟨fun k hk => by show z + ciI k ≠ o; omega, fun k j hk hj q => by
  have q : z + ciI k = z + ciI j := q
  exact ci_inj k (cty_lt (by omega)) j (cty_lt (by omega)) hk hj (by omega)⟩
theorem cA_0 {q : Nat} (h : cA (gI0 D cI cJ cT o z) (S00 n) q) : q = o ∨ (z ≤ q ∧ q < z + 9) ∨ n ≤ q := by
  rcases h with h | ⟨k, hk, h⟩ | h | h
  · exact Or.inl h
  · have h : q = z + ciI k := h
    have := ci_lt k (cty_lt (by omega))
    exact Or.inr (Or.inl (by omega))
  · exact nomatch h
  · exact Or.inr (Or.inr h)
set_option maxRecDepth 100000 in
theorem mAt_0 (hP : va_P D vwClM (modL (hI0 D cI cJ o z) o z) H) : mAt (hI0 D cI cJ o z) M00 H := by
  refine ⟨hP 0 _ rfl, fun k hk => ?_, fun k hk => ?_⟩
  · rcases mty_2 hk with rfl | rfl | rfl | rfl | rfl | rfl | rfl | rfl | rfl | rfl | rfl | rfl | rfl | rfl | rfl | rfl | rfl | rfl | rfl | rfl
    · exact hP 3 _ rfl
    · exact hP 4 _ rfl
    · exact hP 5 _ rfl
    · exact hP 6 _ rfl
    · exact hP 12 _ rfl
    · exact hP 13 _ rfl
    · exact hP 14 _ rfl
    · exact hP 16 _ rfl
    · exact hP 17 _ rfl
    · exact hP 18 _ rfl
    · exact hP 19 _ rfl
    · exact hP 20 _ rfl
    · exact hP 22 _ rfl
    · exact hP 23 _ rfl
    · exact hP 24 _ rfl
    · exact hP 25 _ rfl
    · exact hP 26 _ rfl
    · exact hP 27 _ rfl
    · exact hP 28 _ rfl
    · exact hP 29 _ rfl
  · rcases mty_3 hk with rfl | rfl | rfl | rfl | rfl | rfl | rfl | rfl | rfl | rfl
    · exact hP 1 _ rfl
    · exact hP 2 _ rfl
    · exact hP 7 _ rfl
    · exact hP 8 _ rfl
    · exact hP 9 _ rfl
    · exact hP 10 _ rfl
    · exact hP 11 _ rfl
    · exact hP 15 _ rfl
    · exact hP 21 _ rfl
    · exact hP 30 _ rfl
theorem mSep_0 (h : o < z) : mSep (hI0 D cI cJ o z) := ⟨fun k hk => by show z + miI k ≠ o; omega, fun k j hk hj q => by
  have q : z + miI k = z + miI j := q
  exact mi_inj k (mty_lt (by omega)) j (mty_lt (by omega)) hk hj (by omega)⟩
theorem mA_0 {q : Nat} (h : mA (hI0 D cI cJ o z) q) : q = o ∨ (z ≤ q ∧ q < z + 30) := by
  rcases h with h | ⟨k, hk, h⟩
  · exact Or.inl h
  · have h : q = z + miI k := h
    have := mi_lt k (mty_lt (by omega))
    exact Or.inr (by omega)
theorem nT_00 : nT M00 = 0 := by decide
theorem Pb_00 : Pb 0 (S00 n) M00 := by
  have e : nT M00 = 0 := nT_00
  refine ⟨⟨fun _ _ => 0, fun _ _ => rfl, fun _ _ => ⟨rfl, Or.inl (by show fX2_isLost 0 = 0; decide)⟩, fun _ _ => ⟨0, Nat.zero_le _, rfl, rfl⟩, ⟨by rw [e]; rfl, by omega, rfl, 0, Nat.zero_le _, rfl, fun t h1 h2 => by omega⟩, ⟨0, Nat.le_refl _, rfl, rfl, fun _ _ => rfl⟩, fun t u h1 h2 h3 => by omega, ⟨fun _ t h1 h2 => by omega, fun _ t _ u h1 h2 => by omega, fun a ha => nomatch ha⟩, fun t h1 h2 => by omega⟩, ⟨fun _ _ => ⟨rfl, rfl, rfl, rfl⟩, ⟨0, Nat.zero_le _, rfl, rfl⟩, rfl, ⟨0, Nat.zero_le _, rfl, rfl⟩, ⟨0, Nat.zero_le _, rfl, rfl, fun h => absurd rfl h⟩⟩, Or.inl ⟨rfl, rfl⟩⟩
end ZI
theorem zsel {y : MethodName} {s : State} {args : Array Value} {n n2 : Nat} {C : String} (hy : y.cls ≠ "java/lang/invoke/MethodHandle" ∧ y.cls ≠ "java/lang/invoke/VarHandle") (hins : (Cond.instantiable y.cls n).before args s = true) (hins2 : (Cond.instantiable C n2).before args s = true) (hpriv : (Cond.privateMethod y).before args s = true) (hinst : (Cond.instanceMethod y).before args s = true) : (Cond.selects C y y).before args s = true := by
  obtain ⟨c0, k0, hc0, hk0, -, hniab, -, -⟩ := Cond.instantiable_spec hins
  obtain ⟨c, k, hc, -⟩ := Cond.instantiable_spec hins2
  have hni : k0.isInterface = false := (Bool.or_eq_false_iff.mp hniab).1
  obtain ⟨mk, methM, hnamed, hmethM, -, -⟩ := Cond.instanceMethod_spec hinst
  have hfound : s.methodFound? y.cls y.name y.desc = some mk := State.methodFound?_of_named hnamed hy
  have hcls : mk.cls = c0 := Option.some.inj ((findClass_of_methodNamed hnamed).symm.trans hc0)
  have hsel : selectMethod {} s.vm c mk = .method mk := selectMethod_private hmethM (Cond.privateMethod_at hpriv mk methM hnamed hmethM)
  simp only [Cond.before, Cond.holds, Cond.value, hc, hfound, hnamed, hsel, hcls, hk0]
  simp; exact hni
theorem zarr {s : State} {args : Array Value} {ty : FieldType} (h : (Cond.arrayClass ty).before args s = true) : ∃ cA : ClassId, ArrOfT s cA ty ∧ s.vm.findClass ("[" ++ ty.toString) = some cA := by
  obtain ⟨c, k, comp, h1, h2, h3⟩ := Cond.arrayClass_spec h
  exact ⟨c, fun n z => ⟨fun k h => (by cases h), k, h2, comp, h3⟩, h1⟩
theorem zover {s : State} {args : Array Value} {C : String} (h : (Cond.arrayOver (.object C)).before args s = true) : ∃ cA : ClassId, ArrOfT s cA (.object C) ∧ va_RA s cA (.object C) := by
  obtain ⟨comp, c, k, h1, -, h3, h4, h5⟩ := Cond.arrayOver_spec h
  exact ⟨c, fun n z => ⟨fun k h => (by cases h), k, h3, comp, h4⟩, k, comp, h3, h4, h1, h5⟩
set_option maxRecDepth 100000 in
theorem znc : ∀ q ∈ (xIOB, xISE) :: ncL, Cond.not (.castable q.1 q.2) ∈ flatC (Jvm.Cond.and given_1 narrow_1) := by decide +kernel
theorem zK {s : State} {args : Array Value} (hts : ∀ w ∈ lw_tbl, w.before args s = true) (hgv : (Jvm.Cond.and given_1 narrow_1).before args s = true) : ∃ (D D2 : va_G) (cI cJ cT : ClassId), (∀ (o : Nat) (ad : Nat → Nat), cK (D, cI, cJ, cT, o, ad) s) ∧ (∀ (o : Nat) (ad : Nat → Nat), mK (D2, cI, cJ, o, ad) s) := by
  have hg : ∀ w ∈ gw_G, w.before args s = true := fun w hw => hts w (List.mem_filter.mp hw).1
  obtain ⟨c0, i0, k0⟩ := u_known (C := RX0) (T := TX0) (N := 3) (n := 3) hg kg_0 (hts _ kw_753)
  obtain ⟨c1, i1, k1⟩ := u_known (C := RX3) (T := TX3) (N := 6) (n := 6) hg kg_1 (hts _ kw_668)
  obtain ⟨c2, i2, k2⟩ := u_known (C := RX4) (T := TX4) (N := 5) (n := 5) hg kg_2 (hts _ kw_702)
  obtain ⟨c3, i3, k3⟩ := u_known (C := RX5) (T := TX5) (N := 2) (n := 2) hg kg_3 (hts _ kw_792)
  obtain ⟨c4, i4, k4⟩ := u_known (C := RX6) (T := TX6) (N := 3) (n := 3) hg kg_4 (hts _ kw_772)
  obtain ⟨c5, i5, k5⟩ := u_known (C := RX8) (T := TX8) (N := 4) (n := 4) hg kg_5 (hts _ kw_509)
  obtain ⟨c6, i6, k6⟩ := u_known (C := RX10) (T := TX10) (N := 3) (n := 3) hg kg_6 (hts _ kw_782)
  obtain ⟨c7, i7, k7⟩ := u_known (C := RX11) (T := TX11) (N := 16) (n := 16) hg kg_7 (hts _ kw_95)
  obtain ⟨c8, i8, k8⟩ := u_known (C := RX7) (T := TX7) (N := 3) (n := 3) hg kg_8 (hts _ kw_103)
  obtain ⟨c9, i9, k9⟩ := u_known (C := RX12) (T := TX12) (N := 46) (n := 46) hg mI_G (hts _ kw_1171)
  obtain ⟨cI, a1, a2⟩ := zarr (hts _ kw_120)
  obtain ⟨cJ, b1, b2⟩ := zarr (hts _ kw_121)
  obtain ⟨cT, d1, d2⟩ := zover (hts _ kw_109)
  refine ⟨(fun k => ([c0, c1, c2, c3, c4, c5, c6, c7, c8] : List ClassId).getD k c0, fun k => ([i0, i1, i2, i3, i4, i5, i6, i7, i8] : List (Nat → Nat)).getD k i0), (fun _ => c9, fun _ => i9), cI, cJ, cT, fun o ad => ⟨⟨fun k q hq => ?_, fun k q hq => ?_⟩, fun w hw hn => ?_, fun q hq => va_Nc.of (flat_of_before _ hgv _ (znc q (List.mem_cons_of_mem _ hq))), va_AO.of (hts _ kw_109)⟩, fun o ad => ⟨fun k q hq => ?_, fun k q hq => ?_⟩⟩
  · match k, hq with
    | 0, hq => cases hq; exact k0
    | 1, hq => cases hq; exact k1
    | 2, hq => cases hq; exact k2
    | 3, hq => cases hq; exact k3
    | 4, hq => cases hq; exact k4
    | 5, hq => cases hq; exact k5
    | 6, hq => cases hq; exact k6
    | 7, hq => cases hq; exact k7
    | 8, hq => cases hq; exact k8
    | k + 9, hq => exact nomatch hq
  · match k, hq with
    | 0, hq => cases hq; exact ⟨a1, a2⟩
    | 1, hq => cases hq; exact ⟨b1, b2⟩
    | 2, hq => cases hq; exact ⟨d1, d2⟩
    | k + 3, hq => exact nomatch hq
  · rcases List.mem_append.mp hw with hw | hw
    · rcases List.mem_cons.mp hw with hw | hw
      · subst hw
        exact va_Nw.of (A := args) rfl (zsel (n := 3) (n2 := 3) (by decide +kernel) (hts _ kw_753) (hts _ kw_772) (hts _ kw_866) (hts _ kw_867))
      · cases List.mem_singleton.mp hw
        exact va_Nw.of (A := args) rfl (zsel (n := 3) (n2 := 3) (by decide +kernel) (hts _ kw_753) (hts _ kw_782) (hts _ kw_866) (hts _ kw_867))
    · exact va_Nw.of (isN_tab hn) (hts w hw)
  · match k, hq with
    | 0, hq => cases hq; exact k9
    | k + 1, hq => exact nomatch hq
  · match k, hq with
    | 0, hq => cases hq; exact ⟨a1, a2⟩
    | 1, hq => cases hq; exact ⟨b1, b2⟩
    | k + 2, hq => exact nomatch hq
