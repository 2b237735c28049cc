/-- what holds at the law's entry: the machine, the code, the tables' words (any of lw_tbl by 'hts w (by decide +kernel)'), the script of L ints xs at the cell b, what the Statement gives of the start (any of its parts by flat_of_before) -/
def lw_At (p : Program) (s : State) (m : MethodId) (meth : Method) (c : Code) (b L : Nat) (xs : Nat → Int32) : Prop :=
  p.tables.exec = Jvm.exec ∧ c.code = code ∧ meth.sig.returnType = ret ∧ c.maxLocals = 8 ∧ s.vm.findClass R_law = some m.cls ∧ (∀ w ∈ lw_tbl, w.before #[Value.ref b] s = true) ∧ va_X b L xs s s.heap ∧ b < s.heap.size ∧ meth.locks = false ∧ (Jvm.Cond.and given_1 narrow_1).before #[Value.ref b] s = true ∧ meth.name = "law"
/-! the start of the law -/
theorem zf_C : ∀ j, j < 16 → defaultValue (tyX11 j) = vp_V [.null, .null, .null, .null, .int 0, .null, .null, .int 0, .int 0, .int 0, .int 0, .int 0, .int 0, .int 0, .int 0, .int 0] j := fun j hj => match j, hj with
  | 0, _ => rfl
  | 1, _ => rfl
  | 2, _ => rfl
  | 3, _ => rfl
  | 4, _ => rfl
  | 5, _ => rfl
  | 6, _ => rfl
  | 7, _ => rfl
  | 8, _ => rfl
  | 9, _ => rfl
  | 10, _ => rfl
  | 11, _ => rfl
  | 12, _ => rfl
  | 13, _ => rfl
  | 14, _ => rfl
  | 15, _ => rfl
  | j + 16, hj => absurd hj (by omega)
theorem zf_M : ∀ j, j < 46 → defaultValue (tyX12 j) = vp_V [.int 0, .long 0, .long 0, .null, .null, .null, .null, .null, .null, .null, .int 0, .int 0, .null, .null, .null, .null, .null, .null, .null, .null, .null, .null, .null, .null, .null, .int 0, .null, .int 0, .null, .null, .null, .null, .null, .null, .null, .null, .null, .int 0, .int 0, .int 0, .int 0, .int 0, .int 0, .int 0, .int 0, .int 0] j := fun j hj => match j, hj with
  | 0, _ => rfl
  | 1, _ => rfl
  | 2, _ => rfl
  | 3, _ => rfl
  | 4, _ => rfl
  | 5, _ => rfl
  | 6, _ => rfl
  | 7, _ => rfl
  | 8, _ => rfl
  | 9, _ => rfl
  | 10, _ => rfl
  | 11, _ => rfl
  | 12, _ => rfl
  | 13, _ => rfl
  | 14, _ => rfl
  | 15, _ => rfl
  | 16, _ => rfl
  | 17, _ => rfl
  | 18, _ => rfl
  | 19, _ => rfl
  | 20, _ => rfl
  | 21, _ => rfl
  | 22, _ => rfl
  | 23, _ => rfl
  | 24, _ => rfl
  | 25, _ => rfl
  | 26, _ => rfl
  | 27, _ => rfl
  | 28, _ => rfl
  | 29, _ => rfl
  | 30, _ => rfl
  | 31, _ => rfl
  | 32, _ => rfl
  | 33, _ => rfl
  | 34, _ => rfl
  | 35, _ => rfl
  | 36, _ => rfl
  | 37, _ => rfl
  | 38, _ => rfl
  | 39, _ => rfl
  | 40, _ => rfl
  | 41, _ => rfl
  | 42, _ => rfl
  | 43, _ => rfl
  | 44, _ => rfl
  | 45, _ => rfl
  | j + 46, hj => absurd hj (by omega)
theorem zstr {s : State} {args : Array Value} {cur : ClassId} {k : Nat} {tx : String} (hc : s.vm.findClass RX11 = some cur) (h : (Cond.stringRef RX11 k tx).before args s = true) : ∃ a, vk_R RX11 k tx a s := by
  obtain ⟨_, _, _, a, -, -, -, -, -, hev⟩ := Cond.stringRef_spec hc h
  exact ⟨a, vk_R.of h hev⟩
set_option maxRecDepth 100000 in
theorem zref_1 : Cond.isRef (.static Bundle.tN "UNASSIGNED_STACK" Bundle.steD) ∈ flatC (Jvm.Cond.and given_1 narrow_1) := by decide +kernel
set_option maxRecDepth 100000 in
theorem zref_2 : Cond.isRef (.static Bundle.tN "SUPPRESSED_SENTINEL" Bundle.listD) ∈ flatC (Jvm.Cond.and given_1 narrow_1) := by decide +kernel
theorem zU {s : State} {args : Array Value} (hts : ∀ w ∈ lw_tbl, w.before args s = true) (hgv : (Jvm.Cond.and given_1 narrow_1).before args s = true) : xU (zA s) s s.heap := by
  have hA : ∀ a : Nat, a < s.heap.size → ¬ zA s a := fun a h1 h2 => absurd h2 (Nat.not_le.mpr h1)
  obtain ⟨cur, _, hc, -⟩ := Cond.instantiable_spec (hts _ kw_95)
  exact ⟨vx_Zqof (hts _ kw_1101) (hts _ kw_88) (flat_of_before _ hgv _ zref_1) hA, vx_Zqof (hts _ kw_1103) (hts _ kw_88) (flat_of_before _ hgv _ zref_2) hA, zstr hc (hts _ kw_1114), zstr hc (hts _ kw_1150)⟩
section ZT
variable {p : Program} {l : Launch} {e : Env} {s : State} {m : MethodId} {below : List Frame} {meth : Method} {c : Code} {b L z : Nat} {xs : Nat → Int32} {D D2 : va_G} {cI cJ cT : ClassId}
theorem zs_3 (C : CC p s m #[Value.ref b] meth c yL_law cL_law 8 ret) (K : ∀ (o : Nat) (ad : Nat → Nat), cK (D, cI, cJ, cT, o, ad) s) (Km : ∀ (o : Nat) (ad : Nat → Nat), mK (D2, cI, cJ, o, ad) s) (X : va_X b L xs s s.heap) (hb : b < s.heap.size) (hL : L ≤ 2560) (hl : l.stackTraces = false) (hu : xU (zA s) s s.heap) (hn : va_Nc xIOB xISE s) (hz : s.heap.size = z) {H : Heap} {locs : List Loc} {ls : Array Slot} (hls : lv_has ls 8 [(3, .ref (z + 41)), (2, .ref (z + 10)), (1, .ref z), (0, .ref b)]) (hC : cAt (gI0 D cI cJ cT z (z + 1)) (S00 (z + 42)) H) (hM : mAt (hI0 D2 cI cJ (z + 10) (z + 11)) M00 H) (ho : oAt (gI0 D cI cJ cT z (z + 1)) (z + 41) (fun _ => 0) H) (hH : H.size = z + 42) (hS : va_S (zA s) s.heap H locs) : W p l e room_1 s m #[Value.ref b] below meth c H locs 42 324138 (lw_Z below #[Value.ref b] s) (F0 m 20 ls []) := by
  refine lv_iconst (v := 0) C.1 C.2.1 dL_law_20 (by decide) ?_
  refine lv_istore (lv' := zlv (gI0 D cI cJ cT z (z + 1)) (hI0 D2 cI cJ (z + 10) (z + 11)) (z + 41) b (5 * 0)) C.1 C.2.1 dL_law_21 hls (by decide) rfl (fun ls hls => ?_)
  have nA : ∀ q, z + 10 ≤ q → q < z + 42 → ¬ cA (gI0 D cI cJ cT z (z + 1)) (S00 (z + 42)) q := fun q h1 h2 h3 => by
    have := cA_0 h3
    omega
  have hw : zW (gI0 D cI cJ cT z (z + 1)) (hI0 D2 cI cJ (z + 10) (z + 11)) (z + 41) s (S00 (z + 42), M00, fun _ => 0) H locs := by
    refine ⟨hC, (fun a ha => nomatch ha), hH, hM, ho, hS, fun q hq => ?_, fun q hq => ?_, by omega, nA _ (by omega) (by omega), fun hq => ?_⟩
    · have := cA_0 hq
      omega
    · have h2 := mA_0 hq
      exact ⟨by omega, by show q < z + 42; omega, nA q (by omega) (by omega)⟩
    · have h2 := mA_0 hq
      omega
  have e0 := nT_00
  exact jz_widen (by omega) (by omega) (zloop C (K _ _) (Km _ _) (cSep_0 (by omega)) (mSep_0 (by omega)) X hb hL hl hu hn (L + 1) 0 (S00 (z + 42)) M00 (fun _ => 0) (by omega) (by omega) Pb_00) H locs ls hls hw
set_option maxRecDepth 100000 in
theorem zs_2 (C : CC p s m #[Value.ref b] meth c yL_law cL_law 8 ret) (K : ∀ (o : Nat) (ad : Nat → Nat), cK (D, cI, cJ, cT, o, ad) s) (Km : ∀ (o : Nat) (ad : Nat → Nat), mK (D2, cI, cJ, o, ad) s) (X : va_X b L xs s s.heap) (hb : b < s.heap.size) (hL : L ≤ 2560) (hl : l.stackTraces = false) (hu : xU (zA s) s s.heap) (hn : va_Nc xIOB xISE s) (hz : s.heap.size = z) {H : Heap} {locs : List Loc} {ls : Array Slot} (hls : lv_has ls 8 [(1, .ref z), (0, .ref b)]) (hP : va_P D vwT (cellL (gI0 D cI cJ cT z (z + 1)) z (z + 1)) H) (hH : H.size = z + 10) (hS : va_S (zA s) s.heap H locs) : W p l e room_1 s m #[Value.ref b] below meth c H locs 10 1867 (lw_Z below #[Value.ref b] s) (F0 m 8 ls []) := by
  have hi := C.2.2.2.2.2.2.2
  have hcJ : s.vm.findClass ("[" ++ (newarray.typeOf .long).toString) = some cJ := ((K 0 (fun _ => 0)).1.2 1 _ rfl).2
  refine hb_new (D := D2) (cl := vwClM) (ci := 0) (fs := [.int 0, .long 0, .long 0, .null, .null, .null, .null, .null, .null, .null, .int 0, .int 0, .null, .null, .null, .null, .null, .null, .null, .null, .null, .null, .null, .null, .null, .int 0, .null, .int 0, .null, .null, .null, .null, .null, .null, .null, .null, .null, .int 0, .int 0, .int 0, .int 0, .int 0, .int 0, .int 0, .int 0, .int 0]) (C := RX12) (T := TX12) (N := 46) C.1 C.2.1 (gw_hts C) mI_G tyX12 tyX12_ok C.2.2.2.2.2.1 (hi _ kw_1429 rfl) (hi _ kw_1171 rfl) (hi _ kw_73 rfl) (Km 0 (fun _ => 0)) rfl zf_M (Nat.le_of_ble_eq_true rfl) (Nat.le_of_ble_eq_true rfl) dL_law_8 hH (fun H1 a1 a2 a3 => ?_)
  refine lv_dup C.1 C.2.1 dL_law_11 rfl ?_
  have hM := pX12_init l (hI0 D2 cI cJ (z + 10) (z + 11)) (z + 10) (z + 11)
  have hr := W.runI (g := F0 m 12 ls [.ref (z + 10), .ref (z + 10)]) (R := room_1) (H := H1) (locs := locs) (cells := 10 + 1) (slots := 1867 + 46) (e := e) (below := below) (meth := meth) (b := z + 10) (As := []) (rest := [.ref (z + 10)]) ⟨C.1, C.2.1, rfl, C.2.2.2.2.2.1, gw_hts C⟩ hM ⟨callB_of (y := yX12_init) (own := yL_law.cls) (index := 20) (R := room_1) (rm := cr_ 2 30 322224) (mc := 30) (ms := 322224) 0 (gw_hts C) (gw_in2 oX12_init.1) rfl rfl rfl (hi _ kw_73 rfl) (hi _ kw_1430 rfl) oX12_init.2.2.2 ⟨Nat.le_of_ble_eq_true rfl, Nat.le_of_ble_eq_true rfl⟩, rfl, hi _ oX12_init.2.1.1 oX12_init.2.1.2⟩ ⟨fun a U f mk q => ⟨q.1, va_K.moved (u := U) (U := U.calling f mk a) (Vm.Alike.refl U.vm) q.2.1, q.2.2⟩, fun U hU hW => ⟨rfl, va_K.moved hW.alike (Km _ _), by rw [hU]; exact a1, by rw [hU]; exact a2⟩⟩ rfl rfl (by show ls.size = _; rw [C.2.2.1]; exact hls.1) rfl (lv_room (Nat.le_of_ble_eq_true rfl)) dL_law_12 ⟨Nat.le_of_ble_eq_true rfl, Nat.le_of_ble_eq_true rfl⟩
  intro T hT XX
  obtain ⟨v, st₀, t, T', LL, h0, X', hLL, e1, ⟨hv, hP2, hD2, hz2, hF⟩, st⟩ := hr T hT XX
  cases hv
  have bz : ∀ q, bA (z + 10) (z + 11) q → s.heap.size ≤ q := fun q hq => by
    unfold bA at hq
    omega
  have hS1 : va_S (zA s) s.heap H1 locs := ⟨by omega, fun q q1 q2 => by rw [a3 q (by omega)]; exact hS.2.1 q q1 q2, hS.2.2⟩
  have hS2 := zS_of bz hS1 h0 hF hLL rfl
  have kk : W p l e room_1 s m #[Value.ref b] below meth c t.heap (locs ++ LL) (10 + 1 + 30) (1867 + 46 + 322224) (lw_Z below #[Value.ref b] s) (F0 m 15 ls [.ref (z + 10)]) := by
    refine lv_astore_n (lv' := [(2, .ref (z + 10)), (1, .ref z), (0, .ref b)]) C.1 C.2.1 dL_law_15 rfl hls (by decide) rfl (fun ls hls => ?_)
    refine lv_iconst (v := 1) C.1 C.2.1 dL_law_16 (by decide) ?_
    refine hb_newA (D := D) (cl := vwT) (atype := .long) (a0 := (1, .inr (.inl (fun _ => 0)))) C.1 C.2.1 (hi _ kw_121 rfl) rfl hcJ (fun _ => rfl) (by decide) (by decide) (by decide) (Nat.le_of_ble_eq_true rfl) (Nat.le_of_ble_eq_true rfl) dL_law_17 hz2 (fun H3 b1 b2 b3 => ?_)
    refine lv_astore_n (lv' := [(3, .ref (z + 41)), (2, .ref (z + 10)), (1, .ref z), (0, .ref b)]) C.1 C.2.1 dL_law_19 rfl hls (by decide) rfl (fun ls hls => ?_)
    have keep : ∀ q : Nat, q < H.size → H3[q]? = H[q]? := fun q hq => by
      rw [b3 q (by omega), hF.2 q (by rw [h0]; omega) (by unfold bA; omega), h0, a3 q (by omega)]
    exact zs_3 C K Km X hb hL hl hu hn hz hls (cAt_keep (cAt_0 hP) keep) (mAt_of (mAt_0 hP2) (fun q h1 h2 => b3 q (by omega))) b1 b2 ⟨by omega, fun q q1 q2 => by rw [b3 q (by omega)]; exact hS2.2.1 q q1 q2, hS2.2.2⟩
  obtain ⟨t2, c1, c2⟩ := kk T' e1 X'
  exact ⟨t2, st t2 c1, c2⟩
set_option maxRecDepth 100000 in
theorem zs_1 (C : CC p s m #[Value.ref b] meth c yL_law cL_law 8 ret) (K : ∀ (o : Nat) (ad : Nat → Nat), cK (D, cI, cJ, cT, o, ad) s) (Km : ∀ (o : Nat) (ad : Nat → Nat), mK (D2, cI, cJ, o, ad) s) (X : va_X b L xs s s.heap) (hb : b < s.heap.size) (hL : L ≤ 2560) (hl : l.stackTraces = false) (hu : xU (zA s) s s.heap) (hn : va_Nc xIOB xISE s) (hz : s.heap.size = z) {ls : Array Slot} (hls : lv_has ls 8 [(0, .ref b)]) : W p l e room_1 s m #[Value.ref b] below meth c s.heap [] 0 0 (lw_Z below #[Value.ref b] s) (F0 m 0 ls []) := by
  have hi := C.2.2.2.2.2.2.2
  refine hb_new (D := D) (cl := vwT) (ci := 7) (fs := [.null, .null, .null, .null, .int 0, .null, .null, .int 0, .int 0, .int 0, .int 0, .int 0, .int 0, .int 0, .int 0, .int 0]) (C := RX11) (T := TX11) (N := 16) C.1 C.2.1 (gw_hts C) kg_7 tyX11 tyX11_ok C.2.2.2.2.2.1 (hi _ kw_94 rfl) (hi _ kw_95 rfl) (hi _ kw_71 rfl) (K 0 (fun _ => 0)).1 rfl zf_C (Nat.le_of_ble_eq_true rfl) (Nat.le_of_ble_eq_true rfl) dL_law_0 hz (fun H1 a1 a2 a3 => ?_)
  refine lv_dup C.1 C.2.1 dL_law_3 rfl ?_
  have hM := pX11_init l (gI0 D cI cJ cT z (z + 1)) z (z + 1)
  have hr := W.runI (g := F0 m 4 ls [.ref z, .ref z]) (R := room_1) (H := H1) (locs := []) (cells := 0 + 1) (slots := 0 + 16) (e := e) (below := below) (meth := meth) (b := z) (As := []) (rest := [.ref z]) ⟨C.1, C.2.1, rfl, C.2.2.2.2.2.1, gw_hts C⟩ hM ⟨callB_of (y := yX11_init) (own := yL_law.cls) (index := 17) (R := room_1) (rm := cr_ 5 9 1851) (mc := 9) (ms := 1851) 0 (gw_hts C) (gw_in2 oX11_init.1) rfl rfl rfl (hi _ kw_71 rfl) (hi _ kw_96 rfl) oX11_init.2.2.2 ⟨Nat.le_of_ble_eq_true rfl, Nat.le_of_ble_eq_true rfl⟩, rfl, hi _ oX11_init.2.1.1 oX11_init.2.1.2⟩ ⟨fun a U f mk q => ⟨q.1, cK_same (u := U) (U := U.calling f mk a) rfl q.2.1, q.2.2⟩, fun U hU hW => ⟨rfl, cK_warm hW (K _ _), by rw [hU]; exact a1, by rw [hU]; exact a2⟩⟩ rfl rfl (by show ls.size = _; rw [C.2.2.1]; exact hls.1) rfl (lv_room (Nat.le_of_ble_eq_true rfl)) dL_law_4 ⟨Nat.le_of_ble_eq_true rfl, Nat.le_of_ble_eq_true rfl⟩
  intro T hT XX
  obtain ⟨v, st₀, t, T', LL, h0, X', hLL, e1, ⟨hv, hP2, hD2, hz2, hF⟩, st⟩ := hr T hT XX
  cases hv
  have bz : ∀ q, bA z (z + 1) q → s.heap.size ≤ q := fun q hq => by
    unfold bA at hq
    omega
  have hS1 : va_S (zA s) s.heap H1 [] := ⟨by omega, fun q q1 q2 => a3 q (by omega), fun q hq => nomatch hq⟩
  have hS2 := zS_of bz hS1 h0 hF hLL rfl
  have kk : W p l e room_1 s m #[Value.ref b] below meth c t.heap ([] ++ LL) (0 + 1 + 9) (0 + 16 + 1851) (lw_Z below #[Value.ref b] s) (F0 m 7 ls [.ref z]) := by
    refine lv_astore_n (lv' := [(1, .ref z), (0, .ref b)]) C.1 C.2.1 dL_law_7 rfl hls (by decide) rfl (fun ls hls => ?_)
    exact zs_2 C K Km X hb hL hl hu hn hz hls hP2 hz2 hS2
  obtain ⟨t2, c1, c2⟩ := kk T' e1 X'
  exact ⟨t2, st t2 c1, c2⟩
end ZT
theorem whole_start {p : Program} {e : Env} {s : State} {m : MethodId} {below : List Frame} {meth : Method} {c : Code} (l : Launch) (hl : l.stackTraces = false) {b L : Nat} {xs : Nat → Int32} (hL : L ≤ 2560) (C0 : lw_At p s m meth c b L xs) : W p l e room_1 s m #[Value.ref b] below meth c s.heap [] 0 0 (lw_Z below #[Value.ref b] s) (entryFrame m ([Value.ref b] : List Value).toArray 8) := by
  obtain ⟨hx, hb, hr, hml, hown, hts, hX, hbl, hlocks, hgv, hnm⟩ := C0
  obtain ⟨D, D2, cI, cJ, cT, K, Km⟩ := zK hts hgv
  rw [lg_entry_eq]
  exact zs_1 ⟨hx, hb, hml, hr, hlocks, hown, hnm, fun w hw _ => hts w hw⟩ K Km hX hbl hL hl (zU hts hgv) (va_Nc.of (flat_of_before _ hgv _ (znc (xIOB, xISE) List.mem_cons_self))) rfl (lv_entry [.ref b] (n := 8) (Nat.le_of_ble_eq_true rfl))
set_option maxHeartbeats 4000000 in
theorem lw_walk (l : Launch) (hl : l.stackTraces = false) (b : Addr) (xs : List Int32) : MetFree l x (headSpec (Jvm.Cond.code x code maxLocals ret :: tables_1) room_1) (lw_P b xs) (fun _ _ _ _ _ => True) lw_Q := by
  refine MetFree.of_bodyS (code := code) (maxLocals := maxLocals) (ret := ret) (by decide) ?_ ?_
  · intro args s m h hn
    obtain ⟨meth, c, h1, h2, h3, h4, h5, h6, -, -⟩ := Cond.code_spec hn (atoms_spec (ws := Jvm.Cond.code x code maxLocals ret :: tables_1) h _ List.mem_cons_self)
    exact ⟨meth, c, h1, h2, h3, h4, h5, h6⟩
  · intro p e s m args below meth c s₁ B hml0 hP _
    obtain ⟨rfl, hx, hbd, hgv⟩ := hP
    obtain ⟨scr, harrAt, hlist, hof, hsmall⟩ := hx
    obtain ⟨hcb, hkn, -, -⟩ := State.arrayAt?_spec harrAt
    have hown : s.vm.findClass R_law = some m.cls := findClass_of_methodNamed B.named
    have hts0 : ∀ c ∈ (Jvm.Cond.code x code maxLocals ret :: tables_1), c.before #[Value.ref b] s = true := atoms_spec (ws := Jvm.Cond.code x code maxLocals ret :: tables_1) B.pre
    have hts : ∀ w ∈ lw_tbl, w.before #[Value.ref b] s = true := k2_hts_sels lw_privs (fun w hw => hts0 w (List.mem_cons_of_mem _ hw)) lw_privs_ok
    have hml : c.maxLocals = 8 := B.maxLocals_eq (hts0 _ List.mem_cons_self)
    have X₀ : Stand p l e room_1 s m #[Value.ref b] below meth c s₁ [] 0 0 := Stand.of_body B
    have hh0 : s₁.heap = s.heap := by rw [B.state]; rfl
    have hsz : scr.slots.size = xs.length := by rw [← Array.length_toList, hlist, List.length_map]
    have hval : ∀ j : Nat, j < xs.length → scr.slots[j]? = some (.int (xs.getD j 0)) := fun j hj => by
      rw [← Array.getElem?_toList, hlist]
      simp [hj]
    have hbl : b < s.heap.size := (Array.getElem?_eq_some_iff.mp hcb).1
    have hX : va_X b xs.length (fun j => xs.getD j 0) s s.heap := ⟨scr, hcb, hof, hkn, hsz, hval⟩
    have K : W p l e room_1 s m #[Value.ref b] below meth c s₁.heap [] 0 0 (lw_Z below #[Value.ref b] s) (entryFrame m ([Value.ref b] : List Value).toArray 8) := by
      rw [hh0]
      exact whole_start l hl hbd ⟨B.exec, B.bytes, B.returns, hml, hown, hts, hX, hbl, B.notSynchronized, hgv, (name_of_methodNamed B.named B.method).1⟩
    obtain ⟨t, a1, o, b1, b2, b3⟩ := K s₁ rfl X₀
    exact ⟨t, o, a1, b1, b2, b3⟩
