/-! RobotCell.makeRow(IJI)I -/
def fX11_makeRow_12 (S : CS) : Option ((Int32 × CS) × Nat × Nat) :=
  some ((2, S), 0, 0)
def fX11_makeRow_38 (S : CS) : Option ((Int32 × CS) × Nat × Nat) :=
  some ((8, S), 0, 0)
def fX11_makeRow_46 (S : CS) (v2 : Int64) (v4 : Int32) (t1 : Int32) (t2 : Option Nat) : Option ((Int32 × CS) × Nat × Nat) :=
  if isKx S t2 [5] = true then (Option.bind (fX8_init S t2 v4 v2.toInt32) (fun c51 => addD c51.2.1 c51.2.2 (Option.bind (fX11_giveNew c51.1 t1 t2) (fun c54 => some ((c54.1, c54.2), 0, 0))))) else none
def fX11_makeRow (S : CS) (v1 : Int32) (v2 : Int64) (v4 : Int32) : Option ((Int32 × CS) × Nat × Nat) :=
  if v4 < 0 then fX11_makeRow_12 S else (if v4 ≤ 9 then (if 0 ≤ v2 then (if 64 < v2 then fX11_makeRow_38 S else (Option.bind (fX11_mayMake S 1) (fun c32 => if c32.1 = 0 then fX11_makeRow_38 c32.2 else addD 1 4 (fX11_makeRow_46 (cnew c32.2 (.inr (5, [.int 0, .int 0, .null, .null]))) v2 v4 v1 (some (cSz c32.2)))))) else some ((4, S), 0, 0)) else fX11_makeRow_12 S)
theorem oX11_makeRow : ok_c yX11_makeRow cX11_makeRow 5 (some .int) 3 (.instanceMethod yX11_makeRow) := ⟨kw_502, ⟨kw_501, rfl⟩, kw_71, by decide +kernel⟩
set_option maxRecDepth 100000 in
set_option maxHeartbeats 1000000 in
theorem tX11_makeRow_12 {p : Program} {l : Launch} {e : Env} {s : State} {m : MethodId} {args : Array Value} {below : List Frame} {meth : Method} {c : Code} {g : CG} {S0 : CS} {mc ms : Nat} (C : CC p s m args meth c yX11_makeRow cX11_makeRow 5 (some .int)) (K : cK g s) (G : cSep g)  (S : CS) {w : (Int32 × CS) × Nat × Nat} (hv : fX11_makeRow_12 S = some w) (cells slots : Nat) (hc : cells + w.2.1 ≤ mc ∧ slots + w.2.2 ≤ ms) : CJ p l e s m args below meth c 5 3 mc ms g S0 (some (.int w.1.1)) w.1.2 12 [] [] S cells slots := by
  unfold fX11_makeRow_12 at hv
  refine jr_iconst (v := 2) C dX11_makeRow_12 (by decide) ?_
  cases hv
  exact jc_iret C K dX11_makeRow_13 rfl ⟨Nat.le_trans (Nat.le_add_right _ _) hc.1, Nat.le_trans (Nat.le_add_right _ _) hc.2⟩
set_option maxRecDepth 100000 in
set_option maxHeartbeats 1000000 in
theorem tX11_makeRow_38 {p : Program} {l : Launch} {e : Env} {s : State} {m : MethodId} {args : Array Value} {below : List Frame} {meth : Method} {c : Code} {g : CG} {S0 : CS} {mc ms : Nat} (C : CC p s m args meth c yX11_makeRow cX11_makeRow 5 (some .int)) (K : cK g s) (G : cSep g)  (S : CS) {w : (Int32 × CS) × Nat × Nat} (hv : fX11_makeRow_38 S = some w) (cells slots : Nat) (hc : cells + w.2.1 ≤ mc ∧ slots + w.2.2 ≤ ms) : CJ p l e s m args below meth c 5 3 mc ms g S0 (some (.int w.1.1)) w.1.2 38 [] [] S cells slots := by
  unfold fX11_makeRow_38 at hv
  refine jr_bipush (v := 8) C dX11_makeRow_38 (by decide) ?_
  cases hv
  exact jc_iret C K dX11_makeRow_40 rfl ⟨Nat.le_trans (Nat.le_add_right _ _) hc.1, Nat.le_trans (Nat.le_add_right _ _) hc.2⟩
set_option maxRecDepth 100000 in
set_option maxHeartbeats 1000000 in
theorem tX11_makeRow_46 {p : Program} {l : Launch} {e : Env} {s : State} {m : MethodId} {args : Array Value} {below : List Frame} {meth : Method} {c : Code} {g : CG} {S0 : CS} {mc ms : Nat} (C : CC p s m args meth c yX11_makeRow cX11_makeRow 5 (some .int)) (K : cK g s) (G : cSep g)  (S : CS) (v2 : Int64) (v4 : Int32) (t1 : Int32) (t2 : Option Nat) {w : (Int32 × CS) × Nat × Nat} (hv : fX11_makeRow_46 S v2 v4 t1 t2 = some w) (cells slots : Nat) (hc : cells + w.2.1 ≤ mc ∧ slots + w.2.2 ≤ ms) : CJ p l e s m args below meth c 5 3 mc ms g S0 (some (.int w.1.1)) w.1.2 46 [(2, .long v2), (4, .int v4)] [va_rf t2, .int t1, .ref (co g)] S cells slots := by
  unfold fX11_makeRow_46 at hv
  refine jr_dup C dX11_makeRow_46 (cat_rf _) ?_
  refine jr_iload C dX11_makeRow_47 1 rfl ?_
  refine jr_lload_n C dX11_makeRow_49 rfl 0 rfl ?_
  refine jr_l2i C dX11_makeRow_50 ?_
  by_cases z51 : isKx S t2 [5] = true
  case neg => exact op_none ((if_neg z51).symm.trans hv)
  have hv := (if_pos z51).symm.trans hv
  obtain ⟨c51, hc51, hv⟩ := Option.bind_eq_some_iff.mp hv
  obtain ⟨w51, hv, e1, e2, e3⟩ := addD_of hv
  rw [← e1]
  have hr : cells + c51.2.1 ≤ mc ∧ slots + c51.2.2 ≤ ms := ⟨by omega, by omega⟩
  refine jc_callI (rest := [va_rf t2, .int t1, .ref (co g)]) C K (pX8_init l G S t2 v4 v2.toInt32 hc51 ⟨Nat.le_of_eq (Nat.zero_add _), Nat.le_of_eq (Nat.zero_add _)⟩) z51 oX8_init rfl kw_510 rfl ⟨Nat.le_of_ble_eq_true rfl, Nat.le_of_ble_eq_true rfl⟩ rfl (by simp [cat_rf, cat_i, cat_l, cat_r]) ⟨hr.1, hr.2⟩ dX11_makeRow_51 ?_
  have hc : (cells + c51.2.1) + w51.2.1 ≤ mc ∧ (slots + c51.2.2) + w51.2.2 ≤ ms := ⟨by omega, by omega⟩
  obtain ⟨c54, hc54, hv⟩ := Option.bind_eq_some_iff.mp hv
  refine jc_callO (rest := []) C K (pX11_giveNew l G c51.1 t1 t2 hc54) oX11_giveNew kw_21 kw_531 rfl ⟨Nat.le_of_ble_eq_true rfl, Nat.le_of_ble_eq_true rfl⟩ rfl (Nat.le_of_ble_eq_true rfl) ⟨Nat.le_trans (Nat.le_add_right _ _) hc.1, Nat.le_trans (Nat.le_add_right _ _) hc.2⟩ dX11_makeRow_54 ?_
  cases hv
  exact jc_iret C K dX11_makeRow_57 rfl ⟨Nat.le_trans (Nat.le_add_right _ _) hc.1, Nat.le_trans (Nat.le_add_right _ _) hc.2⟩
set_option maxRecDepth 100000 in
set_option maxHeartbeats 1000000 in
theorem tX11_makeRow_0 {p : Program} {l : Launch} {e : Env} {s : State} {m : MethodId} {args : Array Value} {below : List Frame} {meth : Method} {c : Code} {g : CG} {S0 : CS} {mc ms : Nat} (C : CC p s m args meth c yX11_makeRow cX11_makeRow 5 (some .int)) (K : cK g s) (G : cSep g)  (S : CS) (v1 : Int32) (v2 : Int64) (v4 : Int32) {w : (Int32 × CS) × Nat × Nat} (hv : fX11_makeRow S v1 v2 v4 = some w) (cells slots : Nat) (hc : cells + w.2.1 ≤ mc ∧ slots + w.2.2 ≤ ms) : CJ p l e s m args below meth c 5 3 mc ms g S0 (some (.int w.1.1)) w.1.2 0 [(0, .ref (co g)), (1, .int v1), (2, .long v2), (4, .int v4)] [] S cells slots := by
  unfold fX11_makeRow at hv
  refine jr_iload C dX11_makeRow_0 3 rfl ?_
  refine jr_if_lt (tgt := 12) C dX11_makeRow_2 rfl (fun q2 => ?_) (fun q2 => ?_)
  · have hv := (if_pos q2).symm.trans hv
    exact jr_sub [] rfl (tX11_makeRow_12 C K G  S hv _ _ hc)
  · have hv := (if_neg q2).symm.trans hv
    refine jr_iload C dX11_makeRow_5 3 rfl ?_
    refine jr_bipush (v := 9) C dX11_makeRow_7 (by decide) ?_
    refine jr_icmp_le (tgt := 14) C dX11_makeRow_9 rfl (fun q9 => ?_) (fun q9 => ?_)
    · have hv := (if_pos q9).symm.trans hv
      refine jr_lload_n C dX11_makeRow_14 rfl 2 rfl ?_
      refine jr_lconst (v := 0) C dX11_makeRow_15 (by decide) ?_
      refine jr_lcmp_ge (tgt := 22) C dX11_makeRow_16 dX11_makeRow_17 rfl (fun q16 => ?_) (fun q16 => ?_)
      · have hv := (if_pos q16).symm.trans hv
        refine jr_lload_n C dX11_makeRow_22 rfl 2 rfl ?_
        refine jr_ldc2 C kw_503 dX11_makeRow_23 ?_
        refine jr_lcmp_gt (tgt := 38) C dX11_makeRow_26 dX11_makeRow_27 rfl (fun q26 => ?_) (fun q26 => ?_)
        · have hv := (if_pos q26).symm.trans hv
          exact jr_sub [] rfl (tX11_makeRow_38 C K G  S hv _ _ hc)
        · have hv := (if_neg q26).symm.trans hv
          refine jr_aload_n C dX11_makeRow_30 rfl 0 rfl ?_
          refine jr_iconst (v := 1) C dX11_makeRow_31 (by decide) ?_
          obtain ⟨c32, hc32, hv⟩ := Option.bind_eq_some_iff.mp hv
          refine jc_callO (rest := []) C K (pX11_mayMake l G S 1 hc32) oX11_mayMake kw_20 kw_504 rfl ⟨Nat.le_of_ble_eq_true rfl, Nat.le_of_ble_eq_true rfl⟩ rfl (Nat.le_of_ble_eq_true rfl) ⟨Nat.le_trans (Nat.le_add_right _ _) hc.1, Nat.le_trans (Nat.le_add_right _ _) hc.2⟩ dX11_makeRow_32 ?_
          refine jr_if_ne (tgt := 41) C dX11_makeRow_35 rfl (fun q35 => ?_) (fun q35 => ?_)
          · have hv := (if_neg q35).symm.trans hv
            refine jr_aload_n C dX11_makeRow_41 rfl 0 rfl ?_
            refine jr_iload_n C dX11_makeRow_42 rfl 1 rfl ?_
            obtain ⟨w43, hv, e1, e2, e3⟩ := addD_of hv
            rw [← e1]
            have hr : cells + 1 ≤ mc ∧ slots + 4 ≤ ms := ⟨by omega, by omega⟩
            refine jc_new C K 5 (fs := [.int 0, .int 0, .null, .null]) rfl kg_5 tyX8 tyX8_ok kw_508 kw_509 kw_79 (fun j hj => by rcases (show j = 0 ∨ j = 1 ∨ j = 2 ∨ j = 3 by omega) with rfl | rfl | rfl | rfl <;> rfl) hr.1 hr.2 dX11_makeRow_43 ?_
            have hc : (cells + 1) + w43.2.1 ≤ mc ∧ (slots + 4) + w43.2.2 ≤ ms := ⟨by omega, by omega⟩
            exact jr_sub [2, 3] rfl (tX11_makeRow_46 C K G  (cnew c32.2 (.inr (5, [.int 0, .int 0, .null, .null]))) v2 v4 v1 (some (cSz c32.2)) hv _ _ hc)
          · have hv := (if_pos q35).symm.trans hv
            exact jr_sub [] rfl (tX11_makeRow_38 C K G  c32.2 hv _ _ hc)
      · have hv := (if_neg q16).symm.trans hv
        refine jr_iconst (v := 4) C dX11_makeRow_20 (by decide) ?_
        cases hv
        exact jc_iret C K dX11_makeRow_21 rfl ⟨Nat.le_trans (Nat.le_add_right _ _) hc.1, Nat.le_trans (Nat.le_add_right _ _) hc.2⟩
    · have hv := (if_neg q9).symm.trans hv
      exact jr_sub [] rfl (tX11_makeRow_12 C K G  S hv _ _ hc)
theorem pX11_makeRow (l : Launch) {g : CG} (G : cSep g)   (S : CS) (v1 : Int32) (v2 : Int64) (v4 : Int32) {w : (Int32 × CS) × Nat × Nat} (hw : fX11_makeRow S v1 v2 v4 = some w) {mc ms : Nat} (hc : 0 + w.2.1 ≤ mc ∧ 0 + w.2.2 ≤ ms) : cC l yX11_makeRow cX11_makeRow 5 (some .int) 3 mc ms g [.ref (co g), .int v1, .long v2, .int v4] S (some (.int w.1.1)) w.1.2 := cC_of (lv := [(0, .ref (co g)), (1, .int v1), (2, .long v2), (4, .int v4)]) (by decide +kernel) (Nat.le_of_ble_eq_true rfl) rfl (fun C K => tX11_makeRow_0 C K G  S v1 v2 v4 hw 0 0 hc)
/-! RobotCell.makeGrid(IJJ)I -/
def fX11_makeGrid_13 (S : CS) : Option ((Int32 × CS) × Nat × Nat) :=
  some ((4, S), 0, 0)
def fX11_makeGrid_43 (S : CS) : Option ((Int32 × CS) × Nat × Nat) :=
  some ((8, S), 0, 0)
def fX11_makeGrid_102 (r62 : CS → Int32 → Int64 → Int64 → Option Nat → Int32 → Option ((Int32 × CS) × Nat × Nat)) (S : CS) (v1 : Int32) (v2 : Int64) (v4 : Int64) (v6 : Option Nat) (v7 : Int32) : Option ((Int32 × CS) × Nat × Nat) :=
  r62 S v1 v2 v4 v6 v7
def fX11_makeGrid_99 (r62 : CS → Int32 → Int64 → Int64 → Option Nat → Int32 → Option ((Int32 × CS) × Nat × Nat)) (S : CS) (v1 : Int32) (v2 : Int64) (v4 : Int64) (v6 : Option Nat) (v7 : Int32) : Option ((Int32 × CS) × Nat × Nat) :=
  fX11_makeGrid_102 r62 S v1 v2 v4 v6 (v7 + 1)
def fX11_makeGrid_77 (r62 : CS → Int32 → Int64 → Int64 → Option Nat → Int32 → Option ((Int32 × CS) × Nat × Nat)) (S : CS) (v1 : Int32) (v2 : Int64) (v4 : Int64) (v6 : Option Nat) (v7 : Int32) (t0 : Option Nat) (t1 : Int32) (t2 : Option Nat) : Option ((Int32 × CS) × Nat × Nat) :=
  if isKx S t2 [5] = true then (Option.bind (fX8_init S t2 4 v4.toInt32) (fun c82 => addD c82.2.1 c82.2.2 (if isKx c82.1 t0 [5] = true then (Option.bind (fX8_setPart c82.1 t0 t1 t2) (fun c85 => fX11_makeGrid_99 r62 (cpI c85.2 8 ((gI c85.2.1 8) + 1)) v1 v2 v4 v6 v7)) else none))) else none
def fX11_makeGrid_62  : Nat → CS → Int32 → Int64 → Int64 → Option Nat → Int32 → Option ((Int32 × CS) × Nat × Nat)
  | 0, _, _, _, _, _, _ => none
  | q + 1, S, v1, v2, v4, v6, v7 => if v2 ≤ v7.toInt64 then (Option.bind (fX11_giveNew S v1 v6) (fun c109 => some ((c109.1, c109.2), 0, 0))) else addD 1 4 (fX11_makeGrid_77 (fX11_makeGrid_62  q) (cnew S (.inr (5, [.int 0, .int 0, .null, .null]))) v1 v2 v4 v6 v7 v6 v7 (some (cSz S)))
def fX11_makeGrid_49 (S : CS) (v1 : Int32) (v2 : Int64) (v4 : Int64) (t0 : Option Nat) : Option ((Int32 × CS) × Nat × Nat) :=
  if isKx S t0 [5] = true then (Option.bind (fX8_init S t0 10 v2.toInt32) (fun c54 => addD c54.2.1 c54.2.2 (fX11_makeGrid_62 20 c54.1 v1 v2 v4 t0 0))) else none
def fX11_makeGrid (S : CS) (v1 : Int32) (v2 : Int64) (v4 : Int64) : Option ((Int32 × CS) × Nat × Nat) :=
  if v2 < 0 then fX11_makeGrid_13 S else (if 0 ≤ v4 then (if 16 < v2 then fX11_makeGrid_43 S else (if 16 < v4 then fX11_makeGrid_43 S else (Option.bind (fX11_mayMake S (1 + v2.toInt32)) (fun c37 => if c37.1 = 0 then fX11_makeGrid_43 c37.2 else addD 1 4 (fX11_makeGrid_49 (cnew c37.2 (.inr (5, [.int 0, .int 0, .null, .null]))) v1 v2 v4 (some (cSz c37.2))))))) else fX11_makeGrid_13 S)
theorem oX11_makeGrid : ok_c yX11_makeGrid cX11_makeGrid 8 (some .int) 3 (.instanceMethod yX11_makeGrid) := ⟨kw_546, ⟨kw_545, rfl⟩, kw_71, by decide +kernel⟩
set_option maxRecDepth 100000 in
set_option maxHeartbeats 1000000 in
theorem tX11_makeGrid_13 {p : Program} {l : Launch} {e : Env} {s : State} {m : MethodId} {args : Array Value} {below : List Frame} {meth : Method} {c : Code} {g : CG} {S0 : CS} {mc ms : Nat} (C : CC p s m args meth c yX11_makeGrid cX11_makeGrid 8 (some .int)) (K : cK g s) (G : cSep g)  (S : CS) {w : (Int32 × CS) × Nat × Nat} (hv : fX11_makeGrid_13 S = some w) (cells slots : Nat) (hc : cells + w.2.1 ≤ mc ∧ slots + w.2.2 ≤ ms) : CJ p l e s m args below meth c 8 3 mc ms g S0 (some (.int w.1.1)) w.1.2 13 [] [] S cells slots := by
  unfold fX11_makeGrid_13 at hv
  refine jr_iconst (v := 4) C dX11_makeGrid_13 (by decide) ?_
  cases hv
  exact jc_iret C K dX11_makeGrid_14 rfl ⟨Nat.le_trans (Nat.le_add_right _ _) hc.1, Nat.le_trans (Nat.le_add_right _ _) hc.2⟩
set_option maxRecDepth 100000 in
set_option maxHeartbeats 1000000 in
theorem tX11_makeGrid_43 {p : Program} {l : Launch} {e : Env} {s : State} {m : MethodId} {args : Array Value} {below : List Frame} {meth : Method} {c : Code} {g : CG} {S0 : CS} {mc ms : Nat} (C : CC p s m args meth c yX11_makeGrid cX11_makeGrid 8 (some .int)) (K : cK g s) (G : cSep g)  (S : CS) {w : (Int32 × CS) × Nat × Nat} (hv : fX11_makeGrid_43 S = some w) (cells slots : Nat) (hc : cells + w.2.1 ≤ mc ∧ slots + w.2.2 ≤ ms) : CJ p l e s m args below meth c 8 3 mc ms g S0 (some (.int w.1.1)) w.1.2 43 [] [] S cells slots := by
  unfold fX11_makeGrid_43 at hv
  refine jr_bipush (v := 8) C dX11_makeGrid_43 (by decide) ?_
  cases hv
  exact jc_iret C K dX11_makeGrid_45 rfl ⟨Nat.le_trans (Nat.le_add_right _ _) hc.1, Nat.le_trans (Nat.le_add_right _ _) hc.2⟩
set_option maxRecDepth 100000 in
set_option maxHeartbeats 1000000 in
theorem tX11_makeGrid_102 {p : Program} {l : Launch} {e : Env} {s : State} {m : MethodId} {args : Array Value} {below : List Frame} {meth : Method} {c : Code} {g : CG} {S0 : CS} {mc ms : Nat} (C : CC p s m args meth c yX11_makeGrid cX11_makeGrid 8 (some .int)) (K : cK g s) (G : cSep g)  (r62 : CS → Int32 → Int64 → Int64 → Option Nat → Int32 → Option ((Int32 × CS) × Nat × Nat)) (h62 : ∀ (S : CS) (v1 : Int32) (v2 : Int64) (v4 : Int64) (v6 : Option Nat) (v7 : Int32) (w : (Int32 × CS) × Nat × Nat), r62 S v1 v2 v4 v6 v7 = some w → ∀ cells slots : Nat, cells + w.2.1 ≤ mc ∧ slots + w.2.2 ≤ ms → CJ p l e s m args below meth c 8 3 mc ms g S0 (some (.int w.1.1)) w.1.2 62 [(0, .ref (co g)), (1, .int v1), (2, .long v2), (4, .long v4), (6, va_rf v6), (7, .int v7)] [] S cells slots) (S : CS) (v1 : Int32) (v2 : Int64) (v4 : Int64) (v6 : Option Nat) (v7 : Int32) {w : (Int32 × CS) × Nat × Nat} (hv : fX11_makeGrid_102 r62 S v1 v2 v4 v6 v7 = some w) (cells slots : Nat) (hc : cells + w.2.1 ≤ mc ∧ slots + w.2.2 ≤ ms) : CJ p l e s m args below meth c 8 3 mc ms g S0 (some (.int w.1.1)) w.1.2 102 [(0, .ref (co g)), (1, .int v1), (2, .long v2), (4, .long v4), (6, va_rf v6), (7, .int v7)] [] S cells slots := by
  unfold fX11_makeGrid_102 at hv
  refine jr_goto (tgt := 62) C dX11_makeGrid_102 rfl ?_
  exact h62 S v1 v2 v4 v6 v7 _ hv _ _ hc
set_option maxRecDepth 100000 in
set_option maxHeartbeats 1000000 in
theorem tX11_makeGrid_99 {p : Program} {l : Launch} {e : Env} {s : State} {m : MethodId} {args : Array Value} {below : List Frame} {meth : Method} {c : Code} {g : CG} {S0 : CS} {mc ms : Nat} (C : CC p s m args meth c yX11_makeGrid cX11_makeGrid 8 (some .int)) (K : cK g s) (G : cSep g)  (r62 : CS → Int32 → Int64 → Int64 → Option Nat → Int32 → Option ((Int32 × CS) × Nat × Nat)) (h62 : ∀ (S : CS) (v1 : Int32) (v2 : Int64) (v4 : Int64) (v6 : Option Nat) (v7 : Int32) (w : (Int32 × CS) × Nat × Nat), r62 S v1 v2 v4 v6 v7 = some w → ∀ cells slots : Nat, cells + w.2.1 ≤ mc ∧ slots + w.2.2 ≤ ms → CJ p l e s m args below meth c 8 3 mc ms g S0 (some (.int w.1.1)) w.1.2 62 [(0, .ref (co g)), (1, .int v1), (2, .long v2), (4, .long v4), (6, va_rf v6), (7, .int v7)] [] S cells slots) (S : CS) (v1 : Int32) (v2 : Int64) (v4 : Int64) (v6 : Option Nat) (v7 : Int32) {w : (Int32 × CS) × Nat × Nat} (hv : fX11_makeGrid_99 r62 S v1 v2 v4 v6 v7 = some w) (cells slots : Nat) (hc : cells + w.2.1 ≤ mc ∧ slots + w.2.2 ≤ ms) : CJ p l e s m args below meth c 8 3 mc ms g S0 (some (.int w.1.1)) w.1.2 99 [(0, .ref (co g)), (1, .int v1), (2, .long v2), (4, .long v4), (6, va_rf v6), (7, .int v7)] [] S cells slots := by
  unfold fX11_makeGrid_99 at hv
  refine jr_iinc (v := (v7 + 1)) (lv' := [(7, .int (v7 + 1)), (0, .ref (co g)), (1, .int v1), (2, .long v2), (4, .long v4), (6, va_rf v6)]) C dX11_makeGrid_99 5 rfl rfl (by decide) (by simp [cat_rf, cat_i, cat_l, cat_r]) ?_
  exact jr_sub [1, 2, 3, 4, 5, 0] rfl (tX11_makeGrid_102 C K G r62 h62 S v1 v2 v4 v6 (v7 + 1) hv _ _ hc)
set_option maxRecDepth 100000 in
set_option maxHeartbeats 1000000 in
theorem tX11_makeGrid_77 {p : Program} {l : Launch} {e : Env} {s : State} {m : MethodId} {args : Array Value} {below : List Frame} {meth : Method} {c : Code} {g : CG} {S0 : CS} {mc ms : Nat} (C : CC p s m args meth c yX11_makeGrid cX11_makeGrid 8 (some .int)) (K : cK g s) (G : cSep g)  (r62 : CS → Int32 → Int64 → Int64 → Option Nat → Int32 → Option ((Int32 × CS) × Nat × Nat)) (h62 : ∀ (S : CS) (v1 : Int32) (v2 : Int64) (v4 : Int64) (v6 : Option Nat) (v7 : Int32) (w : (Int32 × CS) × Nat × Nat), r62 S v1 v2 v4 v6 v7 = some w → ∀ cells slots : Nat, cells + w.2.1 ≤ mc ∧ slots + w.2.2 ≤ ms → CJ p l e s m args below meth c 8 3 mc ms g S0 (some (.int w.1.1)) w.1.2 62 [(0, .ref (co g)), (1, .int v1), (2, .long v2), (4, .long v4), (6, va_rf v6), (7, .int v7)] [] S cells slots) (S : CS) (v1 : Int32) (v2 : Int64) (v4 : Int64) (v6 : Option Nat) (v7 : Int32) (t0 : Option Nat) (t1 : Int32) (t2 : Option Nat) {w : (Int32 × CS) × Nat × Nat} (hv : fX11_makeGrid_77 r62 S v1 v2 v4 v6 v7 t0 t1 t2 = some w) (cells slots : Nat) (hc : cells + w.2.1 ≤ mc ∧ slots + w.2.2 ≤ ms) : CJ p l e s m args below meth c 8 3 mc ms g S0 (some (.int w.1.1)) w.1.2 77 [(0, .ref (co g)), (1, .int v1), (2, .long v2), (4, .long v4), (6, va_rf v6), (7, .int v7)] [va_rf t2, .int t1, va_rf t0] S cells slots := by
  unfold fX11_makeGrid_77 at hv
  refine jr_dup C dX11_makeGrid_77 (cat_rf _) ?_
  refine jr_iconst (v := 4) C dX11_makeGrid_78 (by decide) ?_
  refine jr_lload C dX11_makeGrid_79 3 rfl ?_
  refine jr_l2i C dX11_makeGrid_81 ?_
  by_cases z82 : isKx S t2 [5] = true
  case neg => exact op_none ((if_neg z82).symm.trans hv)
  have hv := (if_pos z82).symm.trans hv
  obtain ⟨c82, hc82, hv⟩ := Option.bind_eq_some_iff.mp hv
  obtain ⟨w82, hv, e1, e2, e3⟩ := addD_of hv
  rw [← e1]
  have hr : cells + c82.2.1 ≤ mc ∧ slots + c82.2.2 ≤ ms := ⟨by omega, by omega⟩
  refine jc_callI (rest := [va_rf t2, .int t1, va_rf t0]) C K (pX8_init l G S t2 4 v4.toInt32 hc82 ⟨Nat.le_of_eq (Nat.zero_add _), Nat.le_of_eq (Nat.zero_add _)⟩) z82 oX8_init rfl kw_510 rfl ⟨Nat.le_of_ble_eq_true rfl, Nat.le_of_ble_eq_true rfl⟩ rfl (by simp [cat_rf, cat_i, cat_l, cat_r]) ⟨hr.1, hr.2⟩ dX11_makeGrid_82 ?_
  have hc : (cells + c82.2.1) + w82.2.1 ≤ mc ∧ (slots + c82.2.2) + w82.2.2 ≤ ms := ⟨by omega, by omega⟩
  by_cases z85_5 : isKx c82.1 t0 [5] = true
  case pos =>
    have hv := (if_pos z85_5).symm.trans hv
    obtain ⟨c85, hc85, hv⟩ := Option.bind_eq_some_iff.mp hv
    refine jc_callT (ci := 5) (rest := []) C K (pX8_setPart l G c82.1 t0 t1 t2 hc85) z85_5 rfl oX8_setPart kw_550 kw_548 rfl ⟨Nat.le_of_ble_eq_true rfl, Nat.le_of_ble_eq_true rfl⟩ rfl (Nat.le_of_ble_eq_true rfl) ⟨Nat.le_trans (Nat.le_add_right _ _) hc.1, Nat.le_trans (Nat.le_add_right _ _) hc.2⟩ dX11_makeGrid_85 ?_
    refine jr_pop C dX11_makeGrid_88 rfl ?_
    refine jr_aload_n C dX11_makeGrid_89 rfl 0 rfl ?_
    refine jr_dup C dX11_makeGrid_90 rfl ?_
    refine jc_getI C K 8 (by decide) rfl kw_130 rfl dX11_makeGrid_91 ?_
    refine jr_iconst (v := 1) C dX11_makeGrid_94 (by decide) ?_
    refine jr_iadd C dX11_makeGrid_95 ?_
    refine jc_putI C K G 8 (by decide) rfl kw_130 rfl rfl (by decide +kernel) dX11_makeGrid_96 ?_
    exact tX11_makeGrid_99 C K G r62 h62 (cpI c85.2 8 ((gI c85.2.1 8) + 1)) v1 v2 v4 v6 v7 hv _ _ hc
  have hv := (if_neg z85_5).symm.trans hv
  exact op_none hv
set_option maxRecDepth 100000 in
set_option maxHeartbeats 1000000 in
theorem tX11_makeGrid_62 {p : Program} {l : Launch} {e : Env} {s : State} {m : MethodId} {args : Array Value} {below : List Frame} {meth : Method} {c : Code} {g : CG} {S0 : CS} {mc ms : Nat} (C : CC p s m args meth c yX11_makeGrid cX11_makeGrid 8 (some .int)) (K : cK g s) (G : cSep g)  : ∀ (q : Nat) (S : CS) (v1 : Int32) (v2 : Int64) (v4 : Int64) (v6 : Option Nat) (v7 : Int32) (w : (Int32 × CS) × Nat × Nat), fX11_makeGrid_62  q S v1 v2 v4 v6 v7 = some w → ∀ cells slots : Nat, cells + w.2.1 ≤ mc ∧ slots + w.2.2 ≤ ms → CJ p l e s m args below meth c 8 3 mc ms g S0 (some (.int w.1.1)) w.1.2 62 [(0, .ref (co g)), (1, .int v1), (2, .long v2), (4, .long v4), (6, va_rf v6), (7, .int v7)] [] S cells slots := by
  intro q
  induction q with
  | zero => intro S v1 v2 v4 v6 v7 w hv; exact absurd hv (by simp [fX11_makeGrid_62])
  | succ q ih =>
    intro S v1 v2 v4 v6 v7 w hv cells slots hc
    unfold fX11_makeGrid_62 at hv
    refine jr_iload C dX11_makeGrid_62 5 rfl ?_
    refine jr_i2l C dX11_makeGrid_64 ?_
    refine jr_lload_n C dX11_makeGrid_65 rfl 2 rfl ?_
    refine jr_lcmp_ge (tgt := 105) C dX11_makeGrid_66 dX11_makeGrid_67 rfl (fun q66 => ?_) (fun q66 => ?_)
    · have hv := (if_pos q66).symm.trans hv
      refine jr_aload_n C dX11_makeGrid_105 rfl 0 rfl ?_
      refine jr_iload_n C dX11_makeGrid_106 rfl 1 rfl ?_
      refine jr_naload C dX11_makeGrid_107 4 rfl ?_
      obtain ⟨c109, hc109, hv⟩ := Option.bind_eq_some_iff.mp hv
      refine jc_callO (rest := []) C K (pX11_giveNew l G S v1 v6 hc109) oX11_giveNew kw_21 kw_531 rfl ⟨Nat.le_of_ble_eq_true rfl, Nat.le_of_ble_eq_true rfl⟩ rfl (Nat.le_of_ble_eq_true rfl) ⟨Nat.le_trans (Nat.le_add_right _ _) hc.1, Nat.le_trans (Nat.le_add_right _ _) hc.2⟩ dX11_makeGrid_109 ?_
      cases hv
      exact jc_iret C K dX11_makeGrid_112 rfl ⟨Nat.le_trans (Nat.le_add_right _ _) hc.1, Nat.le_trans (Nat.le_add_right _ _) hc.2⟩
    · have hv := (if_neg q66).symm.trans hv
      refine jr_naload C dX11_makeGrid_70 4 rfl ?_
      refine jr_iload C dX11_makeGrid_72 5 rfl ?_
      obtain ⟨w74, hv, e1, e2, e3⟩ := addD_of hv
      rw [← e1]
      have hr : cells + 1 ≤ mc ∧ slots + 4 ≤ ms := ⟨by omega, by omega⟩
      refine jc_new C K 5 (fs := [.int 0, .int 0, .null, .null]) rfl kg_5 tyX8 tyX8_ok kw_508 kw_509 kw_79 (fun j hj => by rcases (show j = 0 ∨ j = 1 ∨ j = 2 ∨ j = 3 by omega) with rfl | rfl | rfl | rfl <;> rfl) hr.1 hr.2 dX11_makeGrid_74 ?_
      have hc : (cells + 1) + w74.2.1 ≤ mc ∧ (slots + 4) + w74.2.2 ≤ ms := ⟨by omega, by omega⟩
      exact tX11_makeGrid_77 C K G (fX11_makeGrid_62  q) ih (cnew S (.inr (5, [.int 0, .int 0, .null, .null]))) v1 v2 v4 v6 v7 v6 v7 (some (cSz S)) hv _ _ hc
set_option maxRecDepth 100000 in
set_option maxHeartbeats 1000000 in
theorem tX11_makeGrid_49 {p : Program} {l : Launch} {e : Env} {s : State} {m : MethodId} {args : Array Value} {below : List Frame} {meth : Method} {c : Code} {g : CG} {S0 : CS} {mc ms : Nat} (C : CC p s m args meth c yX11_makeGrid cX11_makeGrid 8 (some .int)) (K : cK g s) (G : cSep g)  (S : CS) (v1 : Int32) (v2 : Int64) (v4 : Int64) (t0 : Option Nat) {w : (Int32 × CS) × Nat × Nat} (hv : fX11_makeGrid_49 S v1 v2 v4 t0 = some w) (cells slots : Nat) (hc : cells + w.2.1 ≤ mc ∧ slots + w.2.2 ≤ ms) : CJ p l e s m args below meth c 8 3 mc ms g S0 (some (.int w.1.1)) w.1.2 49 [(0, .ref (co g)), (1, .int v1), (2, .long v2), (4, .long v4)] [va_rf t0] S cells slots := by
  unfold fX11_makeGrid_49 at hv
  refine jr_dup C dX11_makeGrid_49 (cat_rf _) ?_
  refine jr_bipush (v := 10) C dX11_makeGrid_50 (by decide) ?_
  refine jr_lload_n C dX11_makeGrid_52 rfl 2 rfl ?_
  refine jr_l2i C dX11_makeGrid_53 ?_
  by_cases z54 : isKx S t0 [5] = true
  case neg => exact op_none ((if_neg z54).symm.trans hv)
  have hv := (if_pos z54).symm.trans hv
  obtain ⟨c54, hc54, hv⟩ := Option.bind_eq_some_iff.mp hv
  obtain ⟨w54, hv, e1, e2, e3⟩ := addD_of hv
  rw [← e1]
  have hr : cells + c54.2.1 ≤ mc ∧ slots + c54.2.2 ≤ ms := ⟨by omega, by omega⟩
  refine jc_callI (rest := [va_rf t0]) C K (pX8_init l G S t0 10 v2.toInt32 hc54 ⟨Nat.le_of_eq (Nat.zero_add _), Nat.le_of_eq (Nat.zero_add _)⟩) z54 oX8_init rfl kw_510 rfl ⟨Nat.le_of_ble_eq_true rfl, Nat.le_of_ble_eq_true rfl⟩ rfl (by simp [cat_rf, cat_i, cat_l, cat_r]) ⟨hr.1, hr.2⟩ dX11_makeGrid_54 ?_
  have hc : (cells + c54.2.1) + w54.2.1 ≤ mc ∧ (slots + c54.2.2) + w54.2.2 ≤ ms := ⟨by omega, by omega⟩
  refine jr_nastore (i := 6) (lv' := [(6, va_rf t0), (0, .ref (co g)), (1, .int v1), (2, .long v2), (4, .long v4)]) C dX11_makeGrid_57 (by decide) rfl ?_
  refine jr_iconst (v := 0) C dX11_makeGrid_59 (by decide) ?_
  refine jr_istore (i := 7) (lv' := [(7, .int 0), (6, va_rf t0), (0, .ref (co g)), (1, .int v1), (2, .long v2), (4, .long v4)]) C dX11_makeGrid_60 (by decide) (by simp [cat_rf, cat_i, cat_l, cat_r]) ?_
  exact jr_sub [2, 3, 4, 5, 1, 0] rfl (tX11_makeGrid_62 C K G  20 c54.1 v1 v2 v4 t0 0 _ hv _ _ hc)
set_option maxRecDepth 100000 in
set_option maxHeartbeats 1000000 in
theorem tX11_makeGrid_0 {p : Program} {l : Launch} {e : Env} {s : State} {m : MethodId} {args : Array Value} {below : List Frame} {meth : Method} {c : Code} {g : CG} {S0 : CS} {mc ms : Nat} (C : CC p s m args meth c yX11_makeGrid cX11_makeGrid 8 (some .int)) (K : cK g s) (G : cSep g)  (S : CS) (v1 : Int32) (v2 : Int64) (v4 : Int64) {w : (Int32 × CS) × Nat × Nat} (hv : fX11_makeGrid S v1 v2 v4 = some w) (cells slots : Nat) (hc : cells + w.2.1 ≤ mc ∧ slots + w.2.2 ≤ ms) : CJ p l e s m args below meth c 8 3 mc ms g S0 (some (.int w.1.1)) w.1.2 0 [(0, .ref (co g)), (1, .int v1), (2, .long v2), (4, .long v4)] [] S cells slots := by
  unfold fX11_makeGrid at hv
  refine jr_lload_n C dX11_makeGrid_0 rfl 2 rfl ?_
  refine jr_lconst (v := 0) C dX11_makeGrid_1 (by decide) ?_
  refine jr_lcmp_lt (tgt := 13) C dX11_makeGrid_2 dX11_makeGrid_3 rfl (fun q2 => ?_) (fun q2 => ?_)
  · have hv := (if_pos q2).symm.trans hv
    exact jr_sub [] rfl (tX11_makeGrid_13 C K G  S hv _ _ hc)
  · have hv := (if_neg q2).symm.trans hv
    refine jr_lload C dX11_makeGrid_6 3 rfl ?_
    refine jr_lconst (v := 0) C dX11_makeGrid_8 (by decide) ?_
    refine jr_lcmp_ge (tgt := 15) C dX11_makeGrid_9 dX11_makeGrid_10 rfl (fun q9 => ?_) (fun q9 => ?_)
    · have hv := (if_pos q9).symm.trans hv
      refine jr_lload_n C dX11_makeGrid_15 rfl 2 rfl ?_
      refine jr_ldc2 C kw_547 dX11_makeGrid_16 ?_
      refine jr_lcmp_gt (tgt := 43) C dX11_makeGrid_19 dX11_makeGrid_20 rfl (fun q19 => ?_) (fun q19 => ?_)
      · have hv := (if_pos q19).symm.trans hv
        exact jr_sub [] rfl (tX11_makeGrid_43 C K G  S hv _ _ hc)
      · have hv := (if_neg q19).symm.trans hv
        refine jr_lload C dX11_makeGrid_23 3 rfl ?_
        refine jr_ldc2 C kw_547 dX11_makeGrid_25 ?_
        refine jr_lcmp_gt (tgt := 43) C dX11_makeGrid_28 dX11_makeGrid_29 rfl (fun q28 => ?_) (fun q28 => ?_)
        · have hv := (if_pos q28).symm.trans hv
          exact jr_sub [] rfl (tX11_makeGrid_43 C K G  S hv _ _ hc)
        · have hv := (if_neg q28).symm.trans hv
          refine jr_aload_n C dX11_makeGrid_32 rfl 0 rfl ?_
          refine jr_iconst (v := 1) C dX11_makeGrid_33 (by decide) ?_
          refine jr_lload_n C dX11_makeGrid_34 rfl 2 rfl ?_
          refine jr_l2i C dX11_makeGrid_35 ?_
          refine jr_iadd C dX11_makeGrid_36 ?_
          obtain ⟨c37, hc37, hv⟩ := Option.bind_eq_some_iff.mp hv
          refine jc_callO (rest := []) C K (pX11_mayMake l G S (1 + v2.toInt32) hc37) oX11_mayMake kw_20 kw_504 rfl ⟨Nat.le_of_ble_eq_true rfl, Nat.le_of_ble_eq_true rfl⟩ rfl (Nat.le_of_ble_eq_true rfl) ⟨Nat.le_trans (Nat.le_add_right _ _) hc.1, Nat.le_trans (Nat.le_add_right _ _) hc.2⟩ dX11_makeGrid_37 ?_
          refine jr_if_ne (tgt := 46) C dX11_makeGrid_40 rfl (fun q40 => ?_) (fun q40 => ?_)
          · have hv := (if_neg q40).symm.trans hv
            obtain ⟨w46, hv, e1, e2, e3⟩ := addD_of hv
            rw [← e1]
            have hr : cells + 1 ≤ mc ∧ slots + 4 ≤ ms := ⟨by omega, by omega⟩
            refine jc_new C K 5 (fs := [.int 0, .int 0, .null, .null]) rfl kg_5 tyX8 tyX8_ok kw_508 kw_509 kw_79 (fun j hj => by rcases (show j = 0 ∨ j = 1 ∨ j = 2 ∨ j = 3 by omega) with rfl | rfl | rfl | rfl <;> rfl) hr.1 hr.2 dX11_makeGrid_46 ?_
            have hc : (cells + 1) + w46.2.1 ≤ mc ∧ (slots + 4) + w46.2.2 ≤ ms := ⟨by omega, by omega⟩
            exact tX11_makeGrid_49 C K G  (cnew c37.2 (.inr (5, [.int 0, .int 0, .null, .null]))) v1 v2 v4 (some (cSz c37.2)) hv _ _ hc
          · have hv := (if_pos q40).symm.trans hv
            exact jr_sub [] rfl (tX11_makeGrid_43 C K G  c37.2 hv _ _ hc)
    · have hv := (if_neg q9).symm.trans hv
      exact jr_sub [] rfl (tX11_makeGrid_13 C K G  S hv _ _ hc)
theorem pX11_makeGrid (l : Launch) {g : CG} (G : cSep g)   (S : CS) (v1 : Int32) (v2 : Int64) (v4 : Int64) {w : (Int32 × CS) × Nat × Nat} (hw : fX11_makeGrid S v1 v2 v4 = some w) {mc ms : Nat} (hc : 0 + w.2.1 ≤ mc ∧ 0 + w.2.2 ≤ ms) : cC l yX11_makeGrid cX11_makeGrid 8 (some .int) 3 mc ms g [.ref (co g), .int v1, .long v2, .long v4] S (some (.int w.1.1)) w.1.2 := cC_of (lv := [(0, .ref (co g)), (1, .int v1), (2, .long v2), (4, .long v4)]) (by decide +kernel) (Nat.le_of_ble_eq_true rfl) rfl (fun C K => tX11_makeGrid_0 C K G  S v1 v2 v4 hw 0 0 hc)
/-! RobotCell.cloneInts(ILRobotCell$Thing;)I -/
def fX11_cloneInts_26 (S : CS) : Option ((Int32 × CS) × Nat × Nat) :=
  some ((2, S), 0, 0)
def fX11_cloneInts_42 (S : CS) (v1 : Int32) (v3 : Option Nat) (t0 : Option Nat) : Option ((Int32 × CS) × Nat × Nat) :=
  if isKx S v3 [5] = true then (Option.bind (fX8_length S v3) (fun c45 => if isKx c45.2 t0 [5] = true then (Option.bind (fX8_init c45.2 t0 4 c45.1) (fun c48 => addD c48.2.1 c48.2.2 (if isKx c48.1 v3 [5] = true then (Option.bind (fX8_length c48.1 v3) (fun c59 => if isKx c59.2 t0 [5] = true then (Option.bind (fX8_takeFrom c59.2 t0 v3 0 0 c59.1) (fun c62 => Option.bind (fX11_giveNew c62.2 v1 t0) (fun c70 => some ((c70.1, c70.2), 0, 0)))) else none)) else none))) else none)) else none
def fX11_cloneInts (S : CS) (v1 : Int32) (v2 : Option Nat) : Option ((Int32 × CS) × Nat × Nat) :=
  onul v2 (some ((1, S), 0, 0)) (fun _ => Option.bind (cInst S v2 [5] [0, 1, 2, 3, 4, 6]) (fun c7 => if c7 = 0 then fX11_cloneInts_26 S else (if cCast S v2 [5] = true then (if isKx S v2 [5] = true then (Option.bind (fX8_kind S v2) (fun c19 => if c19.1 = 4 then (Option.bind (fX11_mayMake c19.2 1) (fun c30 => if c30.1 = 0 then some ((8, c30.2), 0, 0) else addD 1 4 (fX11_cloneInts_42 (cnew c30.2 (.inr (5, [.int 0, .int 0, .null, .null]))) v1 v2 (some (cSz c30.2))))) else fX11_cloneInts_26 c19.2)) else none) else none)))
theorem oX11_cloneInts : ok_c yX11_cloneInts cX11_cloneInts 5 (some .int) 2 (.instanceMethod yX11_cloneInts) := ⟨kw_599, ⟨kw_598, rfl⟩, kw_71, by decide +kernel⟩
set_option maxRecDepth 100000 in
set_option maxHeartbeats 1000000 in
theorem tX11_cloneInts_26 {p : Program} {l : Launch} {e : Env} {s : State} {m : MethodId} {args : Array Value} {below : List Frame} {meth : Method} {c : Code} {g : CG} {S0 : CS} {mc ms : Nat} (C : CC p s m args meth c yX11_cloneInts cX11_cloneInts 5 (some .int)) (K : cK g s) (G : cSep g)  (S : CS) {w : (Int32 × CS) × Nat × Nat} (hv : fX11_cloneInts_26 S = some w) (cells slots : Nat) (hc : cells + w.2.1 ≤ mc ∧ slots + w.2.2 ≤ ms) : CJ p l e s m args below meth c 5 3 mc ms g S0 (some (.int w.1.1)) w.1.2 26 [] [] S cells slots := by
  unfold fX11_cloneInts_26 at hv
  refine jr_iconst (v := 2) C dX11_cloneInts_26 (by decide) ?_
  cases hv
  exact jc_iret C K dX11_cloneInts_27 rfl ⟨Nat.le_trans (Nat.le_add_right _ _) hc.1, Nat.le_trans (Nat.le_add_right _ _) hc.2⟩
set_option maxRecDepth 100000 in
set_option maxHeartbeats 1000000 in
theorem tX11_cloneInts_42 {p : Program} {l : Launch} {e : Env} {s : State} {m : MethodId} {args : Array Value} {below : List Frame} {meth : Method} {c : Code} {g : CG} {S0 : CS} {mc ms : Nat} (C : CC p s m args meth c yX11_cloneInts cX11_cloneInts 5 (some .int)) (K : cK g s) (G : cSep g)  (S : CS) (v1 : Int32) (v3 : Option Nat) (t0 : Option Nat) {w : (Int32 × CS) × Nat × Nat} (hv : fX11_cloneInts_42 S v1 v3 t0 = some w) (cells slots : Nat) (hc : cells + w.2.1 ≤ mc ∧ slots + w.2.2 ≤ ms) : CJ p l e s m args below meth c 5 3 mc ms g S0 (some (.int w.1.1)) w.1.2 42 [(0, .ref (co g)), (1, .int v1), (3, va_rf v3)] [va_rf t0] S cells slots := by
  unfold fX11_cloneInts_42 at hv
  refine jr_dup C dX11_cloneInts_42 (cat_rf _) ?_
  refine jr_iconst (v := 4) C dX11_cloneInts_43 (by decide) ?_
  refine jr_naload_n C dX11_cloneInts_44 rfl 2 rfl ?_
  by_cases z45_5 : isKx S v3 [5] = true
  case pos =>
    have hv := (if_pos z45_5).symm.trans hv
    obtain ⟨c45, hc45, hv⟩ := Option.bind_eq_some_iff.mp hv
    refine jc_callT (ci := 5) (rest := [.int 4, va_rf t0, va_rf t0]) C K (pX8_length l G S v3  hc45) z45_5 rfl oX8_length kw_564 kw_562 rfl ⟨Nat.le_of_ble_eq_true rfl, Nat.le_of_ble_eq_true rfl⟩ rfl (by simp [cat_rf, cat_i, cat_l, cat_r]) ⟨Nat.le_trans (Nat.le_add_right _ _) hc.1, Nat.le_trans (Nat.le_add_right _ _) hc.2⟩ dX11_cloneInts_45 ?_
    by_cases z48 : isKx c45.2 t0 [5] = true
    case neg => exact op_none ((if_neg z48).symm.trans hv)
    have hv := (if_pos z48).symm.trans hv
    obtain ⟨c48, hc48, hv⟩ := Option.bind_eq_some_iff.mp hv
    obtain ⟨w48, hv, e1, e2, e3⟩ := addD_of hv
    rw [← e1]
    have hr : cells + c48.2.1 ≤ mc ∧ slots + c48.2.2 ≤ ms := ⟨by omega, by omega⟩
    refine jc_callI (rest := [va_rf t0]) C K (pX8_init l G c45.2 t0 4 c45.1 hc48 ⟨Nat.le_of_eq (Nat.zero_add _), Nat.le_of_eq (Nat.zero_add _)⟩) z48 oX8_init rfl kw_510 rfl ⟨Nat.le_of_ble_eq_true rfl, Nat.le_of_ble_eq_true rfl⟩ rfl (by simp [cat_rf, cat_i, cat_l, cat_r]) ⟨hr.1, hr.2⟩ dX11_cloneInts_48 ?_
    have hc : (cells + c48.2.1) + w48.2.1 ≤ mc ∧ (slots + c48.2.2) + w48.2.2 ≤ ms := ⟨by omega, by omega⟩
    refine jr_nastore (i := 4) (lv' := [(4, va_rf t0), (0, .ref (co g)), (1, .int v1), (3, va_rf v3)]) C dX11_cloneInts_51 (by decide) (by simp [cat_rf, cat_i, cat_l, cat_r]) ?_
    refine jr_naload C dX11_cloneInts_53 0 rfl ?_
    refine jr_naload_n C dX11_cloneInts_55 rfl 3 rfl ?_
    refine jr_iconst (v := 0) C dX11_cloneInts_56 (by decide) ?_
    refine jr_iconst (v := 0) C dX11_cloneInts_57 (by decide) ?_
    refine jr_naload_n C dX11_cloneInts_58 rfl 3 rfl ?_
    by_cases z59_5 : isKx c48.1 v3 [5] = true
    case pos =>
      have hv := (if_pos z59_5).symm.trans hv
      obtain ⟨c59, hc59, hv⟩ := Option.bind_eq_some_iff.mp hv
      refine jc_callT (ci := 5) (rest := [.int 0, .int 0, va_rf v3, va_rf t0]) C K (pX8_length l G c48.1 v3  hc59) z59_5 rfl oX8_length kw_564 kw_562 rfl ⟨Nat.le_of_ble_eq_true rfl, Nat.le_of_ble_eq_true rfl⟩ rfl (by simp [cat_rf, cat_i, cat_l, cat_r]) ⟨Nat.le_trans (Nat.le_add_right _ _) hc.1, Nat.le_trans (Nat.le_add_right _ _) hc.2⟩ dX11_cloneInts_59 ?_
      by_cases z62_5 : isKx c59.2 t0 [5] = true
      case pos =>
        have hv := (if_pos z62_5).symm.trans hv
        obtain ⟨c62, hc62, hv⟩ := Option.bind_eq_some_iff.mp hv
        refine jc_callT (ci := 5) (rest := []) C K (pX8_takeFrom l G c59.2 t0 v3 0 0 c59.1 hc62) z62_5 rfl oX8_takeFrom kw_584 kw_582 rfl ⟨Nat.le_of_ble_eq_true rfl, Nat.le_of_ble_eq_true rfl⟩ rfl (Nat.le_of_ble_eq_true rfl) ⟨Nat.le_trans (Nat.le_add_right _ _) hc.1, Nat.le_trans (Nat.le_add_right _ _) hc.2⟩ dX11_cloneInts_62 ?_
        refine jr_pop C dX11_cloneInts_65 rfl ?_
        refine jr_aload_n C dX11_cloneInts_66 rfl 1 rfl ?_
        refine jr_iload_n C dX11_cloneInts_67 rfl 2 rfl ?_
        refine jr_naload C dX11_cloneInts_68 0 rfl ?_
        obtain ⟨c70, hc70, hv⟩ := Option.bind_eq_some_iff.mp hv
        refine jc_callO (rest := []) C K (pX11_giveNew l G c62.2 v1 t0 hc70) oX11_giveNew kw_21 kw_531 rfl ⟨Nat.le_of_ble_eq_true rfl, Nat.le_of_ble_eq_true rfl⟩ rfl (Nat.le_of_ble_eq_true rfl) ⟨Nat.le_trans (Nat.le_add_right _ _) hc.1, Nat.le_trans (Nat.le_add_right _ _) hc.2⟩ dX11_cloneInts_70 ?_
        cases hv
        exact jc_iret C K dX11_cloneInts_73 rfl ⟨Nat.le_trans (Nat.le_add_right _ _) hc.1, Nat.le_trans (Nat.le_add_right _ _) hc.2⟩
      have hv := (if_neg z62_5).symm.trans hv
      exact op_none hv
    have hv := (if_neg z59_5).symm.trans hv
    exact op_none hv
  have hv := (if_neg z45_5).symm.trans hv
  exact op_none hv
set_option maxRecDepth 100000 in
set_option maxHeartbeats 1000000 in
theorem tX11_cloneInts_0 {p : Program} {l : Launch} {e : Env} {s : State} {m : MethodId} {args : Array Value} {below : List Frame} {meth : Method} {c : Code} {g : CG} {S0 : CS} {mc ms : Nat} (C : CC p s m args meth c yX11_cloneInts cX11_cloneInts 5 (some .int)) (K : cK g s) (G : cSep g)  (S : CS) (v1 : Int32) (v2 : Option Nat) {w : (Int32 × CS) × Nat × Nat} (hv : fX11_cloneInts S v1 v2 = some w) (cells slots : Nat) (hc : cells + w.2.1 ≤ mc ∧ slots + w.2.2 ≤ ms) : CJ p l e s m args below meth c 5 3 mc ms g S0 (some (.int w.1.1)) w.1.2 0 [(0, .ref (co g)), (1, .int v1), (2, va_rf v2)] [] S cells slots := by
  unfold fX11_cloneInts at hv
  refine jr_naload_n C dX11_cloneInts_0 rfl 2 rfl ?_
  refine jr_ifnonnull (tgt := 6) C dX11_cloneInts_1 rfl (fun a1 q1 => ?_) (fun q1 => ?_)
  · have hv := (onul_s q1).symm.trans hv
    refine jr_naload_n C dX11_cloneInts_6 rfl 2 rfl ?_
    obtain ⟨c7, hc7, hv⟩ := Option.bind_eq_some_iff.mp hv
    refine jc_inst C K hc7 y_Row n_Row kw_508 dX11_cloneInts_7 ?_
    refine jr_if_eq (tgt := 26) C dX11_cloneInts_10 rfl (fun q10 => ?_) (fun q10 => ?_)
    · have hv := (if_pos q10).symm.trans hv
      exact jr_sub [] rfl (tX11_cloneInts_26 C K G  S hv _ _ hc)
    · have hv := (if_neg q10).symm.trans hv
      refine jr_naload_n C dX11_cloneInts_13 rfl 2 rfl ?_
      by_cases z14 : cCast S v2 [5] = true
      case neg => exact op_none ((if_neg z14).symm.trans hv)
      have hv := (if_pos z14).symm.trans hv
      refine jc_cast C K z14 y_Row kw_508 dX11_cloneInts_14 ?_
      refine jr_nastore_n (i := 3) (lv' := [(3, va_rf v2), (0, .ref (co g)), (1, .int v1), (2, va_rf v2)]) C dX11_cloneInts_17 rfl (by decide) (by simp [cat_rf, cat_i, cat_l, cat_r]) ?_
      refine jr_naload_n C dX11_cloneInts_18 rfl 0 rfl ?_
      by_cases z19_5 : isKx S v2 [5] = true
      case pos =>
        have hv := (if_pos z19_5).symm.trans hv
        obtain ⟨c19, hc19, hv⟩ := Option.bind_eq_some_iff.mp hv
        refine jc_callT (ci := 5) (rest := []) C K (pX8_kind l G S v2  hc19) z19_5 rfl oX8_kind kw_602 kw_600 rfl ⟨Nat.le_of_ble_eq_true rfl, Nat.le_of_ble_eq_true rfl⟩ rfl (Nat.le_of_ble_eq_true rfl) ⟨Nat.le_trans (Nat.le_add_right _ _) hc.1, Nat.le_trans (Nat.le_add_right _ _) hc.2⟩ dX11_cloneInts_19 ?_
        refine jr_iconst (v := 4) C dX11_cloneInts_22 (by decide) ?_
        refine jr_icmp_eq (tgt := 28) C dX11_cloneInts_23 rfl (fun q23 => ?_) (fun q23 => ?_)
        · have hv := (if_pos q23).symm.trans hv
          refine jr_aload_n C dX11_cloneInts_28 rfl 1 rfl ?_
          refine jr_iconst (v := 1) C dX11_cloneInts_29 (by decide) ?_
          obtain ⟨c30, hc30, hv⟩ := Option.bind_eq_some_iff.mp hv
          refine jc_callO (rest := []) C K (pX11_mayMake l G c19.2 1 hc30) oX11_mayMake kw_20 kw_504 rfl ⟨Nat.le_of_ble_eq_true rfl, Nat.le_of_ble_eq_true rfl⟩ rfl (Nat.le_of_ble_eq_true rfl) ⟨Nat.le_trans (Nat.le_add_right _ _) hc.1, Nat.le_trans (Nat.le_add_right _ _) hc.2⟩ dX11_cloneInts_30 ?_
          refine jr_if_ne (tgt := 39) C dX11_cloneInts_33 rfl (fun q33 => ?_) (fun q33 => ?_)
          · have hv := (if_neg q33).symm.trans hv
            obtain ⟨w39, hv, e1, e2, e3⟩ := addD_of hv
            rw [← e1]
            have hr : cells + 1 ≤ mc ∧ slots + 4 ≤ ms := ⟨by omega, by omega⟩
            refine jc_new C K 5 (fs := [.int 0, .int 0, .null, .null]) rfl kg_5 tyX8 tyX8_ok kw_508 kw_509 kw_79 (fun j hj => by rcases (show j = 0 ∨ j = 1 ∨ j = 2 ∨ j = 3 by omega) with rfl | rfl | rfl | rfl <;> rfl) hr.1 hr.2 dX11_cloneInts_39 ?_
            have hc : (cells + 1) + w39.2.1 ≤ mc ∧ (slots + 4) + w39.2.2 ≤ ms := ⟨by omega, by omega⟩
            exact jr_sub [1, 2, 0] rfl (tX11_cloneInts_42 C K G  (cnew c30.2 (.inr (5, [.int 0, .int 0, .null, .null]))) v1 v2 (some (cSz c30.2)) hv _ _ hc)
          · have hv := (if_pos q33).symm.trans hv
            refine jr_bipush (v := 8) C dX11_cloneInts_36 (by decide) ?_
            cases hv
            exact jc_iret C K dX11_cloneInts_38 rfl ⟨Nat.le_trans (Nat.le_add_right _ _) hc.1, Nat.le_trans (Nat.le_add_right _ _) hc.2⟩
        · have hv := (if_neg q23).symm.trans hv
          exact jr_sub [] rfl (tX11_cloneInts_26 C K G  c19.2 hv _ _ hc)
      have hv := (if_neg z19_5).symm.trans hv
      exact op_none hv
  · have hv := (onul_n q1).symm.trans hv
    refine jr_iconst (v := 1) C dX11_cloneInts_4 (by decide) ?_
    cases hv
    exact jc_iret C K dX11_cloneInts_5 rfl ⟨Nat.le_trans (Nat.le_add_right _ _) hc.1, Nat.le_trans (Nat.le_add_right _ _) hc.2⟩
theorem pX11_cloneInts (l : Launch) {g : CG} (G : cSep g)   (S : CS) (v1 : Int32) (v2 : Option Nat) {w : (Int32 × CS) × Nat × Nat} (hw : fX11_cloneInts S v1 v2 = some w) {mc ms : Nat} (hc : 0 + w.2.1 ≤ mc ∧ 0 + w.2.2 ≤ ms) : cC l yX11_cloneInts cX11_cloneInts 5 (some .int) 3 mc ms g [.ref (co g), .int v1, va_rf v2] S (some (.int w.1.1)) w.1.2 := cC_of (lv := [(0, .ref (co g)), (1, .int v1), (2, va_rf v2)]) (by decide +kernel) (by simp [lg_sl, cat_rf, cat_i, cat_l, cat_r]) (by simp [lv_args, cat_rf, cat_i, cat_l, cat_r]) (fun C K => tX11_cloneInts_0 C K G  S v1 v2 hw 0 0 hc)
/-! RobotCell.makePose(IZ)I -/
def fX11_makePose_34 (S : CS) (t1 : Int32) (t2 : Option Nat) : Option ((Int32 × CS) × Nat × Nat) :=
  Option.bind (fX11_giveNew S t1 t2) (fun c34 => some ((c34.1, c34.2), 0, 0))
def fX11_makePose_30 (S : CS) (t1 : Int32) (t2 : Option Nat) : Option ((Int32 × CS) × Nat × Nat) :=
  if isKx S t2 [2, 1] = true then (Option.bind (fX4_init S t2) (fun c31 => fX11_makePose_34 c31 t1 t2)) else none
def fX11_makePose_20 (S : CS) (t1 : Int32) (t2 : Option Nat) : Option ((Int32 × CS) × Nat × Nat) :=
  if isKx S t2 [1] = true then (Option.bind (fX3_init S t2) (fun c21 => fX11_makePose_34 c21 t1 t2)) else none
def fX11_makePose (S : CS) (v1 : Int32) (v2 : Int32) : Option ((Int32 × CS) × Nat × Nat) :=
  Option.bind (fX11_mayMake S 1) (fun c2 => if c2.1 = 0 then some ((8, c2.2), 0, 0) else (if v2 = 0 then addD 1 5 (fX11_makePose_30 (cnew c2.2 (.inr (2, [.long 0, .long 0, .long 0, .int 0, .null]))) v1 (some (cSz c2.2))) else addD 1 6 (fX11_makePose_20 (cnew c2.2 (.inr (1, [.long 0, .long 0, .long 0, .int 0, .null, .long 0]))) v1 (some (cSz c2.2)))))
theorem oX11_makePose : ok_c yX11_makePose cX11_makePose 3 (some .int) 2 (.instanceMethod yX11_makePose) := ⟨kw_666, ⟨kw_665, rfl⟩, kw_71, by decide +kernel⟩
set_option maxRecDepth 100000 in
set_option maxHeartbeats 1000000 in
theorem tX11_makePose_34 {p : Program} {l : Launch} {e : Env} {s : State} {m : MethodId} {args : Array Value} {below : List Frame} {meth : Method} {c : Code} {g : CG} {S0 : CS} {mc ms : Nat} (C : CC p s m args meth c yX11_makePose cX11_makePose 3 (some .int)) (K : cK g s) (G : cSep g)  (S : CS) (t1 : Int32) (t2 : Option Nat) {w : (Int32 × CS) × Nat × Nat} (hv : fX11_makePose_34 S t1 t2 = some w) (cells slots : Nat) (hc : cells + w.2.1 ≤ mc ∧ slots + w.2.2 ≤ ms) : CJ p l e s m args below meth c 3 4 mc ms g S0 (some (.int w.1.1)) w.1.2 34 [] [va_rf t2, .int t1, .ref (co g)] S cells slots := by
  unfold fX11_makePose_34 at hv
  obtain ⟨c34, hc34, hv⟩ := Option.bind_eq_some_iff.mp hv
  refine jc_callO (rest := []) C K (pX11_giveNew l G S t1 t2 hc34) oX11_giveNew kw_21 kw_531 rfl ⟨Nat.le_of_ble_eq_true rfl, Nat.le_of_ble_eq_true rfl⟩ rfl (Nat.le_of_ble_eq_true rfl) ⟨Nat.le_trans (Nat.le_add_right _ _) hc.1, Nat.le_trans (Nat.le_add_right _ _) hc.2⟩ dX11_makePose_34 ?_
  cases hv
  exact jc_iret C K dX11_makePose_37 rfl ⟨Nat.le_trans (Nat.le_add_right _ _) hc.1, Nat.le_trans (Nat.le_add_right _ _) hc.2⟩
set_option maxRecDepth 100000 in
set_option maxHeartbeats 1000000 in
theorem tX11_makePose_30 {p : Program} {l : Launch} {e : Env} {s : State} {m : MethodId} {args : Array Value} {below : List Frame} {meth : Method} {c : Code} {g : CG} {S0 : CS} {mc ms : Nat} (C : CC p s m args meth c yX11_makePose cX11_makePose 3 (some .int)) (K : cK g s) (G : cSep g)  (S : CS) (t1 : Int32) (t2 : Option Nat) {w : (Int32 × CS) × Nat × Nat} (hv : fX11_makePose_30 S t1 t2 = some w) (cells slots : Nat) (hc : cells + w.2.1 ≤ mc ∧ slots + w.2.2 ≤ ms) : CJ p l e s m args below meth c 3 4 mc ms g S0 (some (.int w.1.1)) w.1.2 30 [] [va_rf t2, .int t1, .ref (co g)] S cells slots := by
  unfold fX11_makePose_30 at hv
  refine jr_dup C dX11_makePose_30 (cat_rf _) ?_
  by_cases z31 : isKx S t2 [2, 1] = true
  case neg => exact op_none ((if_neg z31).symm.trans hv)
  have hv := (if_pos z31).symm.trans hv
  obtain ⟨c31, hc31, hv⟩ := Option.bind_eq_some_iff.mp hv
  refine jc_callN (rest := [va_rf t2, .int t1, .ref (co g)]) C K (pX4_init l G S t2  hc31) z31 oX4_init rfl kw_703 rfl ⟨Nat.le_of_ble_eq_true rfl, Nat.le_of_ble_eq_true rfl⟩ rfl (by simp [cat_rf, cat_i, cat_l, cat_r]) ⟨Nat.le_trans (Nat.le_add_right _ _) hc.1, Nat.le_trans (Nat.le_add_right _ _) hc.2⟩ dX11_makePose_31 ?_
  exact tX11_makePose_34 C K G  c31 t1 t2 hv _ _ hc
set_option maxRecDepth 100000 in
set_option maxHeartbeats 1000000 in
theorem tX11_makePose_20 {p : Program} {l : Launch} {e : Env} {s : State} {m : MethodId} {args : Array Value} {below : List Frame} {meth : Method} {c : Code} {g : CG} {S0 : CS} {mc ms : Nat} (C : CC p s m args meth c yX11_makePose cX11_makePose 3 (some .int)) (K : cK g s) (G : cSep g)  (S : CS) (t1 : Int32) (t2 : Option Nat) {w : (Int32 × CS) × Nat × Nat} (hv : fX11_makePose_20 S t1 t2 = some w) (cells slots : Nat) (hc : cells + w.2.1 ≤ mc ∧ slots + w.2.2 ≤ ms) : CJ p l e s m args below meth c 3 4 mc ms g S0 (some (.int w.1.1)) w.1.2 20 [] [va_rf t2, .int t1, .ref (co g)] S cells slots := by
  unfold fX11_makePose_20 at hv
  refine jr_dup C dX11_makePose_20 (cat_rf _) ?_
  by_cases z21 : isKx S t2 [1] = true
  case neg => exact op_none ((if_neg z21).symm.trans hv)
  have hv := (if_pos z21).symm.trans hv
  obtain ⟨c21, hc21, hv⟩ := Option.bind_eq_some_iff.mp hv
  refine jc_callN (rest := [va_rf t2, .int t1, .ref (co g)]) C K (pX3_init l G S t2  hc21) z21 oX3_init rfl kw_669 rfl ⟨Nat.le_of_ble_eq_true rfl, Nat.le_of_ble_eq_true rfl⟩ rfl (by simp [cat_rf, cat_i, cat_l, cat_r]) ⟨Nat.le_trans (Nat.le_add_right _ _) hc.1, Nat.le_trans (Nat.le_add_right _ _) hc.2⟩ dX11_makePose_21 ?_
  refine jr_goto (tgt := 34) C dX11_makePose_24 rfl ?_
  exact tX11_makePose_34 C K G  c21 t1 t2 hv _ _ hc
set_option maxRecDepth 100000 in
set_option maxHeartbeats 1000000 in
theorem tX11_makePose_0 {p : Program} {l : Launch} {e : Env} {s : State} {m : MethodId} {args : Array Value} {below : List Frame} {meth : Method} {c : Code} {g : CG} {S0 : CS} {mc ms : Nat} (C : CC p s m args meth c yX11_makePose cX11_makePose 3 (some .int)) (K : cK g s) (G : cSep g)  (S : CS) (v1 : Int32) (v2 : Int32) {w : (Int32 × CS) × Nat × Nat} (hv : fX11_makePose S v1 v2 = some w) (cells slots : Nat) (hc : cells + w.2.1 ≤ mc ∧ slots + w.2.2 ≤ ms) : CJ p l e s m args below meth c 3 4 mc ms g S0 (some (.int w.1.1)) w.1.2 0 [(0, .ref (co g)), (1, .int v1), (2, .int v2)] [] S cells slots := by
  unfold fX11_makePose at hv
  refine jr_aload_n C dX11_makePose_0 rfl 0 rfl ?_
  refine jr_iconst (v := 1) C dX11_makePose_1 (by decide) ?_
  obtain ⟨c2, hc2, hv⟩ := Option.bind_eq_some_iff.mp hv
  refine jc_callO (rest := []) C K (pX11_mayMake l G S 1 hc2) oX11_mayMake kw_20 kw_504 rfl ⟨Nat.le_of_ble_eq_true rfl, Nat.le_of_ble_eq_true rfl⟩ rfl (Nat.le_of_ble_eq_true rfl) ⟨Nat.le_trans (Nat.le_add_right _ _) hc.1, Nat.le_trans (Nat.le_add_right _ _) hc.2⟩ dX11_makePose_2 ?_
  refine jr_if_ne (tgt := 11) C dX11_makePose_5 rfl (fun q5 => ?_) (fun q5 => ?_)
  · have hv := (if_neg q5).symm.trans hv
    refine jr_aload_n C dX11_makePose_11 rfl 0 rfl ?_
    refine jr_iload_n C dX11_makePose_12 rfl 1 rfl ?_
    refine jr_iload_n C dX11_makePose_13 rfl 2 rfl ?_
    refine jr_if_eq (tgt := 27) C dX11_makePose_14 rfl (fun q14 => ?_) (fun q14 => ?_)
    · have hv := (if_pos q14).symm.trans hv
      obtain ⟨w27, hv, e1, e2, e3⟩ := addD_of hv
      rw [← e1]
      have hr : cells + 1 ≤ mc ∧ slots + 5 ≤ ms := ⟨by omega, by omega⟩
      refine jc_new C K 2 (fs := [.long 0, .long 0, .long 0, .int 0, .null]) rfl kg_2 tyX4 tyX4_ok kw_701 kw_702 kw_81 (fun j hj => by rcases (show j = 0 ∨ j = 1 ∨ j = 2 ∨ j = 3 ∨ j = 4 by omega) with rfl | rfl | rfl | rfl | rfl <;> rfl) hr.1 hr.2 dX11_makePose_27 ?_
      have hc : (cells + 1) + w27.2.1 ≤ mc ∧ (slots + 5) + w27.2.2 ≤ ms := ⟨by omega, by omega⟩
      exact jr_sub [] rfl (tX11_makePose_30 C K G  (cnew c2.2 (.inr (2, [.long 0, .long 0, .long 0, .int 0, .null]))) v1 (some (cSz c2.2)) hv _ _ hc)
    · have hv := (if_neg q14).symm.trans hv
      obtain ⟨w17, hv, e1, e2, e3⟩ := addD_of hv
      rw [← e1]
      have hr : cells + 1 ≤ mc ∧ slots + 6 ≤ ms := ⟨by omega, by omega⟩
      refine jc_new C K 1 (fs := [.long 0, .long 0, .long 0, .int 0, .null, .long 0]) rfl kg_1 tyX3 tyX3_ok kw_667 kw_668 kw_82 (fun j hj => by rcases (show j = 0 ∨ j = 1 ∨ j = 2 ∨ j = 3 ∨ j = 4 ∨ j = 5 by omega) with rfl | rfl | rfl | rfl | rfl | rfl <;> rfl) hr.1 hr.2 dX11_makePose_17 ?_
      have hc : (cells + 1) + w17.2.1 ≤ mc ∧ (slots + 6) + w17.2.2 ≤ ms := ⟨by omega, by omega⟩
      exact jr_sub [] rfl (tX11_makePose_20 C K G  (cnew c2.2 (.inr (1, [.long 0, .long 0, .long 0, .int 0, .null, .long 0]))) v1 (some (cSz c2.2)) hv _ _ hc)
  · have hv := (if_pos q5).symm.trans hv
    refine jr_bipush (v := 8) C dX11_makePose_8 (by decide) ?_
    cases hv
    exact jc_iret C K dX11_makePose_10 rfl ⟨Nat.le_trans (Nat.le_add_right _ _) hc.1, Nat.le_trans (Nat.le_add_right _ _) hc.2⟩
theorem pX11_makePose (l : Launch) {g : CG} (G : cSep g)   (S : CS) (v1 : Int32) (v2 : Int32) {w : (Int32 × CS) × Nat × Nat} (hw : fX11_makePose S v1 v2 = some w) {mc ms : Nat} (hc : 0 + w.2.1 ≤ mc ∧ 0 + w.2.2 ≤ ms) : cC l yX11_makePose cX11_makePose 3 (some .int) 4 mc ms g [.ref (co g), .int v1, .int v2] S (some (.int w.1.1)) w.1.2 := cC_of (lv := [(0, .ref (co g)), (1, .int v1), (2, .int v2)]) (by decide +kernel) (Nat.le_of_ble_eq_true rfl) rfl (fun C K => tX11_makePose_0 C K G  S v1 v2 hw 0 0 hc)
/-! RobotCell.makeDevice(II)I -/
def fX11_makeDevice_45 (S : CS) (t1 : Int32) (t2 : Option Nat) : Option ((Int32 × CS) × Nat × Nat) :=
  if isKx S t2 [0, 4, 6] = true then (Option.bind (fX0_init S t2) (fun c46 => Option.bind (fX11_giveNew c46 t1 t2) (fun c49 => some ((c49.1, c49.2), 0, 0)))) else none
def fX11_makeDevice_58 (S : CS) (t1 : Int32) (t2 : Option Nat) : Option ((Int32 × CS) × Nat × Nat) :=
  if isKx S t2 [4, 6] = true then (Option.bind (fX6_init S t2) (fun c59 => Option.bind (fX11_giveNew c59 t1 t2) (fun c62 => some ((c62.1, c62.2), 0, 0)))) else none
def fX11_makeDevice_71 (S : CS) (t1 : Int32) (t2 : Option Nat) : Option ((Int32 × CS) × Nat × Nat) :=
  if isKx S t2 [6] = true then (Option.bind (fX10_init S t2) (fun c72 => Option.bind (fX11_giveNew c72 t1 t2) (fun c75 => some ((c75.1, c75.2), 0, 0)))) else none
def fX11_makeDevice_84 (S : CS) (t1 : Int32) (t2 : Option Nat) : Option ((Int32 × CS) × Nat × Nat) :=
  if isKx S t2 [3] = true then (Option.bind (fX5_init S t2) (fun c85 => addD c85.2.1 c85.2.2 (Option.bind (fX11_giveNew c85.1 t1 t2) (fun c88 => some ((c88.1, c88.2), 0, 0))))) else none
def fX11_makeDevice (S : CS) (v1 : Int32) (v2 : Int32) : Option ((Int32 × CS) × Nat × Nat) :=
  Option.bind (fX11_mayMake S 1) (fun c2 => if c2.1 = 0 then some ((8, c2.2), 0, 0) else (if v2 = 0 then addD 1 3 (fX11_makeDevice_45 (cnew c2.2 (.inr (0, [.long 0, .long 0, .long 0]))) v1 (some (cSz c2.2))) else if v2 = 1 then addD 1 3 (fX11_makeDevice_58 (cnew c2.2 (.inr (4, [.long 0, .long 0, .long 0]))) v1 (some (cSz c2.2))) else if v2 = 2 then addD 1 3 (fX11_makeDevice_71 (cnew c2.2 (.inr (6, [.long 0, .long 0, .long 0]))) v1 (some (cSz c2.2))) else addD 1 2 (fX11_makeDevice_84 (cnew c2.2 (.inr (3, [.null, .long 0]))) v1 (some (cSz c2.2)))))
theorem oX11_makeDevice : ok_c yX11_makeDevice cX11_makeDevice 3 (some .int) 2 (.instanceMethod yX11_makeDevice) := ⟨kw_751, ⟨kw_750, rfl⟩, kw_71, by decide +kernel⟩
set_option maxRecDepth 100000 in
set_option maxHeartbeats 1000000 in
theorem tX11_makeDevice_45 {p : Program} {l : Launch} {e : Env} {s : State} {m : MethodId} {args : Array Value} {below : List Frame} {meth : Method} {c : Code} {g : CG} {S0 : CS} {mc ms : Nat} (C : CC p s m args meth c yX11_makeDevice cX11_makeDevice 3 (some .int)) (K : cK g s) (G : cSep g)  (S : CS) (t1 : Int32) (t2 : Option Nat) {w : (Int32 × CS) × Nat × Nat} (hv : fX11_makeDevice_45 S t1 t2 = some w) (cells slots : Nat) (hc : cells + w.2.1 ≤ mc ∧ slots + w.2.2 ≤ ms) : CJ p l e s m args below meth c 3 6 mc ms g S0 (some (.int w.1.1)) w.1.2 45 [] [va_rf t2, .int t1, .ref (co g)] S cells slots := by
  unfold fX11_makeDevice_45 at hv
  refine jr_dup C dX11_makeDevice_45 (cat_rf _) ?_
  by_cases z46 : isKx S t2 [0, 4, 6] = true
  case neg => exact op_none ((if_neg z46).symm.trans hv)
  have hv := (if_pos z46).symm.trans hv
  obtain ⟨c46, hc46, hv⟩ := Option.bind_eq_some_iff.mp hv
  refine jc_callN (rest := [va_rf t2, .int t1, .ref (co g)]) C K (pX0_init l G S t2  hc46) z46 oX0_init rfl kw_754 rfl ⟨Nat.le_of_ble_eq_true rfl, Nat.le_of_ble_eq_true rfl⟩ rfl (by simp [cat_rf, cat_i, cat_l, cat_r]) ⟨Nat.le_trans (Nat.le_add_right _ _) hc.1, Nat.le_trans (Nat.le_add_right _ _) hc.2⟩ dX11_makeDevice_46 ?_
  obtain ⟨c49, hc49, hv⟩ := Option.bind_eq_some_iff.mp hv
  refine jc_callO (rest := []) C K (pX11_giveNew l G c46 t1 t2 hc49) oX11_giveNew kw_21 kw_531 rfl ⟨Nat.le_of_ble_eq_true rfl, Nat.le_of_ble_eq_true rfl⟩ rfl (Nat.le_of_ble_eq_true rfl) ⟨Nat.le_trans (Nat.le_add_right _ _) hc.1, Nat.le_trans (Nat.le_add_right _ _) hc.2⟩ dX11_makeDevice_49 ?_
  cases hv
  exact jc_iret C K dX11_makeDevice_52 rfl ⟨Nat.le_trans (Nat.le_add_right _ _) hc.1, Nat.le_trans (Nat.le_add_right _ _) hc.2⟩
set_option maxRecDepth 100000 in
set_option maxHeartbeats 1000000 in
theorem tX11_makeDevice_58 {p : Program} {l : Launch} {e : Env} {s : State} {m : MethodId} {args : Array Value} {below : List Frame} {meth : Method} {c : Code} {g : CG} {S0 : CS} {mc ms : Nat} (C : CC p s m args meth c yX11_makeDevice cX11_makeDevice 3 (some .int)) (K : cK g s) (G : cSep g)  (S : CS) (t1 : Int32) (t2 : Option Nat) {w : (Int32 × CS) × Nat × Nat} (hv : fX11_makeDevice_58 S t1 t2 = some w) (cells slots : Nat) (hc : cells + w.2.1 ≤ mc ∧ slots + w.2.2 ≤ ms) : CJ p l e s m args below meth c 3 6 mc ms g S0 (some (.int w.1.1)) w.1.2 58 [] [va_rf t2, .int t1, .ref (co g)] S cells slots := by
  unfold fX11_makeDevice_58 at hv
  refine jr_dup C dX11_makeDevice_58 (cat_rf _) ?_
  by_cases z59 : isKx S t2 [4, 6] = true
  case neg => exact op_none ((if_neg z59).symm.trans hv)
  have hv := (if_pos z59).symm.trans hv
  obtain ⟨c59, hc59, hv⟩ := Option.bind_eq_some_iff.mp hv
  refine jc_callN (rest := [va_rf t2, .int t1, .ref (co g)]) C K (pX6_init l G S t2  hc59) z59 oX6_init rfl kw_773 rfl ⟨Nat.le_of_ble_eq_true rfl, Nat.le_of_ble_eq_true rfl⟩ rfl (by simp [cat_rf, cat_i, cat_l, cat_r]) ⟨Nat.le_trans (Nat.le_add_right _ _) hc.1, Nat.le_trans (Nat.le_add_right _ _) hc.2⟩ dX11_makeDevice_59 ?_
  obtain ⟨c62, hc62, hv⟩ := Option.bind_eq_some_iff.mp hv
  refine jc_callO (rest := []) C K (pX11_giveNew l G c59 t1 t2 hc62) oX11_giveNew kw_21 kw_531 rfl ⟨Nat.le_of_ble_eq_true rfl, Nat.le_of_ble_eq_true rfl⟩ rfl (Nat.le_of_ble_eq_true rfl) ⟨Nat.le_trans (Nat.le_add_right _ _) hc.1, Nat.le_trans (Nat.le_add_right _ _) hc.2⟩ dX11_makeDevice_62 ?_
  cases hv
  exact jc_iret C K dX11_makeDevice_65 rfl ⟨Nat.le_trans (Nat.le_add_right _ _) hc.1, Nat.le_trans (Nat.le_add_right _ _) hc.2⟩
set_option maxRecDepth 100000 in
set_option maxHeartbeats 1000000 in
theorem tX11_makeDevice_71 {p : Program} {l : Launch} {e : Env} {s : State} {m : MethodId} {args : Array Value} {below : List Frame} {meth : Method} {c : Code} {g : CG} {S0 : CS} {mc ms : Nat} (C : CC p s m args meth c yX11_makeDevice cX11_makeDevice 3 (some .int)) (K : cK g s) (G : cSep g)  (S : CS) (t1 : Int32) (t2 : Option Nat) {w : (Int32 × CS) × Nat × Nat} (hv : fX11_makeDevice_71 S t1 t2 = some w) (cells slots : Nat) (hc : cells + w.2.1 ≤ mc ∧ slots + w.2.2 ≤ ms) : CJ p l e s m args below meth c 3 6 mc ms g S0 (some (.int w.1.1)) w.1.2 71 [] [va_rf t2, .int t1, .ref (co g)] S cells slots := by
  unfold fX11_makeDevice_71 at hv
  refine jr_dup C dX11_makeDevice_71 (cat_rf _) ?_
  by_cases z72 : isKx S t2 [6] = true
  case neg => exact op_none ((if_neg z72).symm.trans hv)
  have hv := (if_pos z72).symm.trans hv
  obtain ⟨c72, hc72, hv⟩ := Option.bind_eq_some_iff.mp hv
  refine jc_callN (rest := [va_rf t2, .int t1, .ref (co g)]) C K (pX10_init l G S t2  hc72) z72 oX10_init rfl kw_783 rfl ⟨Nat.le_of_ble_eq_true rfl, Nat.le_of_ble_eq_true rfl⟩ rfl (by simp [cat_rf, cat_i, cat_l, cat_r]) ⟨Nat.le_trans (Nat.le_add_right _ _) hc.1, Nat.le_trans (Nat.le_add_right _ _) hc.2⟩ dX11_makeDevice_72 ?_
  obtain ⟨c75, hc75, hv⟩ := Option.bind_eq_some_iff.mp hv
  refine jc_callO (rest := []) C K (pX11_giveNew l G c72 t1 t2 hc75) oX11_giveNew kw_21 kw_531 rfl ⟨Nat.le_of_ble_eq_true rfl, Nat.le_of_ble_eq_true rfl⟩ rfl (Nat.le_of_ble_eq_true rfl) ⟨Nat.le_trans (Nat.le_add_right _ _) hc.1, Nat.le_trans (Nat.le_add_right _ _) hc.2⟩ dX11_makeDevice_75 ?_
  cases hv
  exact jc_iret C K dX11_makeDevice_78 rfl ⟨Nat.le_trans (Nat.le_add_right _ _) hc.1, Nat.le_trans (Nat.le_add_right _ _) hc.2⟩
set_option maxRecDepth 100000 in
set_option maxHeartbeats 1000000 in
theorem tX11_makeDevice_84 {p : Program} {l : Launch} {e : Env} {s : State} {m : MethodId} {args : Array Value} {below : List Frame} {meth : Method} {c : Code} {g : CG} {S0 : CS} {mc ms : Nat} (C : CC p s m args meth c yX11_makeDevice cX11_makeDevice 3 (some .int)) (K : cK g s) (G : cSep g)  (S : CS) (t1 : Int32) (t2 : Option Nat) {w : (Int32 × CS) × Nat × Nat} (hv : fX11_makeDevice_84 S t1 t2 = some w) (cells slots : Nat) (hc : cells + w.2.1 ≤ mc ∧ slots + w.2.2 ≤ ms) : CJ p l e s m args below meth c 3 6 mc ms g S0 (some (.int w.1.1)) w.1.2 84 [] [va_rf t2, .int t1, .ref (co g)] S cells slots := by
  unfold fX11_makeDevice_84 at hv
  refine jr_dup C dX11_makeDevice_84 (cat_rf _) ?_
  by_cases z85 : isKx S t2 [3] = true
  case neg => exact op_none ((if_neg z85).symm.trans hv)
  have hv := (if_pos z85).symm.trans hv
  obtain ⟨c85, hc85, hv⟩ := Option.bind_eq_some_iff.mp hv
  obtain ⟨w85, hv, e1, e2, e3⟩ := addD_of hv
  rw [← e1]
  have hr : cells + c85.2.1 ≤ mc ∧ slots + c85.2.2 ≤ ms := ⟨by omega, by omega⟩
  refine jc_callN (rest := [va_rf t2, .int t1, .ref (co g)]) C K (pX5_init l G S t2  hc85 ⟨Nat.le_of_eq (Nat.zero_add _), Nat.le_of_eq (Nat.zero_add _)⟩) z85 oX5_init rfl kw_793 rfl ⟨Nat.le_of_ble_eq_true rfl, Nat.le_of_ble_eq_true rfl⟩ rfl (by simp [cat_rf, cat_i, cat_l, cat_r]) ⟨hr.1, hr.2⟩ dX11_makeDevice_85 ?_
  have hc : (cells + c85.2.1) + w85.2.1 ≤ mc ∧ (slots + c85.2.2) + w85.2.2 ≤ ms := ⟨by omega, by omega⟩
  obtain ⟨c88, hc88, hv⟩ := Option.bind_eq_some_iff.mp hv
  refine jc_callO (rest := []) C K (pX11_giveNew l G c85.1 t1 t2 hc88) oX11_giveNew kw_21 kw_531 rfl ⟨Nat.le_of_ble_eq_true rfl, Nat.le_of_ble_eq_true rfl⟩ rfl (Nat.le_of_ble_eq_true rfl) ⟨Nat.le_trans (Nat.le_add_right _ _) hc.1, Nat.le_trans (Nat.le_add_right _ _) hc.2⟩ dX11_makeDevice_88 ?_
  cases hv
  exact jc_iret C K dX11_makeDevice_91 rfl ⟨Nat.le_trans (Nat.le_add_right _ _) hc.1, Nat.le_trans (Nat.le_add_right _ _) hc.2⟩
set_option maxRecDepth 100000 in
set_option maxHeartbeats 1000000 in
theorem tX11_makeDevice_0 {p : Program} {l : Launch} {e : Env} {s : State} {m : MethodId} {args : Array Value} {below : List Frame} {meth : Method} {c : Code} {g : CG} {S0 : CS} {mc ms : Nat} (C : CC p s m args meth c yX11_makeDevice cX11_makeDevice 3 (some .int)) (K : cK g s) (G : cSep g)  (S : CS) (v1 : Int32) (v2 : Int32) {w : (Int32 × CS) × Nat × Nat} (hv : fX11_makeDevice S v1 v2 = some w) (cells slots : Nat) (hc : cells + w.2.1 ≤ mc ∧ slots + w.2.2 ≤ ms) : CJ p l e s m args below meth c 3 6 mc ms g S0 (some (.int w.1.1)) w.1.2 0 [(0, .ref (co g)), (1, .int v1), (2, .int v2)] [] S cells slots := by
  unfold fX11_makeDevice at hv
  refine jr_aload_n C dX11_makeDevice_0 rfl 0 rfl ?_
  refine jr_iconst (v := 1) C dX11_makeDevice_1 (by decide) ?_
  obtain ⟨c2, hc2, hv⟩ := Option.bind_eq_some_iff.mp hv
  refine jc_callO (rest := []) C K (pX11_mayMake l G S 1 hc2) oX11_mayMake kw_20 kw_504 rfl ⟨Nat.le_of_ble_eq_true rfl, Nat.le_of_ble_eq_true rfl⟩ rfl (Nat.le_of_ble_eq_true rfl) ⟨Nat.le_trans (Nat.le_add_right _ _) hc.1, Nat.le_trans (Nat.le_add_right _ _) hc.2⟩ dX11_makeDevice_2 ?_
  refine jr_if_ne (tgt := 11) C dX11_makeDevice_5 rfl (fun q5 => ?_) (fun q5 => ?_)
  · have hv := (if_neg q5).symm.trans hv
    refine jr_iload_n C dX11_makeDevice_11 rfl 2 rfl ?_
    by_cases q12_0 : v2 = 0
    · have hv := (if_pos q12_0).symm.trans hv
      refine jr_tableIn (off := 28) (tgt := 40) C dX11_makeDevice_12 (by rw [q12_0]; decide) (by rw [q12_0]; decide) (by rw [q12_0]; rfl) rfl ?_
      refine jr_aload_n C dX11_makeDevice_40 rfl 0 rfl ?_
      refine jr_iload_n C dX11_makeDevice_41 rfl 1 rfl ?_
      obtain ⟨w42, hv, e1, e2, e3⟩ := addD_of hv
      rw [← e1]
      have hr : cells + 1 ≤ mc ∧ slots + 3 ≤ ms := ⟨by omega, by omega⟩
      refine jc_new C K 0 (fs := [.long 0, .long 0, .long 0]) rfl kg_0 tyX0 tyX0_ok kw_752 kw_753 kw_84 (fun j hj => by rcases (show j = 0 ∨ j = 1 ∨ j = 2 by omega) with rfl | rfl | rfl <;> rfl) hr.1 hr.2 dX11_makeDevice_42 ?_
      have hc : (cells + 1) + w42.2.1 ≤ mc ∧ (slots + 3) + w42.2.2 ≤ ms := ⟨by omega, by omega⟩
      exact jr_sub [] rfl (tX11_makeDevice_45 C K G  (cnew c2.2 (.inr (0, [.long 0, .long 0, .long 0]))) v1 (some (cSz c2.2)) hv _ _ hc)
    have hv := (if_neg q12_0).symm.trans hv
    by_cases q12_1 : v2 = 1
    · have hv := (if_pos q12_1).symm.trans hv
      refine jr_tableIn (off := 41) (tgt := 53) C dX11_makeDevice_12 (by rw [q12_1]; decide) (by rw [q12_1]; decide) (by rw [q12_1]; rfl) rfl ?_
      refine jr_aload_n C dX11_makeDevice_53 rfl 0 rfl ?_
      refine jr_iload_n C dX11_makeDevice_54 rfl 1 rfl ?_
      obtain ⟨w55, hv, e1, e2, e3⟩ := addD_of hv
      rw [← e1]
      have hr : cells + 1 ≤ mc ∧ slots + 3 ≤ ms := ⟨by omega, by omega⟩
      refine jc_new C K 4 (fs := [.long 0, .long 0, .long 0]) rfl kg_4 tyX6 tyX6_ok kw_771 kw_772 kw_85 (fun j hj => by rcases (show j = 0 ∨ j = 1 ∨ j = 2 by omega) with rfl | rfl | rfl <;> rfl) hr.1 hr.2 dX11_makeDevice_55 ?_
      have hc : (cells + 1) + w55.2.1 ≤ mc ∧ (slots + 3) + w55.2.2 ≤ ms := ⟨by omega, by omega⟩
      exact jr_sub [] rfl (tX11_makeDevice_58 C K G  (cnew c2.2 (.inr (4, [.long 0, .long 0, .long 0]))) v1 (some (cSz c2.2)) hv _ _ hc)
    have hv := (if_neg q12_1).symm.trans hv
    by_cases q12_2 : v2 = 2
    · have hv := (if_pos q12_2).symm.trans hv
      refine jr_tableIn (off := 54) (tgt := 66) C dX11_makeDevice_12 (by rw [q12_2]; decide) (by rw [q12_2]; decide) (by rw [q12_2]; rfl) rfl ?_
      refine jr_aload_n C dX11_makeDevice_66 rfl 0 rfl ?_
      refine jr_iload_n C dX11_makeDevice_67 rfl 1 rfl ?_
      obtain ⟨w68, hv, e1, e2, e3⟩ := addD_of hv
      rw [← e1]
      have hr : cells + 1 ≤ mc ∧ slots + 3 ≤ ms := ⟨by omega, by omega⟩
      refine jc_new C K 6 (fs := [.long 0, .long 0, .long 0]) rfl kg_6 tyX10 tyX10_ok kw_781 kw_782 kw_86 (fun j hj => by rcases (show j = 0 ∨ j = 1 ∨ j = 2 by omega) with rfl | rfl | rfl <;> rfl) hr.1 hr.2 dX11_makeDevice_68 ?_
      have hc : (cells + 1) + w68.2.1 ≤ mc ∧ (slots + 3) + w68.2.2 ≤ ms := ⟨by omega, by omega⟩
      exact jr_sub [] rfl (tX11_makeDevice_71 C K G  (cnew c2.2 (.inr (6, [.long 0, .long 0, .long 0]))) v1 (some (cSz c2.2)) hv _ _ hc)
    have hv := (if_neg q12_2).symm.trans hv
    refine jr_tableOut (tgt := 79) C dX11_makeDevice_12 (by have := sw_ne (a := 0) q12_0 (by decide); have := sw_ne (a := 1) q12_1 (by decide); have := sw_ne (a := 2) q12_2 (by decide); omega) rfl ?_
    refine jr_aload_n C dX11_makeDevice_79 rfl 0 rfl ?_
    refine jr_iload_n C dX11_makeDevice_80 rfl 1 rfl ?_
    obtain ⟨w81, hv, e1, e2, e3⟩ := addD_of hv
    rw [← e1]
    have hr : cells + 1 ≤ mc ∧ slots + 2 ≤ ms := ⟨by omega, by omega⟩
    refine jc_new C K 3 (fs := [.null, .long 0]) rfl kg_3 tyX5 tyX5_ok kw_791 kw_792 kw_87 (fun j hj => by rcases (show j = 0 ∨ j = 1 by omega) with rfl | rfl <;> rfl) hr.1 hr.2 dX11_makeDevice_81 ?_
    have hc : (cells + 1) + w81.2.1 ≤ mc ∧ (slots + 2) + w81.2.2 ≤ ms := ⟨by omega, by omega⟩
    exact jr_sub [] rfl (tX11_makeDevice_84 C K G  (cnew c2.2 (.inr (3, [.null, .long 0]))) v1 (some (cSz c2.2)) hv _ _ hc)
  · have hv := (if_pos q5).symm.trans hv
    refine jr_bipush (v := 8) C dX11_makeDevice_8 (by decide) ?_
    cases hv
    exact jc_iret C K dX11_makeDevice_10 rfl ⟨Nat.le_trans (Nat.le_add_right _ _) hc.1, Nat.le_trans (Nat.le_add_right _ _) hc.2⟩
theorem pX11_makeDevice (l : Launch) {g : CG} (G : cSep g)   (S : CS) (v1 : Int32) (v2 : Int32) {w : (Int32 × CS) × Nat × Nat} (hw : fX11_makeDevice S v1 v2 = some w) {mc ms : Nat} (hc : 0 + w.2.1 ≤ mc ∧ 0 + w.2.2 ≤ ms) : cC l yX11_makeDevice cX11_makeDevice 3 (some .int) 6 mc ms g [.ref (co g), .int v1, .int v2] S (some (.int w.1.1)) w.1.2 := cC_of (lv := [(0, .ref (co g)), (1, .int v1), (2, .int v2)]) (by decide +kernel) (Nat.le_of_ble_eq_true rfl) rfl (fun C K => tX11_makeDevice_0 C K G  S v1 v2 hw 0 0 hc)
/-! RobotCell.onThings(IIII)I -/
def fX11_onThings_147 (S : CS) (t1 : Int32) (t2 : Int64) : Option ((Int32 × CS) × Nat × Nat) :=
  Option.bind (fX11_giveNumber S t1 t2) (fun c147 => some ((c147.1, c147.2), 0, 0))
def fX11_onThings_146 (S : CS) (t1 : Int32) (t2 : Int32) : Option ((Int32 × CS) × Nat × Nat) :=
  fX11_onThings_147 S t1 t2.toInt64
def fX11_onThings_10 (S : CS) (v1 : Int32) (v2 : Int32) (v3 : Int32) (v4 : Int32) (v5 : Option Nat) : Option ((Int32 × CS) × Nat × Nat) :=
  if v1 = 40 then (Option.bind (fX7_numberAt S v3) (fun c63 => Option.bind (fX11_makeRow c63.2 v2 c63.1 v4) (fun c68 => addD c68.2.1 c68.2.2 (some ((c68.1.1, c68.1.2), 0, 0))))) else if v1 = 41 then (Option.bind (fX7_numberAt S v3) (fun c79 => Option.bind (fX7_numberAt c79.2 v4) (fun c88 => Option.bind (fX11_makeGrid c88.2 v2 c79.1 c88.1) (fun c91 => addD c91.2.1 c91.2.2 (some ((c91.1.1, c91.1.2), 0, 0)))))) else if v1 = 42 then (Option.bind (fX11_tellLength S v2 v5) (fun c99 => some ((c99.1, c99.2), 0, 0))) else if v1 = 43 then (Option.bind (fX7_thingAt S v2) (fun c109 => Option.bind (fX11_copy c109.2 c109.1 v5 v4) (fun c116 => some ((c116.1, c116.2), 0, 0)))) else if v1 = 44 then (Option.bind (fX11_cloneInts S v2 v5) (fun c124 => addD c124.2.1 c124.2.2 (some ((c124.1.1, c124.1.2), 0, 0)))) else if v1 = 45 then onul v5 (fX11_onThings_147 S v2 (-1)) (fun _ => if isKx S v5 [0] = true then (Option.bind (fX0_kind S v5) (fun c143 => fX11_onThings_146 c143.2 v2 c143.1)) else if isKx S v5 [1] = true then (Option.bind (fX3_kind S v5) (fun c143 => fX11_onThings_146 c143.2 v2 c143.1)) else if isKx S v5 [2] = true then (Option.bind (fX4_kind S v5) (fun c143 => fX11_onThings_146 c143.2 v2 c143.1)) else if isKx S v5 [3] = true then (Option.bind (fX5_kind S v5) (fun c143 => fX11_onThings_146 c143.2 v2 c143.1)) else if isKx S v5 [4] = true then (Option.bind (fX6_kind S v5) (fun c143 => fX11_onThings_146 c143.2 v2 c143.1)) else if isKx S v5 [5] = true then (Option.bind (fX8_kind S v5) (fun c143 => fX11_onThings_146 c143.2 v2 c143.1)) else if isKx S v5 [6] = true then (Option.bind (fX10_kind S v5) (fun c143 => fX11_onThings_146 c143.2 v2 c143.1)) else none) else if v1 = 46 then (Option.bind (fX11_giveThing S v2 v5) (fun c155 => some ((c155.1, c155.2), 0, 0))) else if v1 = 47 then (Option.bind (fX11_giveThing S v2 none) (fun c162 => some ((c162.1, c162.2), 0, 0))) else some ((2, S), 0, 0)
def fX11_onThings (S : CS) (v1 : Int32) (v2 : Int32) (v3 : Int32) (v4 : Int32) : Option ((Int32 × CS) × Nat × Nat) :=
  Option.bind (fX7_thingAt S v3) (fun c5 => fX11_onThings_10 c5.2 v1 v2 v3 v4 c5.1)
theorem oX11_onThings : ok_c yX11_onThings cX11_onThings 6 (some .int) 4 (.instanceMethod yX11_onThings) := ⟨kw_494, ⟨kw_493, rfl⟩, kw_71, by decide +kernel⟩
set_option maxRecDepth 100000 in
set_option maxHeartbeats 1000000 in
theorem tX11_onThings_147 {p : Program} {l : Launch} {e : Env} {s : State} {m : MethodId} {args : Array Value} {below : List Frame} {meth : Method} {c : Code} {g : CG} {S0 : CS} {mc ms : Nat} (C : CC p s m args meth c yX11_onThings cX11_onThings 6 (some .int)) (K : cK g s) (G : cSep g)  (S : CS) (t1 : Int32) (t2 : Int64) {w : (Int32 × CS) × Nat × Nat} (hv : fX11_onThings_147 S t1 t2 = some w) (cells slots : Nat) (hc : cells + w.2.1 ≤ mc ∧ slots + w.2.2 ≤ ms) : CJ p l e s m args below meth c 6 4 mc ms g S0 (some (.int w.1.1)) w.1.2 147 [] [.long t2, .int t1, .ref (co g)] S cells slots := by
  unfold fX11_onThings_147 at hv
  obtain ⟨c147, hc147, hv⟩ := Option.bind_eq_some_iff.mp hv
  refine jc_callO (rest := []) C K (pX11_giveNumber l G S t1 t2 hc147) oX11_giveNumber kw_8 kw_234 rfl ⟨Nat.le_of_ble_eq_true rfl, Nat.le_of_ble_eq_true rfl⟩ rfl (Nat.le_of_ble_eq_true rfl) ⟨Nat.le_trans (Nat.le_add_right _ _) hc.1, Nat.le_trans (Nat.le_add_right _ _) hc.2⟩ dX11_onThings_147 ?_
  cases hv
  exact jc_iret C K dX11_onThings_150 rfl ⟨Nat.le_trans (Nat.le_add_right _ _) hc.1, Nat.le_trans (Nat.le_add_right _ _) hc.2⟩
set_option maxRecDepth 100000 in
set_option maxHeartbeats 1000000 in
theorem tX11_onThings_146 {p : Program} {l : Launch} {e : Env} {s : State} {m : MethodId} {args : Array Value} {below : List Frame} {meth : Method} {c : Code} {g : CG} {S0 : CS} {mc ms : Nat} (C : CC p s m args meth c yX11_onThings cX11_onThings 6 (some .int)) (K : cK g s) (G : cSep g)  (S : CS) (t1 : Int32) (t2 : Int32) {w : (Int32 × CS) × Nat × Nat} (hv : fX11_onThings_146 S t1 t2 = some w) (cells slots : Nat) (hc : cells + w.2.1 ≤ mc ∧ slots + w.2.2 ≤ ms) : CJ p l e s m args below meth c 6 4 mc ms g S0 (some (.int w.1.1)) w.1.2 146 [] [.int t2, .int t1, .ref (co g)] S cells slots := by
  unfold fX11_onThings_146 at hv
  refine jr_i2l C dX11_onThings_146 ?_
  exact tX11_onThings_147 C K G  S t1 t2.toInt64 hv _ _ hc
set_option maxRecDepth 100000 in
set_option maxHeartbeats 1000000 in
theorem tX11_onThings_10 {p : Program} {l : Launch} {e : Env} {s : State} {m : MethodId} {args : Array Value} {below : List Frame} {meth : Method} {c : Code} {g : CG} {S0 : CS} {mc ms : Nat} (C : CC p s m args meth c yX11_onThings cX11_onThings 6 (some .int)) (K : cK g s) (G : cSep g)  (S : CS) (v1 : Int32) (v2 : Int32) (v3 : Int32) (v4 : Int32) (v5 : Option Nat) {w : (Int32 × CS) × Nat × Nat} (hv : fX11_onThings_10 S v1 v2 v3 v4 v5 = some w) (cells slots : Nat) (hc : cells + w.2.1 ≤ mc ∧ slots + w.2.2 ≤ ms) : CJ p l e s m args below meth c 6 4 mc ms g S0 (some (.int w.1.1)) w.1.2 10 [(0, .ref (co g)), (1, .int v1), (2, .int v2), (3, .int v3), (4, .int v4), (5, va_rf v5)] [] S cells slots := by
  unfold fX11_onThings_10 at hv
  refine jr_iload_n C dX11_onThings_10 rfl 1 rfl ?_
  by_cases q11_0 : v1 = 40
  · have hv := (if_pos q11_0).symm.trans hv
    refine jr_tableIn (off := 45) (tgt := 56) C dX11_onThings_11 (by rw [q11_0]; decide) (by rw [q11_0]; decide) (by rw [q11_0]; rfl) rfl ?_
    refine jr_aload_n C dX11_onThings_56 rfl 0 rfl ?_
    refine jr_iload_n C dX11_onThings_57 rfl 2 rfl ?_
    refine jr_aload_n C dX11_onThings_58 rfl 0 rfl ?_
    refine jc_getR C K 5 (by decide) (by decide) kw_127 rfl dX11_onThings_59 ?_
    refine jr_iload_n C dX11_onThings_62 rfl 3 rfl ?_
    obtain ⟨c63, hc63, hv⟩ := Option.bind_eq_some_iff.mp hv
    refine jc_callR (rest := [.int v2, .ref (co g)]) C K (pX7_numberAt l G S v3 hc63) oX7_numberAt kw_209 kw_207 rfl ⟨Nat.le_of_ble_eq_true rfl, Nat.le_of_ble_eq_true rfl⟩ rfl (Nat.le_of_ble_eq_true rfl) ⟨Nat.le_trans (Nat.le_add_right _ _) hc.1, Nat.le_trans (Nat.le_add_right _ _) hc.2⟩ dX11_onThings_63 ?_
    refine jr_iload C dX11_onThings_66 4 rfl ?_
    obtain ⟨c68, hc68, hv⟩ := Option.bind_eq_some_iff.mp hv
    obtain ⟨w68, hv, e1, e2, e3⟩ := addD_of hv
    rw [← e1]
    have hr : cells + c68.2.1 ≤ mc ∧ slots + c68.2.2 ≤ ms := ⟨by omega, by omega⟩
    refine jc_callO (rest := []) C K (pX11_makeRow l G c63.2 v2 c63.1 v4 hc68 ⟨Nat.le_of_eq (Nat.zero_add _), Nat.le_of_eq (Nat.zero_add _)⟩) oX11_makeRow kw_19 kw_499 rfl ⟨Nat.le_of_ble_eq_true rfl, Nat.le_of_ble_eq_true rfl⟩ rfl (Nat.le_of_ble_eq_true rfl) ⟨hr.1, hr.2⟩ dX11_onThings_68 ?_
    have hc : (cells + c68.2.1) + w68.2.1 ≤ mc ∧ (slots + c68.2.2) + w68.2.2 ≤ ms := ⟨by omega, by omega⟩
    cases hv
    exact jc_iret C K dX11_onThings_71 rfl ⟨Nat.le_trans (Nat.le_add_right _ _) hc.1, Nat.le_trans (Nat.le_add_right _ _) hc.2⟩
  have hv := (if_neg q11_0).symm.trans hv
  by_cases q11_1 : v1 = 41
  · have hv := (if_pos q11_1).symm.trans hv
    refine jr_tableIn (off := 61) (tgt := 72) C dX11_onThings_11 (by rw [q11_1]; decide) (by rw [q11_1]; decide) (by rw [q11_1]; rfl) rfl ?_
    refine jr_aload_n C dX11_onThings_72 rfl 0 rfl ?_
    refine jr_iload_n C dX11_onThings_73 rfl 2 rfl ?_
    refine jr_aload_n C dX11_onThings_74 rfl 0 rfl ?_
    refine jc_getR C K 5 (by decide) (by decide) kw_127 rfl dX11_onThings_75 ?_
    refine jr_iload_n C dX11_onThings_78 rfl 3 rfl ?_
    obtain ⟨c79, hc79, hv⟩ := Option.bind_eq_some_iff.mp hv
    refine jc_callR (rest := [.int v2, .ref (co g)]) C K (pX7_numberAt l G S v3 hc79) oX7_numberAt kw_209 kw_207 rfl ⟨Nat.le_of_ble_eq_true rfl, Nat.le_of_ble_eq_true rfl⟩ rfl (Nat.le_of_ble_eq_true rfl) ⟨Nat.le_trans (Nat.le_add_right _ _) hc.1, Nat.le_trans (Nat.le_add_right _ _) hc.2⟩ dX11_onThings_79 ?_
    refine jr_aload_n C dX11_onThings_82 rfl 0 rfl ?_
    refine jc_getR C K 5 (by decide) (by decide) kw_127 rfl dX11_onThings_83 ?_
    refine jr_iload C dX11_onThings_86 4 rfl ?_
    obtain ⟨c88, hc88, hv⟩ := Option.bind_eq_some_iff.mp hv
    refine jc_callR (rest := [.long c79.1, .int v2, .ref (co g)]) C K (pX7_numberAt l G c79.2 v4 hc88) oX7_numberAt kw_209 kw_207 rfl ⟨Nat.le_of_ble_eq_true rfl, Nat.le_of_ble_eq_true rfl⟩ rfl (Nat.le_of_ble_eq_true rfl) ⟨Nat.le_trans (Nat.le_add_right _ _) hc.1, Nat.le_trans (Nat.le_add_right _ _) hc.2⟩ dX11_onThings_88 ?_
    obtain ⟨c91, hc91, hv⟩ := Option.bind_eq_some_iff.mp hv
    obtain ⟨w91, hv, e1, e2, e3⟩ := addD_of hv
    rw [← e1]
    have hr : cells + c91.2.1 ≤ mc ∧ slots + c91.2.2 ≤ ms := ⟨by omega, by omega⟩
    refine jc_callO (rest := []) C K (pX11_makeGrid l G c88.2 v2 c79.1 c88.1 hc91 ⟨Nat.le_of_eq (Nat.zero_add _), Nat.le_of_eq (Nat.zero_add _)⟩) oX11_makeGrid kw_23 kw_543 rfl ⟨Nat.le_of_ble_eq_true rfl, Nat.le_of_ble_eq_true rfl⟩ rfl (Nat.le_of_ble_eq_true rfl) ⟨hr.1, hr.2⟩ dX11_onThings_91 ?_
    have hc : (cells + c91.2.1) + w91.2.1 ≤ mc ∧ (slots + c91.2.2) + w91.2.2 ≤ ms := ⟨by omega, by omega⟩
    cases hv
    exact jc_iret C K dX11_onThings_94 rfl ⟨Nat.le_trans (Nat.le_add_right _ _) hc.1, Nat.le_trans (Nat.le_add_right _ _) hc.2⟩
  have hv := (if_neg q11_1).symm.trans hv
  by_cases q11_2 : v1 = 42
  · have hv := (if_pos q11_2).symm.trans hv
    refine jr_tableIn (off := 84) (tgt := 95) C dX11_onThings_11 (by rw [q11_2]; decide) (by rw [q11_2]; decide) (by rw [q11_2]; rfl) rfl ?_
    refine jr_aload_n C dX11_onThings_95 rfl 0 rfl ?_
    refine jr_iload_n C dX11_onThings_96 rfl 2 rfl ?_
    refine jr_naload C dX11_onThings_97 5 rfl ?_
    obtain ⟨c99, hc99, hv⟩ := Option.bind_eq_some_iff.mp hv
    refine jc_callO (rest := []) C K (pX11_tellLength l G S v2 v5 hc99) oX11_tellLength kw_24 kw_558 rfl ⟨Nat.le_of_ble_eq_true rfl, Nat.le_of_ble_eq_true rfl⟩ rfl (Nat.le_of_ble_eq_true rfl) ⟨Nat.le_trans (Nat.le_add_right _ _) hc.1, Nat.le_trans (Nat.le_add_right _ _) hc.2⟩ dX11_onThings_99 ?_
    cases hv
    exact jc_iret C K dX11_onThings_102 rfl ⟨Nat.le_trans (Nat.le_add_right _ _) hc.1, Nat.le_trans (Nat.le_add_right _ _) hc.2⟩
  have hv := (if_neg q11_2).symm.trans hv
  by_cases q11_3 : v1 = 43
  · have hv := (if_pos q11_3).symm.trans hv
    refine jr_tableIn (off := 92) (tgt := 103) C dX11_onThings_11 (by rw [q11_3]; decide) (by rw [q11_3]; decide) (by rw [q11_3]; rfl) rfl ?_
    refine jr_aload_n C dX11_onThings_103 rfl 0 rfl ?_
    refine jr_aload_n C dX11_onThings_104 rfl 0 rfl ?_
    refine jc_getR C K 5 (by decide) (by decide) kw_127 rfl dX11_onThings_105 ?_
    refine jr_iload_n C dX11_onThings_108 rfl 2 rfl ?_
    obtain ⟨c109, hc109, hv⟩ := Option.bind_eq_some_iff.mp hv
    refine jc_callR (rest := [.ref (co g)]) C K (pX7_thingAt l G S v2 hc109) oX7_thingAt kw_497 kw_495 rfl ⟨Nat.le_of_ble_eq_true rfl, Nat.le_of_ble_eq_true rfl⟩ rfl (Nat.le_of_ble_eq_true rfl) ⟨Nat.le_trans (Nat.le_add_right _ _) hc.1, Nat.le_trans (Nat.le_add_right _ _) hc.2⟩ dX11_onThings_109 ?_
    refine jr_naload C dX11_onThings_112 5 rfl ?_
    refine jr_iload C dX11_onThings_114 4 rfl ?_
    obtain ⟨c116, hc116, hv⟩ := Option.bind_eq_some_iff.mp hv
    refine jc_callO (rest := []) C K (pX11_copy l G c109.2 c109.1 v5 v4 hc116) oX11_copy kw_25 kw_566 rfl ⟨Nat.le_of_ble_eq_true rfl, Nat.le_of_ble_eq_true rfl⟩ rfl (Nat.le_of_ble_eq_true rfl) ⟨Nat.le_trans (Nat.le_add_right _ _) hc.1, Nat.le_trans (Nat.le_add_right _ _) hc.2⟩ dX11_onThings_116 ?_
    cases hv
    exact jc_iret C K dX11_onThings_119 rfl ⟨Nat.le_trans (Nat.le_add_right _ _) hc.1, Nat.le_trans (Nat.le_add_right _ _) hc.2⟩
  have hv := (if_neg q11_3).symm.trans hv
  by_cases q11_4 : v1 = 44
  · have hv := (if_pos q11_4).symm.trans hv
    refine jr_tableIn (off := 109) (tgt := 120) C dX11_onThings_11 (by rw [q11_4]; decide) (by rw [q11_4]; decide) (by rw [q11_4]; rfl) rfl ?_
    refine jr_aload_n C dX11_onThings_120 rfl 0 rfl ?_
    refine jr_iload_n C dX11_onThings_121 rfl 2 rfl ?_
    refine jr_naload C dX11_onThings_122 5 rfl ?_
    obtain ⟨c124, hc124, hv⟩ := Option.bind_eq_some_iff.mp hv
    obtain ⟨w124, hv, e1, e2, e3⟩ := addD_of hv
    rw [← e1]
    have hr : cells + c124.2.1 ≤ mc ∧ slots + c124.2.2 ≤ ms := ⟨by omega, by omega⟩
    refine jc_callO (rest := []) C K (pX11_cloneInts l G S v2 v5 hc124 ⟨Nat.le_of_eq (Nat.zero_add _), Nat.le_of_eq (Nat.zero_add _)⟩) oX11_cloneInts kw_26 kw_596 rfl ⟨Nat.le_of_ble_eq_true rfl, Nat.le_of_ble_eq_true rfl⟩ rfl (Nat.le_of_ble_eq_true rfl) ⟨hr.1, hr.2⟩ dX11_onThings_124 ?_
    have hc : (cells + c124.2.1) + w124.2.1 ≤ mc ∧ (slots + c124.2.2) + w124.2.2 ≤ ms := ⟨by omega, by omega⟩
    cases hv
    exact jc_iret C K dX11_onThings_127 rfl ⟨Nat.le_trans (Nat.le_add_right _ _) hc.1, Nat.le_trans (Nat.le_add_right _ _) hc.2⟩
  have hv := (if_neg q11_4).symm.trans hv
  by_cases q11_5 : v1 = 45
  · have hv := (if_pos q11_5).symm.trans hv
    refine jr_tableIn (off := 117) (tgt := 128) C dX11_onThings_11 (by rw [q11_5]; decide) (by rw [q11_5]; decide) (by rw [q11_5]; rfl) rfl ?_
    refine jr_aload_n C dX11_onThings_128 rfl 0 rfl ?_
    refine jr_iload_n C dX11_onThings_129 rfl 2 rfl ?_
    refine jr_naload C dX11_onThings_130 5 rfl ?_
    refine jr_ifnonnull (tgt := 141) C dX11_onThings_132 rfl (fun a132 q132 => ?_) (fun q132 => ?_)
    · have hv := (onul_s q132).symm.trans hv
      refine jr_naload C dX11_onThings_141 5 rfl ?_
      by_cases z143_0 : isKx S v5 [0] = true
      case pos =>
        have hv := (if_pos z143_0).symm.trans hv
        obtain ⟨c143, hc143, hv⟩ := Option.bind_eq_some_iff.mp hv
        refine jc_callU (ci := 0) (rest := [.int v2, .ref (co g)]) C K (pX0_kind l G S v5  hc143) z143_0 rfl u_Thing_kind_kind_0 kw_605 rfl ⟨Nat.le_of_ble_eq_true rfl, Nat.le_of_ble_eq_true rfl⟩ rfl (Nat.le_of_ble_eq_true rfl) ⟨Nat.le_trans (Nat.le_add_right _ _) hc.1, Nat.le_trans (Nat.le_add_right _ _) hc.2⟩ dX11_onThings_143 ?_
        exact jr_sub [] rfl (tX11_onThings_146 C K G  c143.2 v2 c143.1 hv _ _ hc)
      have hv := (if_neg z143_0).symm.trans hv
      by_cases z143_1 : isKx S v5 [1] = true
      case pos =>
        have hv := (if_pos z143_1).symm.trans hv
        obtain ⟨c143, hc143, hv⟩ := Option.bind_eq_some_iff.mp hv
        refine jc_callU (ci := 1) (rest := [.int v2, .ref (co g)]) C K (pX3_kind l G S v5  hc143) z143_1 rfl u_Thing_kind_kind_1 kw_605 rfl ⟨Nat.le_of_ble_eq_true rfl, Nat.le_of_ble_eq_true rfl⟩ rfl (Nat.le_of_ble_eq_true rfl) ⟨Nat.le_trans (Nat.le_add_right _ _) hc.1, Nat.le_trans (Nat.le_add_right _ _) hc.2⟩ dX11_onThings_143 ?_
        exact jr_sub [] rfl (tX11_onThings_146 C K G  c143.2 v2 c143.1 hv _ _ hc)
      have hv := (if_neg z143_1).symm.trans hv
      by_cases z143_2 : isKx S v5 [2] = true
      case pos =>
        have hv := (if_pos z143_2).symm.trans hv
        obtain ⟨c143, hc143, hv⟩ := Option.bind_eq_some_iff.mp hv
        refine jc_callU (ci := 2) (rest := [.int v2, .ref (co g)]) C K (pX4_kind l G S v5  hc143) z143_2 rfl u_Thing_kind_kind_2 kw_605 rfl ⟨Nat.le_of_ble_eq_true rfl, Nat.le_of_ble_eq_true rfl⟩ rfl (Nat.le_of_ble_eq_true rfl) ⟨Nat.le_trans (Nat.le_add_right _ _) hc.1, Nat.le_trans (Nat.le_add_right _ _) hc.2⟩ dX11_onThings_143 ?_
        exact jr_sub [] rfl (tX11_onThings_146 C K G  c143.2 v2 c143.1 hv _ _ hc)
      have hv := (if_neg z143_2).symm.trans hv
      by_cases z143_3 : isKx S v5 [3] = true
      case pos =>
        have hv := (if_pos z143_3).symm.trans hv
        obtain ⟨c143, hc143, hv⟩ := Option.bind_eq_some_iff.mp hv
        refine jc_callU (ci := 3) (rest := [.int v2, .ref (co g)]) C K (pX5_kind l G S v5  hc143) z143_3 rfl u_Thing_kind_kind_3 kw_605 rfl ⟨Nat.le_of_ble_eq_true rfl, Nat.le_of_ble_eq_true rfl⟩ rfl (Nat.le_of_ble_eq_true rfl) ⟨Nat.le_trans (Nat.le_add_right _ _) hc.1, Nat.le_trans (Nat.le_add_right _ _) hc.2⟩ dX11_onThings_143 ?_
        exact jr_sub [] rfl (tX11_onThings_146 C K G  c143.2 v2 c143.1 hv _ _ hc)
      have hv := (if_neg z143_3).symm.trans hv
      by_cases z143_4 : isKx S v5 [4] = true
      case pos =>
        have hv := (if_pos z143_4).symm.trans hv
        obtain ⟨c143, hc143, hv⟩ := Option.bind_eq_some_iff.mp hv
        refine jc_callU (ci := 4) (rest := [.int v2, .ref (co g)]) C K (pX6_kind l G S v5  hc143) z143_4 rfl u_Thing_kind_kind_4 kw_605 rfl ⟨Nat.le_of_ble_eq_true rfl, Nat.le_of_ble_eq_true rfl⟩ rfl (Nat.le_of_ble_eq_true rfl) ⟨Nat.le_trans (Nat.le_add_right _ _) hc.1, Nat.le_trans (Nat.le_add_right _ _) hc.2⟩ dX11_onThings_143 ?_
        exact jr_sub [] rfl (tX11_onThings_146 C K G  c143.2 v2 c143.1 hv _ _ hc)
      have hv := (if_neg z143_4).symm.trans hv
      by_cases z143_5 : isKx S v5 [5] = true
      case pos =>
        have hv := (if_pos z143_5).symm.trans hv
        obtain ⟨c143, hc143, hv⟩ := Option.bind_eq_some_iff.mp hv
        refine jc_callU (ci := 5) (rest := [.int v2, .ref (co g)]) C K (pX8_kind l G S v5  hc143) z143_5 rfl u_Thing_kind_kind_5 kw_605 rfl ⟨Nat.le_of_ble_eq_true rfl, Nat.le_of_ble_eq_true rfl⟩ rfl (Nat.le_of_ble_eq_true rfl) ⟨Nat.le_trans (Nat.le_add_right _ _) hc.1, Nat.le_trans (Nat.le_add_right _ _) hc.2⟩ dX11_onThings_143 ?_
        exact jr_sub [] rfl (tX11_onThings_146 C K G  c143.2 v2 c143.1 hv _ _ hc)
      have hv := (if_neg z143_5).symm.trans hv
      by_cases z143_6 : isKx S v5 [6] = true
      case pos =>
        have hv := (if_pos z143_6).symm.trans hv
        obtain ⟨c143, hc143, hv⟩ := Option.bind_eq_some_iff.mp hv
        refine jc_callU (ci := 6) (rest := [.int v2, .ref (co g)]) C K (pX10_kind l G S v5  hc143) z143_6 rfl u_Thing_kind_kind_6 kw_605 rfl ⟨Nat.le_of_ble_eq_true rfl, Nat.le_of_ble_eq_true rfl⟩ rfl (Nat.le_of_ble_eq_true rfl) ⟨Nat.le_trans (Nat.le_add_right _ _) hc.1, Nat.le_trans (Nat.le_add_right _ _) hc.2⟩ dX11_onThings_143 ?_
        exact jr_sub [] rfl (tX11_onThings_146 C K G  c143.2 v2 c143.1 hv _ _ hc)
      have hv := (if_neg z143_6).symm.trans hv
      exact op_none hv
    · have hv := (onul_n q132).symm.trans hv
      refine jr_ldc2 C kw_604 dX11_onThings_135 ?_
      refine jr_goto (tgt := 147) C dX11_onThings_138 rfl ?_
      exact jr_sub [] rfl (tX11_onThings_147 C K G  S v2 (-1) hv _ _ hc)
  have hv := (if_neg q11_5).symm.trans hv
  by_cases q11_6 : v1 = 46
  · have hv := (if_pos q11_6).symm.trans hv
    refine jr_tableIn (off := 140) (tgt := 151) C dX11_onThings_11 (by rw [q11_6]; decide) (by rw [q11_6]; decide) (by rw [q11_6]; rfl) rfl ?_
    refine jr_aload_n C dX11_onThings_151 rfl 0 rfl ?_
    refine jr_iload_n C dX11_onThings_152 rfl 2 rfl ?_
    refine jr_naload C dX11_onThings_153 5 rfl ?_
    obtain ⟨c155, hc155, hv⟩ := Option.bind_eq_some_iff.mp hv
    refine jc_callO (rest := []) C K (pX11_giveThing l G S v2 v5 hc155) oX11_giveThing kw_22 kw_535 rfl ⟨Nat.le_of_ble_eq_true rfl, Nat.le_of_ble_eq_true rfl⟩ rfl (Nat.le_of_ble_eq_true rfl) ⟨Nat.le_trans (Nat.le_add_right _ _) hc.1, Nat.le_trans (Nat.le_add_right _ _) hc.2⟩ dX11_onThings_155 ?_
    cases hv
    exact jc_iret C K dX11_onThings_158 rfl ⟨Nat.le_trans (Nat.le_add_right _ _) hc.1, Nat.le_trans (Nat.le_add_right _ _) hc.2⟩
  have hv := (if_neg q11_6).symm.trans hv
  by_cases q11_7 : v1 = 47
  · have hv := (if_pos q11_7).symm.trans hv
    refine jr_tableIn (off := 148) (tgt := 159) C dX11_onThings_11 (by rw [q11_7]; decide) (by rw [q11_7]; decide) (by rw [q11_7]; rfl) rfl ?_
    refine jr_aload_n C dX11_onThings_159 rfl 0 rfl ?_
    refine jr_iload_n C dX11_onThings_160 rfl 2 rfl ?_
    refine jr_null C dX11_onThings_161 ?_
    obtain ⟨c162, hc162, hv⟩ := Option.bind_eq_some_iff.mp hv
    refine jc_callO (rest := []) C K (pX11_giveThing l G S v2 none hc162) oX11_giveThing kw_22 kw_535 rfl ⟨Nat.le_of_ble_eq_true rfl, Nat.le_of_ble_eq_true rfl⟩ rfl (Nat.le_of_ble_eq_true rfl) ⟨Nat.le_trans (Nat.le_add_right _ _) hc.1, Nat.le_trans (Nat.le_add_right _ _) hc.2⟩ dX11_onThings_162 ?_
    cases hv
    exact jc_iret C K dX11_onThings_165 rfl ⟨Nat.le_trans (Nat.le_add_right _ _) hc.1, Nat.le_trans (Nat.le_add_right _ _) hc.2⟩
  have hv := (if_neg q11_7).symm.trans hv
  refine jr_tableOut (tgt := 166) C dX11_onThings_11 (by have := sw_ne (a := 40) q11_0 (by decide); have := sw_ne (a := 41) q11_1 (by decide); have := sw_ne (a := 42) q11_2 (by decide); have := sw_ne (a := 43) q11_3 (by decide); have := sw_ne (a := 44) q11_4 (by decide); have := sw_ne (a := 45) q11_5 (by decide); have := sw_ne (a := 46) q11_6 (by decide); have := sw_ne (a := 47) q11_7 (by decide); omega) rfl ?_
  refine jr_iconst (v := 2) C dX11_onThings_166 (by decide) ?_
  cases hv
  exact jc_iret C K dX11_onThings_167 rfl ⟨Nat.le_trans (Nat.le_add_right _ _) hc.1, Nat.le_trans (Nat.le_add_right _ _) hc.2⟩
set_option maxRecDepth 100000 in
set_option maxHeartbeats 1000000 in
theorem tX11_onThings_0 {p : Program} {l : Launch} {e : Env} {s : State} {m : MethodId} {args : Array Value} {below : List Frame} {meth : Method} {c : Code} {g : CG} {S0 : CS} {mc ms : Nat} (C : CC p s m args meth c yX11_onThings cX11_onThings 6 (some .int)) (K : cK g s) (G : cSep g)  (S : CS) (v1 : Int32) (v2 : Int32) (v3 : Int32) (v4 : Int32) {w : (Int32 × CS) × Nat × Nat} (hv : fX11_onThings S v1 v2 v3 v4 = some w) (cells slots : Nat) (hc : cells + w.2.1 ≤ mc ∧ slots + w.2.2 ≤ ms) : CJ p l e s m args below meth c 6 4 mc ms g S0 (some (.int w.1.1)) w.1.2 0 [(0, .ref (co g)), (1, .int v1), (2, .int v2), (3, .int v3), (4, .int v4)] [] S cells slots := by
  unfold fX11_onThings at hv
  refine jr_aload_n C dX11_onThings_0 rfl 0 rfl ?_
  refine jc_getR C K 5 (by decide) (by decide) kw_127 rfl dX11_onThings_1 ?_
  refine jr_iload_n C dX11_onThings_4 rfl 3 rfl ?_
  obtain ⟨c5, hc5, hv⟩ := Option.bind_eq_some_iff.mp hv
  refine jc_callR (rest := []) C K (pX7_thingAt l G S v3 hc5) oX7_thingAt kw_497 kw_495 rfl ⟨Nat.le_of_ble_eq_true rfl, Nat.le_of_ble_eq_true rfl⟩ rfl (Nat.le_of_ble_eq_true rfl) ⟨Nat.le_trans (Nat.le_add_right _ _) hc.1, Nat.le_trans (Nat.le_add_right _ _) hc.2⟩ dX11_onThings_5 ?_
  refine jr_nastore (i := 5) (lv' := [(5, va_rf c5.1), (0, .ref (co g)), (1, .int v1), (2, .int v2), (3, .int v3), (4, .int v4)]) C dX11_onThings_8 (by decide) rfl ?_
  exact jr_sub [1, 2, 3, 4, 5, 0] rfl (tX11_onThings_10 C K G  c5.2 v1 v2 v3 v4 c5.1 hv _ _ hc)
theorem pX11_onThings (l : Launch) {g : CG} (G : cSep g)   (S : CS) (v1 : Int32) (v2 : Int32) (v3 : Int32) (v4 : Int32) {w : (Int32 × CS) × Nat × Nat} (hw : fX11_onThings S v1 v2 v3 v4 = some w) {mc ms : Nat} (hc : 0 + w.2.1 ≤ mc ∧ 0 + w.2.2 ≤ ms) : cC l yX11_onThings cX11_onThings 6 (some .int) 4 mc ms g [.ref (co g), .int v1, .int v2, .int v3, .int v4] S (some (.int w.1.1)) w.1.2 := cC_of (lv := [(0, .ref (co g)), (1, .int v1), (2, .int v2), (3, .int v3), (4, .int v4)]) (by decide +kernel) (Nat.le_of_ble_eq_true rfl) rfl (fun C K => tX11_onThings_0 C K G  S v1 v2 v3 v4 hw 0 0 hc)
/-! RobotCell.onPoses(IIII)I -/
def fX11_onPoses_50 (S : CS) (t1 : Int32) (t2 : Int32) : Option ((Int32 × CS) × Nat × Nat) :=
  Option.bind (fX11_makePose S t1 t2) (fun c50 => addD c50.2.1 c50.2.2 (some ((c50.1.1, c50.1.2), 0, 0)))
def fX11_onPoses (S : CS) (v1 : Int32) (v2 : Int32) (v3 : Int32) (v4 : Int32) : Option ((Int32 × CS) × Nat × Nat) :=
  if v1 = 80 then (if (v4 &&& 1) = 0 then fX11_onPoses_50 S v2 0 else fX11_onPoses_50 S v2 1) else if v1 = 81 then (Option.bind (fX7_thingAt S v3) (fun c61 => Option.bind (fX11_read c61.2 v2 c61.1 (v4 &&& 7)) (fun c69 => some ((c69.1, c69.2), 0, 0)))) else if v1 = 82 then (Option.bind (fX7_thingAt S v3) (fun c80 => Option.bind (fX11_write c80.2 v2 c80.1 (v4 &&& 7)) (fun c88 => some ((c88.1, c88.2), 0, 0)))) else if v1 = 83 then (Option.bind (fX7_thingAt S v2) (fun c97 => Option.bind (fX7_measureAt c97.2 v3) (fun c105 => Option.bind (fX7_measureAt c105.2 v4) (fun c114 => Option.bind (fX11_shift c114.2 c97.1 c105.1 c114.1) (fun c117 => some ((c117.1, c117.2), 0, 0)))))) else if v1 = 84 then (Option.bind (fX7_thingAt S v3) (fun c128 => Option.bind (fX7_thingAt c128.2 v4) (fun c137 => Option.bind (fX11_tellApart c137.2 v2 c128.1 c137.1) (fun c140 => some ((c140.1, c140.2), 0, 0))))) else some ((2, S), 0, 0)
theorem oX11_onPoses : ok_c yX11_onPoses cX11_onPoses 5 (some .int) 4 (.instanceMethod yX11_onPoses) := ⟨kw_662, ⟨kw_661, rfl⟩, kw_71, by decide +kernel⟩
set_option maxRecDepth 100000 in
set_option maxHeartbeats 1000000 in
theorem tX11_onPoses_50 {p : Program} {l : Launch} {e : Env} {s : State} {m : MethodId} {args : Array Value} {below : List Frame} {meth : Method} {c : Code} {g : CG} {S0 : CS} {mc ms : Nat} (C : CC p s m args meth c yX11_onPoses cX11_onPoses 5 (some .int)) (K : cK g s) (G : cSep g)  (S : CS) (t1 : Int32) (t2 : Int32) {w : (Int32 × CS) × Nat × Nat} (hv : fX11_onPoses_50 S t1 t2 = some w) (cells slots : Nat) (hc : cells + w.2.1 ≤ mc ∧ slots + w.2.2 ≤ ms) : CJ p l e s m args below meth c 5 8 mc ms g S0 (some (.int w.1.1)) w.1.2 50 [] [.int t2, .int t1, .ref (co g)] S cells slots := by
  unfold fX11_onPoses_50 at hv
  obtain ⟨c50, hc50, hv⟩ := Option.bind_eq_some_iff.mp hv
  obtain ⟨w50, hv, e1, e2, e3⟩ := addD_of hv
  rw [← e1]
  have hr : cells + c50.2.1 ≤ mc ∧ slots + c50.2.2 ≤ ms := ⟨by omega, by omega⟩
  refine jc_callO (rest := []) C K (pX11_makePose l G S t1 t2 hc50 ⟨Nat.le_of_eq (Nat.zero_add _), Nat.le_of_eq (Nat.zero_add _)⟩) oX11_makePose kw_31 kw_663 rfl ⟨Nat.le_of_ble_eq_true rfl, Nat.le_of_ble_eq_true rfl⟩ rfl (Nat.le_of_ble_eq_true rfl) ⟨hr.1, hr.2⟩ dX11_onPoses_50 ?_
  have hc : (cells + c50.2.1) + w50.2.1 ≤ mc ∧ (slots + c50.2.2) + w50.2.2 ≤ ms := ⟨by omega, by omega⟩
  cases hv
  exact jc_iret C K dX11_onPoses_53 rfl ⟨Nat.le_trans (Nat.le_add_right _ _) hc.1, Nat.le_trans (Nat.le_add_right _ _) hc.2⟩
set_option maxRecDepth 100000 in
set_option maxHeartbeats 1000000 in
theorem tX11_onPoses_0 {p : Program} {l : Launch} {e : Env} {s : State} {m : MethodId} {args : Array Value} {below : List Frame} {meth : Method} {c : Code} {g : CG} {S0 : CS} {mc ms : Nat} (C : CC p s m args meth c yX11_onPoses cX11_onPoses 5 (some .int)) (K : cK g s) (G : cSep g)  (S : CS) (v1 : Int32) (v2 : Int32) (v3 : Int32) (v4 : Int32) {w : (Int32 × CS) × Nat × Nat} (hv : fX11_onPoses S v1 v2 v3 v4 = some w) (cells slots : Nat) (hc : cells + w.2.1 ≤ mc ∧ slots + w.2.2 ≤ ms) : CJ p l e s m args below meth c 5 8 mc ms g S0 (some (.int w.1.1)) w.1.2 0 [(0, .ref (co g)), (1, .int v1), (2, .int v2), (3, .int v3), (4, .int v4)] [] S cells slots := by
  unfold fX11_onPoses at hv
  refine jr_iload_n C dX11_onPoses_0 rfl 1 rfl ?_
  by_cases q1_0 : v1 = 80
  · have hv := (if_pos q1_0).symm.trans hv
    refine jr_tableIn (off := 35) (tgt := 36) C dX11_onPoses_1 (by rw [q1_0]; decide) (by rw [q1_0]; decide) (by rw [q1_0]; rfl) rfl ?_
    refine jr_aload_n C dX11_onPoses_36 rfl 0 rfl ?_
    refine jr_iload_n C dX11_onPoses_37 rfl 2 rfl ?_
    refine jr_iload C dX11_onPoses_38 4 rfl ?_
    refine jr_iconst (v := 1) C dX11_onPoses_40 (by decide) ?_
    refine jr_iand C dX11_onPoses_41 ?_
    refine jr_if_eq (tgt := 49) C dX11_onPoses_42 rfl (fun q42 => ?_) (fun q42 => ?_)
    · have hv := (if_pos q42).symm.trans hv
      refine jr_iconst (v := 0) C dX11_onPoses_49 (by decide) ?_
      exact jr_sub [] rfl (tX11_onPoses_50 C K G  S v2 0 hv _ _ hc)
    · have hv := (if_neg q42).symm.trans hv
      refine jr_iconst (v := 1) C dX11_onPoses_45 (by decide) ?_
      refine jr_goto (tgt := 50) C dX11_onPoses_46 rfl ?_
      exact jr_sub [] rfl (tX11_onPoses_50 C K G  S v2 1 hv _ _ hc)
  have hv := (if_neg q1_0).symm.trans hv
  by_cases q1_1 : v1 = 81
  · have hv := (if_pos q1_1).symm.trans hv
    refine jr_tableIn (off := 53) (tgt := 54) C dX11_onPoses_1 (by rw [q1_1]; decide) (by rw [q1_1]; decide) (by rw [q1_1]; rfl) rfl ?_
    refine jr_aload_n C dX11_onPoses_54 rfl 0 rfl ?_
    refine jr_iload_n C dX11_onPoses_55 rfl 2 rfl ?_
    refine jr_aload_n C dX11_onPoses_56 rfl 0 rfl ?_
    refine jc_getR C K 5 (by decide) (by decide) kw_127 rfl dX11_onPoses_57 ?_
    refine jr_iload_n C dX11_onPoses_60 rfl 3 rfl ?_
    obtain ⟨c61, hc61, hv⟩ := Option.bind_eq_some_iff.mp hv
    refine jc_callR (rest := [.int v2, .ref (co g)]) C K (pX7_thingAt l G S v3 hc61) oX7_thingAt kw_497 kw_495 rfl ⟨Nat.le_of_ble_eq_true rfl, Nat.le_of_ble_eq_true rfl⟩ rfl (Nat.le_of_ble_eq_true rfl) ⟨Nat.le_trans (Nat.le_add_right _ _) hc.1, Nat.le_trans (Nat.le_add_right _ _) hc.2⟩ dX11_onPoses_61 ?_
    refine jr_iload C dX11_onPoses_64 4 rfl ?_
    refine jr_bipush (v := 7) C dX11_onPoses_66 (by decide) ?_
    refine jr_iand C dX11_onPoses_68 ?_
    obtain ⟨c69, hc69, hv⟩ := Option.bind_eq_some_iff.mp hv
    refine jc_callO (rest := []) C K (pX11_read l G c61.2 v2 c61.1 (v4 &&& 7) hc69) oX11_read kw_32 kw_710 rfl ⟨Nat.le_of_ble_eq_true rfl, Nat.le_of_ble_eq_true rfl⟩ rfl (Nat.le_of_ble_eq_true rfl) ⟨Nat.le_trans (Nat.le_add_right _ _) hc.1, Nat.le_trans (Nat.le_add_right _ _) hc.2⟩ dX11_onPoses_69 ?_
    cases hv
    exact jc_iret C K dX11_onPoses_72 rfl ⟨Nat.le_trans (Nat.le_add_right _ _) hc.1, Nat.le_trans (Nat.le_add_right _ _) hc.2⟩
  have hv := (if_neg q1_1).symm.trans hv
  by_cases q1_2 : v1 = 82
  · have hv := (if_pos q1_2).symm.trans hv
    refine jr_tableIn (off := 72) (tgt := 73) C dX11_onPoses_1 (by rw [q1_2]; decide) (by rw [q1_2]; decide) (by rw [q1_2]; rfl) rfl ?_
    refine jr_aload_n C dX11_onPoses_73 rfl 0 rfl ?_
    refine jr_iload_n C dX11_onPoses_74 rfl 2 rfl ?_
    refine jr_aload_n C dX11_onPoses_75 rfl 0 rfl ?_
    refine jc_getR C K 5 (by decide) (by decide) kw_127 rfl dX11_onPoses_76 ?_
    refine jr_iload_n C dX11_onPoses_79 rfl 3 rfl ?_
    obtain ⟨c80, hc80, hv⟩ := Option.bind_eq_some_iff.mp hv
    refine jc_callR (rest := [.int v2, .ref (co g)]) C K (pX7_thingAt l G S v3 hc80) oX7_thingAt kw_497 kw_495 rfl ⟨Nat.le_of_ble_eq_true rfl, Nat.le_of_ble_eq_true rfl⟩ rfl (Nat.le_of_ble_eq_true rfl) ⟨Nat.le_trans (Nat.le_add_right _ _) hc.1, Nat.le_trans (Nat.le_add_right _ _) hc.2⟩ dX11_onPoses_80 ?_
    refine jr_iload C dX11_onPoses_83 4 rfl ?_
    refine jr_bipush (v := 7) C dX11_onPoses_85 (by decide) ?_
    refine jr_iand C dX11_onPoses_87 ?_
    obtain ⟨c88, hc88, hv⟩ := Option.bind_eq_some_iff.mp hv
    refine jc_callO (rest := []) C K (pX11_write l G c80.2 v2 c80.1 (v4 &&& 7) hc88) oX11_write kw_33 kw_720 rfl ⟨Nat.le_of_ble_eq_true rfl, Nat.le_of_ble_eq_true rfl⟩ rfl (Nat.le_of_ble_eq_true rfl) ⟨Nat.le_trans (Nat.le_add_right _ _) hc.1, Nat.le_trans (Nat.le_add_right _ _) hc.2⟩ dX11_onPoses_88 ?_
    cases hv
    exact jc_iret C K dX11_onPoses_91 rfl ⟨Nat.le_trans (Nat.le_add_right _ _) hc.1, Nat.le_trans (Nat.le_add_right _ _) hc.2⟩
  have hv := (if_neg q1_2).symm.trans hv
  by_cases q1_3 : v1 = 83
  · have hv := (if_pos q1_3).symm.trans hv
    refine jr_tableIn (off := 91) (tgt := 92) C dX11_onPoses_1 (by rw [q1_3]; decide) (by rw [q1_3]; decide) (by rw [q1_3]; rfl) rfl ?_
    refine jr_aload_n C dX11_onPoses_92 rfl 0 rfl ?_
    refine jc_getR C K 5 (by decide) (by decide) kw_127 rfl dX11_onPoses_93 ?_
    refine jr_iload_n C dX11_onPoses_96 rfl 2 rfl ?_
    obtain ⟨c97, hc97, hv⟩ := Option.bind_eq_some_iff.mp hv
    refine jc_callR (rest := []) C K (pX7_thingAt l G S v2 hc97) oX7_thingAt kw_497 kw_495 rfl ⟨Nat.le_of_ble_eq_true rfl, Nat.le_of_ble_eq_true rfl⟩ rfl (Nat.le_of_ble_eq_true rfl) ⟨Nat.le_trans (Nat.le_add_right _ _) hc.1, Nat.le_trans (Nat.le_add_right _ _) hc.2⟩ dX11_onPoses_97 ?_
    refine jr_aload_n C dX11_onPoses_100 rfl 0 rfl ?_
    refine jc_getR C K 5 (by decide) (by decide) kw_127 rfl dX11_onPoses_101 ?_
    refine jr_iload_n C dX11_onPoses_104 rfl 3 rfl ?_
    obtain ⟨c105, hc105, hv⟩ := Option.bind_eq_some_iff.mp hv
    refine jc_callR (rest := [va_rf c97.1]) C K (pX7_measureAt l G c97.2 v3 hc105) oX7_measureAt kw_262 kw_260 rfl ⟨Nat.le_of_ble_eq_true rfl, Nat.le_of_ble_eq_true rfl⟩ rfl (by simp [cat_rf, cat_i, cat_l, cat_r]) ⟨Nat.le_trans (Nat.le_add_right _ _) hc.1, Nat.le_trans (Nat.le_add_right _ _) hc.2⟩ dX11_onPoses_105 ?_
    refine jr_aload_n C dX11_onPoses_108 rfl 0 rfl ?_
    refine jc_getR C K 5 (by decide) (by decide) kw_127 rfl dX11_onPoses_109 ?_
    refine jr_iload C dX11_onPoses_112 4 rfl ?_
    obtain ⟨c114, hc114, hv⟩ := Option.bind_eq_some_iff.mp hv
    refine jc_callR (rest := [.long c105.1, va_rf c97.1]) C K (pX7_measureAt l G c105.2 v4 hc114) oX7_measureAt kw_262 kw_260 rfl ⟨Nat.le_of_ble_eq_true rfl, Nat.le_of_ble_eq_true rfl⟩ rfl (by simp [cat_rf, cat_i, cat_l, cat_r]) ⟨Nat.le_trans (Nat.le_add_right _ _) hc.1, Nat.le_trans (Nat.le_add_right _ _) hc.2⟩ dX11_onPoses_114 ?_
    obtain ⟨c117, hc117, hv⟩ := Option.bind_eq_some_iff.mp hv
    refine jc_callS (rest := []) C K (pX11_shift l G c114.2 c97.1 c105.1 c114.1 hc117) oX11_shift kw_727 rfl ⟨Nat.le_of_ble_eq_true rfl, Nat.le_of_ble_eq_true rfl⟩ rfl (Nat.le_of_ble_eq_true rfl) ⟨Nat.le_trans (Nat.le_add_right _ _) hc.1, Nat.le_trans (Nat.le_add_right _ _) hc.2⟩ dX11_onPoses_117 ?_
    cases hv
    exact jc_iret C K dX11_onPoses_120 rfl ⟨Nat.le_trans (Nat.le_add_right _ _) hc.1, Nat.le_trans (Nat.le_add_right _ _) hc.2⟩
  have hv := (if_neg q1_3).symm.trans hv
  by_cases q1_4 : v1 = 84
  · have hv := (if_pos q1_4).symm.trans hv
    refine jr_tableIn (off := 120) (tgt := 121) C dX11_onPoses_1 (by rw [q1_4]; decide) (by rw [q1_4]; decide) (by rw [q1_4]; rfl) rfl ?_
    refine jr_aload_n C dX11_onPoses_121 rfl 0 rfl ?_
    refine jr_iload_n C dX11_onPoses_122 rfl 2 rfl ?_
    refine jr_aload_n C dX11_onPoses_123 rfl 0 rfl ?_
    refine jc_getR C K 5 (by decide) (by decide) kw_127 rfl dX11_onPoses_124 ?_
    refine jr_iload_n C dX11_onPoses_127 rfl 3 rfl ?_
    obtain ⟨c128, hc128, hv⟩ := Option.bind_eq_some_iff.mp hv
    refine jc_callR (rest := [.int v2, .ref (co g)]) C K (pX7_thingAt l G S v3 hc128) oX7_thingAt kw_497 kw_495 rfl ⟨Nat.le_of_ble_eq_true rfl, Nat.le_of_ble_eq_true rfl⟩ rfl (Nat.le_of_ble_eq_true rfl) ⟨Nat.le_trans (Nat.le_add_right _ _) hc.1, Nat.le_trans (Nat.le_add_right _ _) hc.2⟩ dX11_onPoses_128 ?_
    refine jr_aload_n C dX11_onPoses_131 rfl 0 rfl ?_
    refine jc_getR C K 5 (by decide) (by decide) kw_127 rfl dX11_onPoses_132 ?_
    refine jr_iload C dX11_onPoses_135 4 rfl ?_
    obtain ⟨c137, hc137, hv⟩ := Option.bind_eq_some_iff.mp hv
    refine jc_callR (rest := [va_rf c128.1, .int v2, .ref (co g)]) C K (pX7_thingAt l G c128.2 v4 hc137) oX7_thingAt kw_497 kw_495 rfl ⟨Nat.le_of_ble_eq_true rfl, Nat.le_of_ble_eq_true rfl⟩ rfl (by simp [cat_rf, cat_i, cat_l, cat_r]) ⟨Nat.le_trans (Nat.le_add_right _ _) hc.1, Nat.le_trans (Nat.le_add_right _ _) hc.2⟩ dX11_onPoses_137 ?_
    obtain ⟨c140, hc140, hv⟩ := Option.bind_eq_some_iff.mp hv
    refine jc_callO (rest := []) C K (pX11_tellApart l G c137.2 v2 c128.1 c137.1 hc140) oX11_tellApart kw_34 kw_730 rfl ⟨Nat.le_of_ble_eq_true rfl, Nat.le_of_ble_eq_true rfl⟩ rfl (Nat.le_of_ble_eq_true rfl) ⟨Nat.le_trans (Nat.le_add_right _ _) hc.1, Nat.le_trans (Nat.le_add_right _ _) hc.2⟩ dX11_onPoses_140 ?_
    cases hv
    exact jc_iret C K dX11_onPoses_143 rfl ⟨Nat.le_trans (Nat.le_add_right _ _) hc.1, Nat.le_trans (Nat.le_add_right _ _) hc.2⟩
  have hv := (if_neg q1_4).symm.trans hv
  refine jr_tableOut (tgt := 144) C dX11_onPoses_1 (by have := sw_ne (a := 80) q1_0 (by decide); have := sw_ne (a := 81) q1_1 (by decide); have := sw_ne (a := 82) q1_2 (by decide); have := sw_ne (a := 83) q1_3 (by decide); have := sw_ne (a := 84) q1_4 (by decide); omega) rfl ?_
  refine jr_iconst (v := 2) C dX11_onPoses_144 (by decide) ?_
  cases hv
  exact jc_iret C K dX11_onPoses_145 rfl ⟨Nat.le_trans (Nat.le_add_right _ _) hc.1, Nat.le_trans (Nat.le_add_right _ _) hc.2⟩
theorem pX11_onPoses (l : Launch) {g : CG} (G : cSep g)   (S : CS) (v1 : Int32) (v2 : Int32) (v3 : Int32) (v4 : Int32) {w : (Int32 × CS) × Nat × Nat} (hw : fX11_onPoses S v1 v2 v3 v4 = some w) {mc ms : Nat} (hc : 0 + w.2.1 ≤ mc ∧ 0 + w.2.2 ≤ ms) : cC l yX11_onPoses cX11_onPoses 5 (some .int) 8 mc ms g [.ref (co g), .int v1, .int v2, .int v3, .int v4] S (some (.int w.1.1)) w.1.2 := cC_of (lv := [(0, .ref (co g)), (1, .int v1), (2, .int v2), (3, .int v3), (4, .int v4)]) (by decide +kernel) (Nat.le_of_ble_eq_true rfl) rfl (fun C K => tX11_onPoses_0 C K G  S v1 v2 v3 v4 hw 0 0 hc)
/-! RobotCell.onDevices(IIII)I -/
def fX11_onDevices (S : CS) (v1 : Int32) (v2 : Int32) (v3 : Int32) (v4 : Int32) : Option ((Int32 × CS) × Nat × Nat) :=
  if v1 = 88 then (Option.bind (fX11_makeDevice S v2 (v4 &&& 3)) (fun c42 => addD c42.2.1 c42.2.2 (some ((c42.1.1, c42.1.2), 0, 0)))) else if v1 = 89 then (Option.bind (fX7_thingAt S v3) (fun c53 => Option.bind (fX7_measureAt c53.2 v4) (fun c62 => Option.bind (fX11_go c62.2 v2 c53.1 c62.1) (fun c65 => some ((c65.1, c65.2), 0, 0))))) else if v1 = 90 then (Option.bind (fX7_thingAt S v3) (fun c76 => Option.bind (fX11_tell c76.2 v2 c76.1 (v4 &&& 7)) (fun c84 => some ((c84.1, c84.2), 0, 0)))) else if v1 = 91 then (Option.bind (fX7_thingAt S v2) (fun c93 => Option.bind (fX11_rest c93.2 c93.1) (fun c96 => some ((c96.1, c96.2), 0, 0)))) else if v1 = 92 then (Option.bind (fX7_thingAt S v2) (fun c105 => Option.bind (fX7_measureAt c105.2 v3) (fun c113 => Option.bind (fX11_sense c113.2 c105.1 c113.1) (fun c116 => some ((c116.1, c116.2), 0, 0))))) else some ((2, S), 0, 0)
theorem oX11_onDevices : ok_c yX11_onDevices cX11_onDevices 5 (some .int) 4 (.instanceMethod yX11_onDevices) := ⟨kw_747, ⟨kw_746, rfl⟩, kw_71, by decide +kernel⟩
set_option maxRecDepth 100000 in
set_option maxHeartbeats 1000000 in
theorem tX11_onDevices_0 {p : Program} {l : Launch} {e : Env} {s : State} {m : MethodId} {args : Array Value} {below : List Frame} {meth : Method} {c : Code} {g : CG} {S0 : CS} {mc ms : Nat} (C : CC p s m args meth c yX11_onDevices cX11_onDevices 5 (some .int)) (K : cK g s) (G : cSep g)  (S : CS) (v1 : Int32) (v2 : Int32) (v3 : Int32) (v4 : Int32) {w : (Int32 × CS) × Nat × Nat} (hv : fX11_onDevices S v1 v2 v3 v4 = some w) (cells slots : Nat) (hc : cells + w.2.1 ≤ mc ∧ slots + w.2.2 ≤ ms) : CJ p l e s m args below meth c 5 8 mc ms g S0 (some (.int w.1.1)) w.1.2 0 [(0, .ref (co g)), (1, .int v1), (2, .int v2), (3, .int v3), (4, .int v4)] [] S cells slots := by
  unfold fX11_onDevices at hv
  refine jr_iload_n C dX11_onDevices_0 rfl 1 rfl ?_
  by_cases q1_0 : v1 = 88
  · have hv := (if_pos q1_0).symm.trans hv
    refine jr_tableIn (off := 35) (tgt := 36) C dX11_onDevices_1 (by rw [q1_0]; decide) (by rw [q1_0]; decide) (by rw [q1_0]; rfl) rfl ?_
    refine jr_aload_n C dX11_onDevices_36 rfl 0 rfl ?_
    refine jr_iload_n C dX11_onDevices_37 rfl 2 rfl ?_
    refine jr_iload C dX11_onDevices_38 4 rfl ?_
    refine jr_iconst (v := 3) C dX11_onDevices_40 (by decide) ?_
    refine jr_iand C dX11_onDevices_41 ?_
    obtain ⟨c42, hc42, hv⟩ := Option.bind_eq_some_iff.mp hv
    obtain ⟨w42, hv, e1, e2, e3⟩ := addD_of hv
    rw [← e1]
    have hr : cells + c42.2.1 ≤ mc ∧ slots + c42.2.2 ≤ ms := ⟨by omega, by omega⟩
    refine jc_callO (rest := []) C K (pX11_makeDevice l G S v2 (v4 &&& 3) hc42 ⟨Nat.le_of_eq (Nat.zero_add _), Nat.le_of_eq (Nat.zero_add _)⟩) oX11_makeDevice kw_36 kw_748 rfl ⟨Nat.le_of_ble_eq_true rfl, Nat.le_of_ble_eq_true rfl⟩ rfl (Nat.le_of_ble_eq_true rfl) ⟨hr.1, hr.2⟩ dX11_onDevices_42 ?_
    have hc : (cells + c42.2.1) + w42.2.1 ≤ mc ∧ (slots + c42.2.2) + w42.2.2 ≤ ms := ⟨by omega, by omega⟩
    cases hv
    exact jc_iret C K dX11_onDevices_45 rfl ⟨Nat.le_trans (Nat.le_add_right _ _) hc.1, Nat.le_trans (Nat.le_add_right _ _) hc.2⟩
  have hv := (if_neg q1_0).symm.trans hv
  by_cases q1_1 : v1 = 89
  · have hv := (if_pos q1_1).symm.trans hv
    refine jr_tableIn (off := 45) (tgt := 46) C dX11_onDevices_1 (by rw [q1_1]; decide) (by rw [q1_1]; decide) (by rw [q1_1]; rfl) rfl ?_
    refine jr_aload_n C dX11_onDevices_46 rfl 0 rfl ?_
    refine jr_iload_n C dX11_onDevices_47 rfl 2 rfl ?_
    refine jr_aload_n C dX11_onDevices_48 rfl 0 rfl ?_
    refine jc_getR C K 5 (by decide) (by decide) kw_127 rfl dX11_onDevices_49 ?_
    refine jr_iload_n C dX11_onDevices_52 rfl 3 rfl ?_
    obtain ⟨c53, hc53, hv⟩ := Option.bind_eq_some_iff.mp hv
    refine jc_callR (rest := [.int v2, .ref (co g)]) C K (pX7_thingAt l G S v3 hc53) oX7_thingAt kw_497 kw_495 rfl ⟨Nat.le_of_ble_eq_true rfl, Nat.le_of_ble_eq_true rfl⟩ rfl (Nat.le_of_ble_eq_true rfl) ⟨Nat.le_trans (Nat.le_add_right _ _) hc.1, Nat.le_trans (Nat.le_add_right _ _) hc.2⟩ dX11_onDevices_53 ?_
    refine jr_aload_n C dX11_onDevices_56 rfl 0 rfl ?_
    refine jc_getR C K 5 (by decide) (by decide) kw_127 rfl dX11_onDevices_57 ?_
    refine jr_iload C dX11_onDevices_60 4 rfl ?_
    obtain ⟨c62, hc62, hv⟩ := Option.bind_eq_some_iff.mp hv
    refine jc_callR (rest := [va_rf c53.1, .int v2, .ref (co g)]) C K (pX7_measureAt l G c53.2 v4 hc62) oX7_measureAt kw_262 kw_260 rfl ⟨Nat.le_of_ble_eq_true rfl, Nat.le_of_ble_eq_true rfl⟩ rfl (by simp [cat_rf, cat_i, cat_l, cat_r]) ⟨Nat.le_trans (Nat.le_add_right _ _) hc.1, Nat.le_trans (Nat.le_add_right _ _) hc.2⟩ dX11_onDevices_62 ?_
    obtain ⟨c65, hc65, hv⟩ := Option.bind_eq_some_iff.mp hv
    refine jc_callO (rest := []) C K (pX11_go l G c62.2 v2 c53.1 c62.1 hc65) oX11_go kw_37 kw_804 rfl ⟨Nat.le_of_ble_eq_true rfl, Nat.le_of_ble_eq_true rfl⟩ rfl (Nat.le_of_ble_eq_true rfl) ⟨Nat.le_trans (Nat.le_add_right _ _) hc.1, Nat.le_trans (Nat.le_add_right _ _) hc.2⟩ dX11_onDevices_65 ?_
    cases hv
    exact jc_iret C K dX11_onDevices_68 rfl ⟨Nat.le_trans (Nat.le_add_right _ _) hc.1, Nat.le_trans (Nat.le_add_right _ _) hc.2⟩
  have hv := (if_neg q1_1).symm.trans hv
  by_cases q1_2 : v1 = 90
  · have hv := (if_pos q1_2).symm.trans hv
    refine jr_tableIn (off := 68) (tgt := 69) C dX11_onDevices_1 (by rw [q1_2]; decide) (by rw [q1_2]; decide) (by rw [q1_2]; rfl) rfl ?_
    refine jr_aload_n C dX11_onDevices_69 rfl 0 rfl ?_
    refine jr_iload_n C dX11_onDevices_70 rfl 2 rfl ?_
    refine jr_aload_n C dX11_onDevices_71 rfl 0 rfl ?_
    refine jc_getR C K 5 (by decide) (by decide) kw_127 rfl dX11_onDevices_72 ?_
    refine jr_iload_n C dX11_onDevices_75 rfl 3 rfl ?_
    obtain ⟨c76, hc76, hv⟩ := Option.bind_eq_some_iff.mp hv
    refine jc_callR (rest := [.int v2, .ref (co g)]) C K (pX7_thingAt l G S v3 hc76) oX7_thingAt kw_497 kw_495 rfl ⟨Nat.le_of_ble_eq_true rfl, Nat.le_of_ble_eq_true rfl⟩ rfl (Nat.le_of_ble_eq_true rfl) ⟨Nat.le_trans (Nat.le_add_right _ _) hc.1, Nat.le_trans (Nat.le_add_right _ _) hc.2⟩ dX11_onDevices_76 ?_
    refine jr_iload C dX11_onDevices_79 4 rfl ?_
    refine jr_bipush (v := 7) C dX11_onDevices_81 (by decide) ?_
    refine jr_iand C dX11_onDevices_83 ?_
    obtain ⟨c84, hc84, hv⟩ := Option.bind_eq_some_iff.mp hv
    refine jc_callO (rest := []) C K (pX11_tell l G c76.2 v2 c76.1 (v4 &&& 7) hc84) oX11_tell kw_39 kw_894 rfl ⟨Nat.le_of_ble_eq_true rfl, Nat.le_of_ble_eq_true rfl⟩ rfl (Nat.le_of_ble_eq_true rfl) ⟨Nat.le_trans (Nat.le_add_right _ _) hc.1, Nat.le_trans (Nat.le_add_right _ _) hc.2⟩ dX11_onDevices_84 ?_
    cases hv
    exact jc_iret C K dX11_onDevices_87 rfl ⟨Nat.le_trans (Nat.le_add_right _ _) hc.1, Nat.le_trans (Nat.le_add_right _ _) hc.2⟩
  have hv := (if_neg q1_2).symm.trans hv
  by_cases q1_3 : v1 = 91
  · have hv := (if_pos q1_3).symm.trans hv
    refine jr_tableIn (off := 87) (tgt := 88) C dX11_onDevices_1 (by rw [q1_3]; decide) (by rw [q1_3]; decide) (by rw [q1_3]; rfl) rfl ?_
    refine jr_aload_n C dX11_onDevices_88 rfl 0 rfl ?_
    refine jc_getR C K 5 (by decide) (by decide) kw_127 rfl dX11_onDevices_89 ?_
    refine jr_iload_n C dX11_onDevices_92 rfl 2 rfl ?_
    obtain ⟨c93, hc93, hv⟩ := Option.bind_eq_some_iff.mp hv
    refine jc_callR (rest := []) C K (pX7_thingAt l G S v2 hc93) oX7_thingAt kw_497 kw_495 rfl ⟨Nat.le_of_ble_eq_true rfl, Nat.le_of_ble_eq_true rfl⟩ rfl (Nat.le_of_ble_eq_true rfl) ⟨Nat.le_trans (Nat.le_add_right _ _) hc.1, Nat.le_trans (Nat.le_add_right _ _) hc.2⟩ dX11_onDevices_93 ?_
    obtain ⟨c96, hc96, hv⟩ := Option.bind_eq_some_iff.mp hv
    refine jc_callS (rest := []) C K (pX11_rest l G c93.2 c93.1 hc96) oX11_rest kw_982 rfl ⟨Nat.le_of_ble_eq_true rfl, Nat.le_of_ble_eq_true rfl⟩ rfl (Nat.le_of_ble_eq_true rfl) ⟨Nat.le_trans (Nat.le_add_right _ _) hc.1, Nat.le_trans (Nat.le_add_right _ _) hc.2⟩ dX11_onDevices_96 ?_
    cases hv
    exact jc_iret C K dX11_onDevices_99 rfl ⟨Nat.le_trans (Nat.le_add_right _ _) hc.1, Nat.le_trans (Nat.le_add_right _ _) hc.2⟩
  have hv := (if_neg q1_3).symm.trans hv
  by_cases q1_4 : v1 = 92
  · have hv := (if_pos q1_4).symm.trans hv
    refine jr_tableIn (off := 99) (tgt := 100) C dX11_onDevices_1 (by rw [q1_4]; decide) (by rw [q1_4]; decide) (by rw [q1_4]; rfl) rfl ?_
    refine jr_aload_n C dX11_onDevices_100 rfl 0 rfl ?_
    refine jc_getR C K 5 (by decide) (by decide) kw_127 rfl dX11_onDevices_101 ?_
    refine jr_iload_n C dX11_onDevices_104 rfl 2 rfl ?_
    obtain ⟨c105, hc105, hv⟩ := Option.bind_eq_some_iff.mp hv
    refine jc_callR (rest := []) C K (pX7_thingAt l G S v2 hc105) oX7_thingAt kw_497 kw_495 rfl ⟨Nat.le_of_ble_eq_true rfl, Nat.le_of_ble_eq_true rfl⟩ rfl (Nat.le_of_ble_eq_true rfl) ⟨Nat.le_trans (Nat.le_add_right _ _) hc.1, Nat.le_trans (Nat.le_add_right _ _) hc.2⟩ dX11_onDevices_105 ?_
    refine jr_aload_n C dX11_onDevices_108 rfl 0 rfl ?_
    refine jc_getR C K 5 (by decide) (by decide) kw_127 rfl dX11_onDevices_109 ?_
    refine jr_iload_n C dX11_onDevices_112 rfl 3 rfl ?_
    obtain ⟨c113, hc113, hv⟩ := Option.bind_eq_some_iff.mp hv
    refine jc_callR (rest := [va_rf c105.1]) C K (pX7_measureAt l G c105.2 v3 hc113) oX7_measureAt kw_262 kw_260 rfl ⟨Nat.le_of_ble_eq_true rfl, Nat.le_of_ble_eq_true rfl⟩ rfl (by simp [cat_rf, cat_i, cat_l, cat_r]) ⟨Nat.le_trans (Nat.le_add_right _ _) hc.1, Nat.le_trans (Nat.le_add_right _ _) hc.2⟩ dX11_onDevices_113 ?_
    obtain ⟨c116, hc116, hv⟩ := Option.bind_eq_some_iff.mp hv
    refine jc_callS (rest := []) C K (pX11_sense l G c113.2 c105.1 c113.1 hc116) oX11_sense kw_1017 rfl ⟨Nat.le_of_ble_eq_true rfl, Nat.le_of_ble_eq_true rfl⟩ rfl (Nat.le_of_ble_eq_true rfl) ⟨Nat.le_trans (Nat.le_add_right _ _) hc.1, Nat.le_trans (Nat.le_add_right _ _) hc.2⟩ dX11_onDevices_116 ?_
    cases hv
    exact jc_iret C K dX11_onDevices_119 rfl ⟨Nat.le_trans (Nat.le_add_right _ _) hc.1, Nat.le_trans (Nat.le_add_right _ _) hc.2⟩
  have hv := (if_neg q1_4).symm.trans hv
  refine jr_tableOut (tgt := 120) C dX11_onDevices_1 (by have := sw_ne (a := 88) q1_0 (by decide); have := sw_ne (a := 89) q1_1 (by decide); have := sw_ne (a := 90) q1_2 (by decide); have := sw_ne (a := 91) q1_3 (by decide); have := sw_ne (a := 92) q1_4 (by decide); omega) rfl ?_
  refine jr_iconst (v := 2) C dX11_onDevices_120 (by decide) ?_
  cases hv
  exact jc_iret C K dX11_onDevices_121 rfl ⟨Nat.le_trans (Nat.le_add_right _ _) hc.1, Nat.le_trans (Nat.le_add_right _ _) hc.2⟩
theorem pX11_onDevices (l : Launch) {g : CG} (G : cSep g)   (S : CS) (v1 : Int32) (v2 : Int32) (v3 : Int32) (v4 : Int32) {w : (Int32 × CS) × Nat × Nat} (hw : fX11_onDevices S v1 v2 v3 v4 = some w) {mc ms : Nat} (hc : 0 + w.2.1 ≤ mc ∧ 0 + w.2.2 ≤ ms) : cC l yX11_onDevices cX11_onDevices 5 (some .int) 8 mc ms g [.ref (co g), .int v1, .int v2, .int v3, .int v4] S (some (.int w.1.1)) w.1.2 := cC_of (lv := [(0, .ref (co g)), (1, .int v1), (2, .int v2), (3, .int v3), (4, .int v4)]) (by decide +kernel) (Nat.le_of_ble_eq_true rfl) rfl (fun C K => tX11_onDevices_0 C K G  S v1 v2 v3 v4 hw 0 0 hc)
