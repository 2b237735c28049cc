theorem oX11_doBlock : ok_c yX11_doBlock cX11_doBlock 6 (some .int) 2 (.instanceMethod yX11_doBlock) := ⟨kw_198, ⟨kw_197, rfl⟩, kw_71, by decide +kernel⟩
/-! RobotCell.attempt(II)I -/
def fX11_attempt_38 (rB : CS → Int32 → Int32 → Option ((Int32 × CS) × Nat × Nat)) (S : CS) (v3 : Int32) : Option ((Int32 × CS) × Nat × Nat) :=
  some ((v3, S), 0, 0)
def fX11_attempt_53 (rB : CS → Int32 → Int32 → Option ((Int32 × CS) × Nat × Nat)) (S : CS) (v1 : Int32) (v3 : Int32) : Option ((Int32 × CS) × Nat × Nat) :=
  if inb v1 (clA 1) = true then (Option.bind (fX11_giveNumber S (gA S.1 1 (ix v1)) v3.toInt64) (fun c62 => some ((c62.1, c62.2), 0, 0))) else none
def fX11_attempt_45 (rB : CS → Int32 → Int32 → Option ((Int32 × CS) × Nat × Nat)) (S : CS) (v1 : Int32) (v3 : Int32) : Option ((Int32 × CS) × Nat × Nat) :=
  fX11_attempt_53 rB (cpI S 14 (gI S.1 12)) v1 v3
def fX11_attempt_40 (rB : CS → Int32 → Int32 → Option ((Int32 × CS) × Nat × Nat)) (S : CS) (v1 : Int32) (v3 : Int32) : Option ((Int32 × CS) × Nat × Nat) :=
  fX11_attempt_45 rB (cpI S 13 v3) v1 v3
def fX11_attempt_20 (rB : CS → Int32 → Int32 → Option ((Int32 × CS) × Nat × Nat)) (S : CS) (v1 : Int32) (v3 : Int32) (v4 : Int32) : Option ((Int32 × CS) × Nat × Nat) :=
  if (fX11_isFault v3) = 0 then fX11_attempt_38 rB S v3 else (if v4 = 0 then fX11_attempt_40 rB S v1 v3 else (if v4 = v3 then fX11_attempt_40 rB S v1 v3 else fX11_attempt_38 rB S v3))
def fX11_attempt_12 (rB : CS → Int32 → Int32 → Option ((Int32 × CS) × Nat × Nat)) (S : CS) (v1 : Int32) (v3 : Int32) : Option ((Int32 × CS) × Nat × Nat) :=
  if inb v1 (clA 3) = true then fX11_attempt_20 rB S v1 v3 (gA S.1 3 (ix v1)) else none
def fX11_attempt (rB : CS → Int32 → Int32 → Option ((Int32 × CS) × Nat × Nat)) (S : CS) (v1 : Int32) (v2 : Int32) : Option ((Int32 × CS) × Nat × Nat) :=
  if inb v1 (clA 2) = true then (Option.bind (rB S (gA S.1 2 (ix v1)) v2) (fun c8 => addD c8.2.1 c8.2.2 (fX11_attempt_12 rB c8.1.2 v1 c8.1.1))) else none
theorem oX11_attempt : ok_c yX11_attempt cX11_attempt 5 (some .int) 2 (.instanceMethod yX11_attempt) := ⟨kw_233, ⟨kw_232, rfl⟩, kw_71, by decide +kernel⟩
set_option maxRecDepth 100000 in
set_option maxHeartbeats 1000000 in
theorem tX11_attempt_38 {p : Program} {l : Launch} {e : Env} {s : State} {m : MethodId} {args : Array Value} {below : List Frame} {meth : Method} {c : Code} {g : CG} {S0 : CS} {mc ms : Nat} (C : CC p s m args meth c yX11_attempt cX11_attempt 5 (some .int)) (K : cK g s) (G : cSep g) (rB : CS → Int32 → Int32 → Option ((Int32 × CS) × Nat × Nat)) {kB : Nat} (kh : 20 ≤ kB) (hB : ∀ (S : CS) (v1 v2 : Int32) (w : (Int32 × CS) × Nat × Nat), rB S v1 v2 = some w → ∀ mc ms : Nat, 0 + w.2.1 ≤ mc ∧ 0 + w.2.2 ≤ ms → cC l yX11_doBlock cX11_doBlock 6 (some .int) kB mc ms g [.ref (co g), .int v1, .int v2] S (some (.int w.1.1)) w.1.2) (S : CS) (v3 : Int32) {w : (Int32 × CS) × Nat × Nat} (hv : fX11_attempt_38 rB S v3 = some w) (cells slots : Nat) (hc : cells + w.2.1 ≤ mc ∧ slots + w.2.2 ≤ ms) : CJ p l e s m args below meth c 5 (kB + 1) mc ms g S0 (some (.int w.1.1)) w.1.2 38 [(3, .int v3)] [] S cells slots := by
  unfold fX11_attempt_38 at hv
  refine jr_iload_n C dX11_attempt_38 rfl 0 rfl ?_
  cases hv
  exact jc_iret C K dX11_attempt_39 rfl ⟨Nat.le_trans (Nat.le_add_right _ _) hc.1, Nat.le_trans (Nat.le_add_right _ _) hc.2⟩
set_option maxRecDepth 100000 in
set_option maxHeartbeats 1000000 in
theorem tX11_attempt_53 {p : Program} {l : Launch} {e : Env} {s : State} {m : MethodId} {args : Array Value} {below : List Frame} {meth : Method} {c : Code} {g : CG} {S0 : CS} {mc ms : Nat} (C : CC p s m args meth c yX11_attempt cX11_attempt 5 (some .int)) (K : cK g s) (G : cSep g) (rB : CS → Int32 → Int32 → Option ((Int32 × CS) × Nat × Nat)) {kB : Nat} (kh : 20 ≤ kB) (hB : ∀ (S : CS) (v1 v2 : Int32) (w : (Int32 × CS) × Nat × Nat), rB S v1 v2 = some w → ∀ mc ms : Nat, 0 + w.2.1 ≤ mc ∧ 0 + w.2.2 ≤ ms → cC l yX11_doBlock cX11_doBlock 6 (some .int) kB mc ms g [.ref (co g), .int v1, .int v2] S (some (.int w.1.1)) w.1.2) (S : CS) (v1 : Int32) (v3 : Int32) {w : (Int32 × CS) × Nat × Nat} (hv : fX11_attempt_53 rB S v1 v3 = some w) (cells slots : Nat) (hc : cells + w.2.1 ≤ mc ∧ slots + w.2.2 ≤ ms) : CJ p l e s m args below meth c 5 (kB + 1) mc ms g S0 (some (.int w.1.1)) w.1.2 53 [(0, .ref (co g)), (1, .int v1), (3, .int v3)] [] S cells slots := by
  unfold fX11_attempt_53 at hv
  refine jr_aload_n C dX11_attempt_53 rfl 0 rfl ?_
  refine jr_aload_n C dX11_attempt_54 rfl 0 rfl ?_
  refine jc_getR C K 1 (by decide) (by decide) kw_123 rfl dX11_attempt_55 ?_
  refine jr_iload_n C dX11_attempt_58 rfl 1 rfl ?_
  by_cases z59 : inb v1 (clA 1) = true
  case neg => exact op_none ((if_neg z59).symm.trans hv)
  have hv := (if_pos z59).symm.trans hv
  refine jc_iald C K z59 dX11_attempt_59 ?_
  refine jr_iload_n C dX11_attempt_60 rfl 2 rfl ?_
  refine jr_i2l C dX11_attempt_61 ?_
  obtain ⟨c62, hc62, hv⟩ := Option.bind_eq_some_iff.mp hv
  refine jc_callO (rest := []) C K (pX11_giveNumber l G S (gA S.1 1 (ix v1)) v3.toInt64 hc62) oX11_giveNumber kw_8 kw_234 rfl ⟨by show _ ≤ kB + 1; omega, by show _ ≤ 48 * (kB + 1); omega⟩ rfl (Nat.le_of_ble_eq_true rfl) ⟨Nat.le_trans (Nat.le_add_right _ _) hc.1, Nat.le_trans (Nat.le_add_right _ _) hc.2⟩ dX11_attempt_62 ?_
  cases hv
  exact jc_iret C K dX11_attempt_65 rfl ⟨Nat.le_trans (Nat.le_add_right _ _) hc.1, Nat.le_trans (Nat.le_add_right _ _) hc.2⟩
set_option maxRecDepth 100000 in
set_option maxHeartbeats 1000000 in
theorem tX11_attempt_45 {p : Program} {l : Launch} {e : Env} {s : State} {m : MethodId} {args : Array Value} {below : List Frame} {meth : Method} {c : Code} {g : CG} {S0 : CS} {mc ms : Nat} (C : CC p s m args meth c yX11_attempt cX11_attempt 5 (some .int)) (K : cK g s) (G : cSep g) (rB : CS → Int32 → Int32 → Option ((Int32 × CS) × Nat × Nat)) {kB : Nat} (kh : 20 ≤ kB) (hB : ∀ (S : CS) (v1 v2 : Int32) (w : (Int32 × CS) × Nat × Nat), rB S v1 v2 = some w → ∀ mc ms : Nat, 0 + w.2.1 ≤ mc ∧ 0 + w.2.2 ≤ ms → cC l yX11_doBlock cX11_doBlock 6 (some .int) kB mc ms g [.ref (co g), .int v1, .int v2] S (some (.int w.1.1)) w.1.2) (S : CS) (v1 : Int32) (v3 : Int32) {w : (Int32 × CS) × Nat × Nat} (hv : fX11_attempt_45 rB S v1 v3 = some w) (cells slots : Nat) (hc : cells + w.2.1 ≤ mc ∧ slots + w.2.2 ≤ ms) : CJ p l e s m args below meth c 5 (kB + 1) mc ms g S0 (some (.int w.1.1)) w.1.2 45 [(0, .ref (co g)), (1, .int v1), (3, .int v3)] [] S cells slots := by
  unfold fX11_attempt_45 at hv
  refine jr_aload_n C dX11_attempt_45 rfl 0 rfl ?_
  refine jr_aload_n C dX11_attempt_46 rfl 0 rfl ?_
  refine jc_getI C K 12 (by decide) rfl kw_134 rfl dX11_attempt_47 ?_
  refine jc_putI C K G 14 (by decide) rfl kw_136 rfl rfl (by decide +kernel) dX11_attempt_50 ?_
  exact tX11_attempt_53 C K G rB kh hB (cpI S 14 (gI S.1 12)) v1 v3 hv _ _ hc
set_option maxRecDepth 100000 in
set_option maxHeartbeats 1000000 in
theorem tX11_attempt_40 {p : Program} {l : Launch} {e : Env} {s : State} {m : MethodId} {args : Array Value} {below : List Frame} {meth : Method} {c : Code} {g : CG} {S0 : CS} {mc ms : Nat} (C : CC p s m args meth c yX11_attempt cX11_attempt 5 (some .int)) (K : cK g s) (G : cSep g) (rB : CS → Int32 → Int32 → Option ((Int32 × CS) × Nat × Nat)) {kB : Nat} (kh : 20 ≤ kB) (hB : ∀ (S : CS) (v1 v2 : Int32) (w : (Int32 × CS) × Nat × Nat), rB S v1 v2 = some w → ∀ mc ms : Nat, 0 + w.2.1 ≤ mc ∧ 0 + w.2.2 ≤ ms → cC l yX11_doBlock cX11_doBlock 6 (some .int) kB mc ms g [.ref (co g), .int v1, .int v2] S (some (.int w.1.1)) w.1.2) (S : CS) (v1 : Int32) (v3 : Int32) {w : (Int32 × CS) × Nat × Nat} (hv : fX11_attempt_40 rB S v1 v3 = some w) (cells slots : Nat) (hc : cells + w.2.1 ≤ mc ∧ slots + w.2.2 ≤ ms) : CJ p l e s m args below meth c 5 (kB + 1) mc ms g S0 (some (.int w.1.1)) w.1.2 40 [(0, .ref (co g)), (1, .int v1), (3, .int v3)] [] S cells slots := by
  unfold fX11_attempt_40 at hv
  refine jr_aload_n C dX11_attempt_40 rfl 0 rfl ?_
  refine jr_iload_n C dX11_attempt_41 rfl 2 rfl ?_
  refine jc_putI C K G 13 (by decide) rfl kw_135 rfl rfl (by decide +kernel) dX11_attempt_42 ?_
  exact tX11_attempt_45 C K G rB kh hB (cpI S 13 v3) v1 v3 hv _ _ hc
set_option maxRecDepth 100000 in
set_option maxHeartbeats 1000000 in
theorem tX11_attempt_20 {p : Program} {l : Launch} {e : Env} {s : State} {m : MethodId} {args : Array Value} {below : List Frame} {meth : Method} {c : Code} {g : CG} {S0 : CS} {mc ms : Nat} (C : CC p s m args meth c yX11_attempt cX11_attempt 5 (some .int)) (K : cK g s) (G : cSep g) (rB : CS → Int32 → Int32 → Option ((Int32 × CS) × Nat × Nat)) {kB : Nat} (kh : 20 ≤ kB) (hB : ∀ (S : CS) (v1 v2 : Int32) (w : (Int32 × CS) × Nat × Nat), rB S v1 v2 = some w → ∀ mc ms : Nat, 0 + w.2.1 ≤ mc ∧ 0 + w.2.2 ≤ ms → cC l yX11_doBlock cX11_doBlock 6 (some .int) kB mc ms g [.ref (co g), .int v1, .int v2] S (some (.int w.1.1)) w.1.2) (S : CS) (v1 : Int32) (v3 : Int32) (v4 : Int32) {w : (Int32 × CS) × Nat × Nat} (hv : fX11_attempt_20 rB S v1 v3 v4 = some w) (cells slots : Nat) (hc : cells + w.2.1 ≤ mc ∧ slots + w.2.2 ≤ ms) : CJ p l e s m args below meth c 5 (kB + 1) mc ms g S0 (some (.int w.1.1)) w.1.2 20 [(0, .ref (co g)), (1, .int v1), (3, .int v3), (4, .int v4)] [] S cells slots := by
  unfold fX11_attempt_20 at hv
  refine jr_iload_n C dX11_attempt_20 rfl 2 rfl ?_
  refine jr_pcall (rest := []) C (pX11_isFault l v3) oX11_isFault kw_227 rfl ⟨by show _ ≤ kB + 1; omega, by show _ ≤ 48 * (kB + 1); omega⟩ rfl (Nat.le_of_ble_eq_true rfl) ⟨Nat.le_trans (Nat.le_add_right _ _) hc.1, Nat.le_trans (Nat.le_add_right _ _) hc.2⟩ dX11_attempt_21 ?_
  refine jr_if_eq (tgt := 38) C dX11_attempt_24 rfl (fun q24 => ?_) (fun q24 => ?_)
  · have hv := (if_pos q24).symm.trans hv
    exact jr_sub [2] rfl (tX11_attempt_38 C K G rB kh hB S v3 hv _ _ hc)
  · have hv := (if_neg q24).symm.trans hv
    refine jr_iload C dX11_attempt_27 3 rfl ?_
    refine jr_if_eq (tgt := 40) C dX11_attempt_29 rfl (fun q29 => ?_) (fun q29 => ?_)
    · have hv := (if_pos q29).symm.trans hv
      exact jr_sub [0, 1, 2] rfl (tX11_attempt_40 C K G rB kh hB S v1 v3 hv _ _ hc)
    · have hv := (if_neg q29).symm.trans hv
      refine jr_iload C dX11_attempt_32 3 rfl ?_
      refine jr_iload_n C dX11_attempt_34 rfl 2 rfl ?_
      refine jr_icmp_eq (tgt := 40) C dX11_attempt_35 rfl (fun q35 => ?_) (fun q35 => ?_)
      · have hv := (if_pos q35).symm.trans hv
        exact jr_sub [0, 1, 2] rfl (tX11_attempt_40 C K G rB kh hB S v1 v3 hv _ _ hc)
      · have hv := (if_neg q35).symm.trans hv
        exact jr_sub [2] rfl (tX11_attempt_38 C K G rB kh hB S v3 hv _ _ hc)
set_option maxRecDepth 100000 in
set_option maxHeartbeats 1000000 in
theorem tX11_attempt_12 {p : Program} {l : Launch} {e : Env} {s : State} {m : MethodId} {args : Array Value} {below : List Frame} {meth : Method} {c : Code} {g : CG} {S0 : CS} {mc ms : Nat} (C : CC p s m args meth c yX11_attempt cX11_attempt 5 (some .int)) (K : cK g s) (G : cSep g) (rB : CS → Int32 → Int32 → Option ((Int32 × CS) × Nat × Nat)) {kB : Nat} (kh : 20 ≤ kB) (hB : ∀ (S : CS) (v1 v2 : Int32) (w : (Int32 × CS) × Nat × Nat), rB S v1 v2 = some w → ∀ mc ms : Nat, 0 + w.2.1 ≤ mc ∧ 0 + w.2.2 ≤ ms → cC l yX11_doBlock cX11_doBlock 6 (some .int) kB mc ms g [.ref (co g), .int v1, .int v2] S (some (.int w.1.1)) w.1.2) (S : CS) (v1 : Int32) (v3 : Int32) {w : (Int32 × CS) × Nat × Nat} (hv : fX11_attempt_12 rB S v1 v3 = some w) (cells slots : Nat) (hc : cells + w.2.1 ≤ mc ∧ slots + w.2.2 ≤ ms) : CJ p l e s m args below meth c 5 (kB + 1) mc ms g S0 (some (.int w.1.1)) w.1.2 12 [(0, .ref (co g)), (1, .int v1), (3, .int v3)] [] S cells slots := by
  unfold fX11_attempt_12 at hv
  refine jr_aload_n C dX11_attempt_12 rfl 0 rfl ?_
  refine jc_getR C K 3 (by decide) (by decide) kw_125 rfl dX11_attempt_13 ?_
  refine jr_iload_n C dX11_attempt_16 rfl 1 rfl ?_
  by_cases z17 : inb v1 (clA 3) = true
  case neg => exact op_none ((if_neg z17).symm.trans hv)
  have hv := (if_pos z17).symm.trans hv
  refine jc_iald C K z17 dX11_attempt_17 ?_
  refine jr_istore (lv' := [(4, .int (gA S.1 3 (ix v1))), (0, .ref (co g)), (1, .int v1), (3, .int v3)]) C dX11_attempt_18 (by decide) rfl ?_
  exact jr_sub [1, 2, 3, 0] rfl (tX11_attempt_20 C K G rB kh hB S v1 v3 (gA S.1 3 (ix v1)) hv _ _ hc)
set_option maxRecDepth 100000 in
set_option maxHeartbeats 1000000 in
theorem tX11_attempt_0 {p : Program} {l : Launch} {e : Env} {s : State} {m : MethodId} {args : Array Value} {below : List Frame} {meth : Method} {c : Code} {g : CG} {S0 : CS} {mc ms : Nat} (C : CC p s m args meth c yX11_attempt cX11_attempt 5 (some .int)) (K : cK g s) (G : cSep g) (rB : CS → Int32 → Int32 → Option ((Int32 × CS) × Nat × Nat)) {kB : Nat} (kh : 20 ≤ kB) (hB : ∀ (S : CS) (v1 v2 : Int32) (w : (Int32 × CS) × Nat × Nat), rB S v1 v2 = some w → ∀ mc ms : Nat, 0 + w.2.1 ≤ mc ∧ 0 + w.2.2 ≤ ms → cC l yX11_doBlock cX11_doBlock 6 (some .int) kB mc ms g [.ref (co g), .int v1, .int v2] S (some (.int w.1.1)) w.1.2) (S : CS) (v1 : Int32) (v2 : Int32) {w : (Int32 × CS) × Nat × Nat} (hv : fX11_attempt rB S v1 v2 = some w) (cells slots : Nat) (hc : cells + w.2.1 ≤ mc ∧ slots + w.2.2 ≤ ms) : CJ p l e s m args below meth c 5 (kB + 1) mc ms g S0 (some (.int w.1.1)) w.1.2 0 [(0, .ref (co g)), (1, .int v1), (2, .int v2)] [] S cells slots := by
  unfold fX11_attempt at hv
  refine jr_aload_n C dX11_attempt_0 rfl 0 rfl ?_
  refine jr_aload_n C dX11_attempt_1 rfl 0 rfl ?_
  refine jc_getR C K 2 (by decide) (by decide) kw_124 rfl dX11_attempt_2 ?_
  refine jr_iload_n C dX11_attempt_5 rfl 1 rfl ?_
  by_cases z6 : inb v1 (clA 2) = true
  case neg => exact op_none ((if_neg z6).symm.trans hv)
  have hv := (if_pos z6).symm.trans hv
  refine jc_iald C K z6 dX11_attempt_6 ?_
  refine jr_iload_n C dX11_attempt_7 rfl 2 rfl ?_
  obtain ⟨c8, hc8, hv⟩ := Option.bind_eq_some_iff.mp hv
  obtain ⟨w8, hv, e1, e2, e3⟩ := addD_of hv
  rw [← e1]
  have hr : cells + c8.2.1 ≤ mc ∧ slots + c8.2.2 ≤ ms := ⟨by omega, by omega⟩
  refine jc_callO (rest := []) C K (hB S (gA S.1 2 (ix v1)) v2 _ hc8 _ _ ⟨Nat.le_of_eq (Nat.zero_add _), Nat.le_of_eq (Nat.zero_add _)⟩) oX11_doBlock kw_0 kw_195 rfl ⟨by show _ ≤ kB + 1; omega, by show _ ≤ 48 * (kB + 1); omega⟩ rfl (Nat.le_of_ble_eq_true rfl) ⟨hr.1, hr.2⟩ dX11_attempt_8 ?_
  have hc : (cells + c8.2.1) + w8.2.1 ≤ mc ∧ (slots + c8.2.2) + w8.2.2 ≤ ms := ⟨by omega, by omega⟩
  refine jr_istore_n (lv' := [(3, .int c8.1.1), (0, .ref (co g)), (1, .int v1), (2, .int v2)]) C dX11_attempt_11 rfl (by decide) rfl ?_
  exact jr_sub [1, 2, 0] rfl (tX11_attempt_12 C K G rB kh hB c8.1.2 v1 c8.1.1 hv _ _ hc)
theorem pX11_attempt (l : Launch) {g : CG} (G : cSep g) (rB : CS → Int32 → Int32 → Option ((Int32 × CS) × Nat × Nat)) {kB : Nat} (kh : 20 ≤ kB) (hB : ∀ (S : CS) (v1 v2 : Int32) (w : (Int32 × CS) × Nat × Nat), rB S v1 v2 = some w → ∀ mc ms : Nat, 0 + w.2.1 ≤ mc ∧ 0 + w.2.2 ≤ ms → cC l yX11_doBlock cX11_doBlock 6 (some .int) kB mc ms g [.ref (co g), .int v1, .int v2] S (some (.int w.1.1)) w.1.2) (S : CS) (v1 : Int32) (v2 : Int32) {w : (Int32 × CS) × Nat × Nat} (hw : fX11_attempt rB S v1 v2 = some w) {mc ms : Nat} (hc : 0 + w.2.1 ≤ mc ∧ 0 + w.2.2 ≤ ms) : cC l yX11_attempt cX11_attempt 5 (some .int) (kB + 1) mc ms g [.ref (co g), .int v1, .int v2] S (some (.int w.1.1)) w.1.2 := cC_of (lv := [(0, .ref (co g)), (1, .int v1), (2, .int v2)]) (by decide +kernel) (Nat.le_of_ble_eq_true rfl) rfl (fun C K => tX11_attempt_0 C K G rB kh hB S v1 v2 hw 0 0 hc)
/-! RobotCell.scope(II)I -/
def fX11_scope_54 (rB : CS → Int32 → Int32 → Option ((Int32 × CS) × Nat × Nat)) (S : CS) (v3 : Int32) : Option ((Int32 × CS) × Nat × Nat) :=
  some ((v3, S), 0, 0)
def fX11_scope_40 (rB : CS → Int32 → Int32 → Option ((Int32 × CS) × Nat × Nat)) (S : CS) (v3 : Int32) (v4 : Int32) (v5 : Int32) : Option ((Int32 × CS) × Nat × Nat) :=
  if v5 = 0 then fX11_scope_54 rB (cpI S 12 v4) v3 else some ((v5, S), 0, 0)
def fX11_scope_27 (rB : CS → Int32 → Int32 → Option ((Int32 × CS) × Nat × Nat)) (S : CS) (v1 : Int32) (v2 : Int32) (v3 : Int32) (v4 : Int32) : Option ((Int32 × CS) × Nat × Nat) :=
  if inb v1 (clA 3) = true then (Option.bind (rB S (gA S.1 3 (ix v1)) v2) (fun c35 => addD c35.2.1 c35.2.2 (fX11_scope_40 rB c35.1.2 v3 v4 c35.1.1))) else none
def fX11_scope_12 (rB : CS → Int32 → Int32 → Option ((Int32 × CS) × Nat × Nat)) (S : CS) (v1 : Int32) (v2 : Int32) (v3 : Int32) : Option ((Int32 × CS) × Nat × Nat) :=
  if v3 = 10 then some ((10, S), 0, 0) else fX11_scope_27 rB S v1 v2 v3 (gI S.1 12)
def fX11_scope (rB : CS → Int32 → Int32 → Option ((Int32 × CS) × Nat × Nat)) (S : CS) (v1 : Int32) (v2 : Int32) : Option ((Int32 × CS) × Nat × Nat) :=
  if inb v1 (clA 2) = true then (Option.bind (rB S (gA S.1 2 (ix v1)) v2) (fun c8 => addD c8.2.1 c8.2.2 (fX11_scope_12 rB c8.1.2 v1 v2 c8.1.1))) else none
theorem oX11_scope : ok_c yX11_scope cX11_scope 6 (some .int) 2 (.instanceMethod yX11_scope) := ⟨kw_241, ⟨kw_240, rfl⟩, kw_71, by decide +kernel⟩
set_option maxRecDepth 100000 in
set_option maxHeartbeats 1000000 in
theorem tX11_scope_54 {p : Program} {l : Launch} {e : Env} {s : State} {m : MethodId} {args : Array Value} {below : List Frame} {meth : Method} {c : Code} {g : CG} {S0 : CS} {mc ms : Nat} (C : CC p s m args meth c yX11_scope cX11_scope 6 (some .int)) (K : cK g s) (G : cSep g) (rB : CS → Int32 → Int32 → Option ((Int32 × CS) × Nat × Nat)) {kB : Nat} (kh : 20 ≤ kB) (hB : ∀ (S : CS) (v1 v2 : Int32) (w : (Int32 × CS) × Nat × Nat), rB S v1 v2 = some w → ∀ mc ms : Nat, 0 + w.2.1 ≤ mc ∧ 0 + w.2.2 ≤ ms → cC l yX11_doBlock cX11_doBlock 6 (some .int) kB mc ms g [.ref (co g), .int v1, .int v2] S (some (.int w.1.1)) w.1.2) (S : CS) (v3 : Int32) {w : (Int32 × CS) × Nat × Nat} (hv : fX11_scope_54 rB S v3 = some w) (cells slots : Nat) (hc : cells + w.2.1 ≤ mc ∧ slots + w.2.2 ≤ ms) : CJ p l e s m args below meth c 6 (kB + 1) mc ms g S0 (some (.int w.1.1)) w.1.2 54 [(3, .int v3)] [] S cells slots := by
  unfold fX11_scope_54 at hv
  refine jr_iload_n C dX11_scope_54 rfl 0 rfl ?_
  cases hv
  exact jc_iret C K dX11_scope_55 rfl ⟨Nat.le_trans (Nat.le_add_right _ _) hc.1, Nat.le_trans (Nat.le_add_right _ _) hc.2⟩
set_option maxRecDepth 100000 in
set_option maxHeartbeats 1000000 in
theorem tX11_scope_40 {p : Program} {l : Launch} {e : Env} {s : State} {m : MethodId} {args : Array Value} {below : List Frame} {meth : Method} {c : Code} {g : CG} {S0 : CS} {mc ms : Nat} (C : CC p s m args meth c yX11_scope cX11_scope 6 (some .int)) (K : cK g s) (G : cSep g) (rB : CS → Int32 → Int32 → Option ((Int32 × CS) × Nat × Nat)) {kB : Nat} (kh : 20 ≤ kB) (hB : ∀ (S : CS) (v1 v2 : Int32) (w : (Int32 × CS) × Nat × Nat), rB S v1 v2 = some w → ∀ mc ms : Nat, 0 + w.2.1 ≤ mc ∧ 0 + w.2.2 ≤ ms → cC l yX11_doBlock cX11_doBlock 6 (some .int) kB mc ms g [.ref (co g), .int v1, .int v2] S (some (.int w.1.1)) w.1.2) (S : CS) (v3 : Int32) (v4 : Int32) (v5 : Int32) {w : (Int32 × CS) × Nat × Nat} (hv : fX11_scope_40 rB S v3 v4 v5 = some w) (cells slots : Nat) (hc : cells + w.2.1 ≤ mc ∧ slots + w.2.2 ≤ ms) : CJ p l e s m args below meth c 6 (kB + 1) mc ms g S0 (some (.int w.1.1)) w.1.2 40 [(0, .ref (co g)), (3, .int v3), (4, .int v4), (5, .int v5)] [] S cells slots := by
  unfold fX11_scope_40 at hv
  refine jr_iload C dX11_scope_40 3 rfl ?_
  refine jr_if_eq (tgt := 48) C dX11_scope_42 rfl (fun q42 => ?_) (fun q42 => ?_)
  · have hv := (if_pos q42).symm.trans hv
    refine jr_aload_n C dX11_scope_48 rfl 0 rfl ?_
    refine jr_iload C dX11_scope_49 2 rfl ?_
    refine jc_putI C K G 12 (by decide) rfl kw_134 rfl rfl (by decide +kernel) dX11_scope_51 ?_
    exact jr_sub [1] rfl (tX11_scope_54 C K G rB kh hB (cpI S 12 v4) v3 hv _ _ hc)
  · have hv := (if_neg q42).symm.trans hv
    refine jr_iload C dX11_scope_45 3 rfl ?_
    cases hv
    exact jc_iret C K dX11_scope_47 rfl ⟨Nat.le_trans (Nat.le_add_right _ _) hc.1, Nat.le_trans (Nat.le_add_right _ _) hc.2⟩
set_option maxRecDepth 100000 in
set_option maxHeartbeats 1000000 in
theorem tX11_scope_27 {p : Program} {l : Launch} {e : Env} {s : State} {m : MethodId} {args : Array Value} {below : List Frame} {meth : Method} {c : Code} {g : CG} {S0 : CS} {mc ms : Nat} (C : CC p s m args meth c yX11_scope cX11_scope 6 (some .int)) (K : cK g s) (G : cSep g) (rB : CS → Int32 → Int32 → Option ((Int32 × CS) × Nat × Nat)) {kB : Nat} (kh : 20 ≤ kB) (hB : ∀ (S : CS) (v1 v2 : Int32) (w : (Int32 × CS) × Nat × Nat), rB S v1 v2 = some w → ∀ mc ms : Nat, 0 + w.2.1 ≤ mc ∧ 0 + w.2.2 ≤ ms → cC l yX11_doBlock cX11_doBlock 6 (some .int) kB mc ms g [.ref (co g), .int v1, .int v2] S (some (.int w.1.1)) w.1.2) (S : CS) (v1 : Int32) (v2 : Int32) (v3 : Int32) (v4 : Int32) {w : (Int32 × CS) × Nat × Nat} (hv : fX11_scope_27 rB S v1 v2 v3 v4 = some w) (cells slots : Nat) (hc : cells + w.2.1 ≤ mc ∧ slots + w.2.2 ≤ ms) : CJ p l e s m args below meth c 6 (kB + 1) mc ms g S0 (some (.int w.1.1)) w.1.2 27 [(0, .ref (co g)), (1, .int v1), (2, .int v2), (3, .int v3), (4, .int v4)] [] S cells slots := by
  unfold fX11_scope_27 at hv
  refine jr_aload_n C dX11_scope_27 rfl 0 rfl ?_
  refine jr_aload_n C dX11_scope_28 rfl 0 rfl ?_
  refine jc_getR C K 3 (by decide) (by decide) kw_125 rfl dX11_scope_29 ?_
  refine jr_iload_n C dX11_scope_32 rfl 1 rfl ?_
  by_cases z33 : inb v1 (clA 3) = true
  case neg => exact op_none ((if_neg z33).symm.trans hv)
  have hv := (if_pos z33).symm.trans hv
  refine jc_iald C K z33 dX11_scope_33 ?_
  refine jr_iload_n C dX11_scope_34 rfl 2 rfl ?_
  obtain ⟨c35, hc35, hv⟩ := Option.bind_eq_some_iff.mp hv
  obtain ⟨w35, hv, e1, e2, e3⟩ := addD_of hv
  rw [← e1]
  have hr : cells + c35.2.1 ≤ mc ∧ slots + c35.2.2 ≤ ms := ⟨by omega, by omega⟩
  refine jc_callO (rest := []) C K (hB S (gA S.1 3 (ix v1)) v2 _ hc35 _ _ ⟨Nat.le_of_eq (Nat.zero_add _), Nat.le_of_eq (Nat.zero_add _)⟩) oX11_doBlock kw_0 kw_195 rfl ⟨by show _ ≤ kB + 1; omega, by show _ ≤ 48 * (kB + 1); omega⟩ rfl (Nat.le_of_ble_eq_true rfl) ⟨hr.1, hr.2⟩ dX11_scope_35 ?_
  have hc : (cells + c35.2.1) + w35.2.1 ≤ mc ∧ (slots + c35.2.2) + w35.2.2 ≤ ms := ⟨by omega, by omega⟩
  refine jr_istore (lv' := [(5, .int c35.1.1), (0, .ref (co g)), (1, .int v1), (2, .int v2), (3, .int v3), (4, .int v4)]) C dX11_scope_38 (by decide) rfl ?_
  exact jr_sub [1, 4, 5, 0] rfl (tX11_scope_40 C K G rB kh hB c35.1.2 v3 v4 c35.1.1 hv _ _ hc)
set_option maxRecDepth 100000 in
set_option maxHeartbeats 1000000 in
theorem tX11_scope_12 {p : Program} {l : Launch} {e : Env} {s : State} {m : MethodId} {args : Array Value} {below : List Frame} {meth : Method} {c : Code} {g : CG} {S0 : CS} {mc ms : Nat} (C : CC p s m args meth c yX11_scope cX11_scope 6 (some .int)) (K : cK g s) (G : cSep g) (rB : CS → Int32 → Int32 → Option ((Int32 × CS) × Nat × Nat)) {kB : Nat} (kh : 20 ≤ kB) (hB : ∀ (S : CS) (v1 v2 : Int32) (w : (Int32 × CS) × Nat × Nat), rB S v1 v2 = some w → ∀ mc ms : Nat, 0 + w.2.1 ≤ mc ∧ 0 + w.2.2 ≤ ms → cC l yX11_doBlock cX11_doBlock 6 (some .int) kB mc ms g [.ref (co g), .int v1, .int v2] S (some (.int w.1.1)) w.1.2) (S : CS) (v1 : Int32) (v2 : Int32) (v3 : Int32) {w : (Int32 × CS) × Nat × Nat} (hv : fX11_scope_12 rB S v1 v2 v3 = some w) (cells slots : Nat) (hc : cells + w.2.1 ≤ mc ∧ slots + w.2.2 ≤ ms) : CJ p l e s m args below meth c 6 (kB + 1) mc ms g S0 (some (.int w.1.1)) w.1.2 12 [(0, .ref (co g)), (1, .int v1), (2, .int v2), (3, .int v3)] [] S cells slots := by
  unfold fX11_scope_12 at hv
  refine jr_iload_n C dX11_scope_12 rfl 3 rfl ?_
  refine jr_bipush (v := 10) C dX11_scope_13 (by decide) ?_
  refine jr_icmp_ne (tgt := 21) C dX11_scope_15 rfl (fun q15 => ?_) (fun q15 => ?_)
  · have hv := (if_neg q15).symm.trans hv
    refine jr_aload_n C dX11_scope_21 rfl 0 rfl ?_
    refine jc_getI C K 12 (by decide) rfl kw_134 rfl dX11_scope_22 ?_
    refine jr_istore (lv' := [(4, .int (gI S.1 12)), (0, .ref (co g)), (1, .int v1), (2, .int v2), (3, .int v3)]) C dX11_scope_25 (by decide) rfl ?_
    exact jr_sub [1, 2, 3, 4, 0] rfl (tX11_scope_27 C K G rB kh hB S v1 v2 v3 (gI S.1 12) hv _ _ hc)
  · have hv := (if_pos q15).symm.trans hv
    refine jr_bipush (v := 10) C dX11_scope_18 (by decide) ?_
    cases hv
    exact jc_iret C K dX11_scope_20 rfl ⟨Nat.le_trans (Nat.le_add_right _ _) hc.1, Nat.le_trans (Nat.le_add_right _ _) hc.2⟩
set_option maxRecDepth 100000 in
set_option maxHeartbeats 1000000 in
theorem tX11_scope_0 {p : Program} {l : Launch} {e : Env} {s : State} {m : MethodId} {args : Array Value} {below : List Frame} {meth : Method} {c : Code} {g : CG} {S0 : CS} {mc ms : Nat} (C : CC p s m args meth c yX11_scope cX11_scope 6 (some .int)) (K : cK g s) (G : cSep g) (rB : CS → Int32 → Int32 → Option ((Int32 × CS) × Nat × Nat)) {kB : Nat} (kh : 20 ≤ kB) (hB : ∀ (S : CS) (v1 v2 : Int32) (w : (Int32 × CS) × Nat × Nat), rB S v1 v2 = some w → ∀ mc ms : Nat, 0 + w.2.1 ≤ mc ∧ 0 + w.2.2 ≤ ms → cC l yX11_doBlock cX11_doBlock 6 (some .int) kB mc ms g [.ref (co g), .int v1, .int v2] S (some (.int w.1.1)) w.1.2) (S : CS) (v1 : Int32) (v2 : Int32) {w : (Int32 × CS) × Nat × Nat} (hv : fX11_scope rB S v1 v2 = some w) (cells slots : Nat) (hc : cells + w.2.1 ≤ mc ∧ slots + w.2.2 ≤ ms) : CJ p l e s m args below meth c 6 (kB + 1) mc ms g S0 (some (.int w.1.1)) w.1.2 0 [(0, .ref (co g)), (1, .int v1), (2, .int v2)] [] S cells slots := by
  unfold fX11_scope at hv
  refine jr_aload_n C dX11_scope_0 rfl 0 rfl ?_
  refine jr_aload_n C dX11_scope_1 rfl 0 rfl ?_
  refine jc_getR C K 2 (by decide) (by decide) kw_124 rfl dX11_scope_2 ?_
  refine jr_iload_n C dX11_scope_5 rfl 1 rfl ?_
  by_cases z6 : inb v1 (clA 2) = true
  case neg => exact op_none ((if_neg z6).symm.trans hv)
  have hv := (if_pos z6).symm.trans hv
  refine jc_iald C K z6 dX11_scope_6 ?_
  refine jr_iload_n C dX11_scope_7 rfl 2 rfl ?_
  obtain ⟨c8, hc8, hv⟩ := Option.bind_eq_some_iff.mp hv
  obtain ⟨w8, hv, e1, e2, e3⟩ := addD_of hv
  rw [← e1]
  have hr : cells + c8.2.1 ≤ mc ∧ slots + c8.2.2 ≤ ms := ⟨by omega, by omega⟩
  refine jc_callO (rest := []) C K (hB S (gA S.1 2 (ix v1)) v2 _ hc8 _ _ ⟨Nat.le_of_eq (Nat.zero_add _), Nat.le_of_eq (Nat.zero_add _)⟩) oX11_doBlock kw_0 kw_195 rfl ⟨by show _ ≤ kB + 1; omega, by show _ ≤ 48 * (kB + 1); omega⟩ rfl (Nat.le_of_ble_eq_true rfl) ⟨hr.1, hr.2⟩ dX11_scope_8 ?_
  have hc : (cells + c8.2.1) + w8.2.1 ≤ mc ∧ (slots + c8.2.2) + w8.2.2 ≤ ms := ⟨by omega, by omega⟩
  refine jr_istore_n (lv' := [(3, .int c8.1.1), (0, .ref (co g)), (1, .int v1), (2, .int v2)]) C dX11_scope_11 rfl (by decide) rfl ?_
  exact jr_sub [1, 2, 3, 0] rfl (tX11_scope_12 C K G rB kh hB c8.1.2 v1 v2 c8.1.1 hv _ _ hc)
theorem pX11_scope (l : Launch) {g : CG} (G : cSep g) (rB : CS → Int32 → Int32 → Option ((Int32 × CS) × Nat × Nat)) {kB : Nat} (kh : 20 ≤ kB) (hB : ∀ (S : CS) (v1 v2 : Int32) (w : (Int32 × CS) × Nat × Nat), rB S v1 v2 = some w → ∀ mc ms : Nat, 0 + w.2.1 ≤ mc ∧ 0 + w.2.2 ≤ ms → cC l yX11_doBlock cX11_doBlock 6 (some .int) kB mc ms g [.ref (co g), .int v1, .int v2] S (some (.int w.1.1)) w.1.2) (S : CS) (v1 : Int32) (v2 : Int32) {w : (Int32 × CS) × Nat × Nat} (hw : fX11_scope rB S v1 v2 = some w) {mc ms : Nat} (hc : 0 + w.2.1 ≤ mc ∧ 0 + w.2.2 ≤ ms) : cC l yX11_scope cX11_scope 6 (some .int) (kB + 1) mc ms g [.ref (co g), .int v1, .int v2] S (some (.int w.1.1)) w.1.2 := cC_of (lv := [(0, .ref (co g)), (1, .int v1), (2, .int v2)]) (by decide +kernel) (Nat.le_of_ble_eq_true rfl) rfl (fun C K => tX11_scope_0 C K G rB kh hB S v1 v2 hw 0 0 hc)
/-! RobotCell.repeat(II)I -/
def fX11_repeat_88 (rB : CS → Int32 → Int32 → Option ((Int32 × CS) × Nat × Nat)) (S : CS) : Option ((Int32 × CS) × Nat × Nat) :=
  some ((0, S), 0, 0)
def fX11_repeat_85 (rB : CS → Int32 → Int32 → Option ((Int32 × CS) × Nat × Nat)) (r17 : CS → Int32 → Int32 → Int64 → Int32 → Option ((Int32 × CS) × Nat × Nat)) (S : CS) (v1 : Int32) (v2 : Int32) (v3 : Int64) (v5 : Int32) : Option ((Int32 × CS) × Nat × Nat) :=
  r17 S v1 v2 v3 v5
def fX11_repeat_72 (rB : CS → Int32 → Int32 → Option ((Int32 × CS) × Nat × Nat)) (r17 : CS → Int32 → Int32 → Int64 → Int32 → Option ((Int32 × CS) × Nat × Nat)) (S : CS) (v1 : Int32) (v2 : Int32) (v3 : Int64) (v5 : Int32) (t0 : Int32) : Option ((Int32 × CS) × Nat × Nat) :=
  if t0 = 0 then fX11_repeat_85 rB r17 S v1 v2 v3 (v5 + 1) else some ((t0, S), 0, 0)
def fX11_repeat_17 (rB : CS → Int32 → Int32 → Option ((Int32 × CS) × Nat × Nat)) : Nat → CS → Int32 → Int32 → Int64 → Int32 → Option ((Int32 × CS) × Nat × Nat)
  | 0, _, _, _, _, _ => none
  | q + 1, S, v1, v2, v3, v5 => if v3 ≤ v5.toInt64 then fX11_repeat_88 rB S else (if 20000 < v5 then fX11_repeat_88 rB S else (Option.bind (fX11_takeFuel S) (fun c34 => if c34.1 = 0 then some ((10, c34.2), 0, 0) else (if v2 < 40 then (if inb v1 (clA 2) = true then (Option.bind (rB c34.2 (gA c34.2.1 2 (ix v1)) (v2 + 1)) (fun c69 => addD c69.2.1 c69.2.2 (fX11_repeat_72 rB (fX11_repeat_17 rB q) c69.1.2 v1 v2 v3 v5 c69.1.1))) else none) else (Option.bind (fX11_raise c34.2 9 v1) (fun c53 => fX11_repeat_72 rB (fX11_repeat_17 rB q) c53.2 v1 v2 v3 v5 c53.1))))))
def fX11_repeat (rB : CS → Int32 → Int32 → Option ((Int32 × CS) × Nat × Nat)) (S : CS) (v1 : Int32) (v2 : Int32) : Option ((Int32 × CS) × Nat × Nat) :=
  if inb v1 (clA 1) = true then (Option.bind (fX7_numberAt S (gA S.1 1 (ix v1))) (fun c10 => fX11_repeat_17 rB 20010 c10.2 v1 v2 c10.1 0)) else none
theorem oX11_repeat : ok_c yX11_repeat cX11_repeat 7 (some .int) 2 (.instanceMethod yX11_repeat) := ⟨kw_222, ⟨kw_221, rfl⟩, kw_71, by decide +kernel⟩
set_option maxRecDepth 100000 in
set_option maxHeartbeats 1000000 in
theorem tX11_repeat_88 {p : Program} {l : Launch} {e : Env} {s : State} {m : MethodId} {args : Array Value} {below : List Frame} {meth : Method} {c : Code} {g : CG} {S0 : CS} {mc ms : Nat} (C : CC p s m args meth c yX11_repeat cX11_repeat 7 (some .int)) (K : cK g s) (G : cSep g) (rB : CS → Int32 → Int32 → Option ((Int32 × CS) × Nat × Nat)) {kB : Nat} (kh : 20 ≤ kB) (hB : ∀ (S : CS) (v1 v2 : Int32) (w : (Int32 × CS) × Nat × Nat), rB S v1 v2 = some w → ∀ mc ms : Nat, 0 + w.2.1 ≤ mc ∧ 0 + w.2.2 ≤ ms → cC l yX11_doBlock cX11_doBlock 6 (some .int) kB mc ms g [.ref (co g), .int v1, .int v2] S (some (.int w.1.1)) w.1.2) (S : CS) {w : (Int32 × CS) × Nat × Nat} (hv : fX11_repeat_88 rB S = some w) (cells slots : Nat) (hc : cells + w.2.1 ≤ mc ∧ slots + w.2.2 ≤ ms) : CJ p l e s m args below meth c 7 (kB + 1) mc ms g S0 (some (.int w.1.1)) w.1.2 88 [] [] S cells slots := by
  unfold fX11_repeat_88 at hv
  refine jr_iconst (v := 0) C dX11_repeat_88 (by decide) ?_
  cases hv
  exact jc_iret C K dX11_repeat_89 rfl ⟨Nat.le_trans (Nat.le_add_right _ _) hc.1, Nat.le_trans (Nat.le_add_right _ _) hc.2⟩
set_option maxRecDepth 100000 in
set_option maxHeartbeats 1000000 in
theorem tX11_repeat_85 {p : Program} {l : Launch} {e : Env} {s : State} {m : MethodId} {args : Array Value} {below : List Frame} {meth : Method} {c : Code} {g : CG} {S0 : CS} {mc ms : Nat} (C : CC p s m args meth c yX11_repeat cX11_repeat 7 (some .int)) (K : cK g s) (G : cSep g) (rB : CS → Int32 → Int32 → Option ((Int32 × CS) × Nat × Nat)) {kB : Nat} (kh : 20 ≤ kB) (hB : ∀ (S : CS) (v1 v2 : Int32) (w : (Int32 × CS) × Nat × Nat), rB S v1 v2 = some w → ∀ mc ms : Nat, 0 + w.2.1 ≤ mc ∧ 0 + w.2.2 ≤ ms → cC l yX11_doBlock cX11_doBlock 6 (some .int) kB mc ms g [.ref (co g), .int v1, .int v2] S (some (.int w.1.1)) w.1.2) (r17 : CS → Int32 → Int32 → Int64 → Int32 → Option ((Int32 × CS) × Nat × Nat)) (h17 : ∀ (S : CS) (v1 : Int32) (v2 : Int32) (v3 : Int64) (v5 : Int32) (w : (Int32 × CS) × Nat × Nat), r17 S v1 v2 v3 v5 = some w → ∀ cells slots : Nat, cells + w.2.1 ≤ mc ∧ slots + w.2.2 ≤ ms → CJ p l e s m args below meth c 7 (kB + 1) mc ms g S0 (some (.int w.1.1)) w.1.2 17 [(0, .ref (co g)), (1, .int v1), (2, .int v2), (3, .long v3), (5, .int v5)] [] S cells slots) (S : CS) (v1 : Int32) (v2 : Int32) (v3 : Int64) (v5 : Int32) {w : (Int32 × CS) × Nat × Nat} (hv : fX11_repeat_85 rB r17 S v1 v2 v3 v5 = some w) (cells slots : Nat) (hc : cells + w.2.1 ≤ mc ∧ slots + w.2.2 ≤ ms) : CJ p l e s m args below meth c 7 (kB + 1) mc ms g S0 (some (.int w.1.1)) w.1.2 85 [(0, .ref (co g)), (1, .int v1), (2, .int v2), (3, .long v3), (5, .int v5)] [] S cells slots := by
  unfold fX11_repeat_85 at hv
  refine jr_goto (tgt := 17) C dX11_repeat_85 rfl ?_
  exact h17 S v1 v2 v3 v5 _ hv _ _ hc
set_option maxRecDepth 100000 in
set_option maxHeartbeats 1000000 in
theorem tX11_repeat_72 {p : Program} {l : Launch} {e : Env} {s : State} {m : MethodId} {args : Array Value} {below : List Frame} {meth : Method} {c : Code} {g : CG} {S0 : CS} {mc ms : Nat} (C : CC p s m args meth c yX11_repeat cX11_repeat 7 (some .int)) (K : cK g s) (G : cSep g) (rB : CS → Int32 → Int32 → Option ((Int32 × CS) × Nat × Nat)) {kB : Nat} (kh : 20 ≤ kB) (hB : ∀ (S : CS) (v1 v2 : Int32) (w : (Int32 × CS) × Nat × Nat), rB S v1 v2 = some w → ∀ mc ms : Nat, 0 + w.2.1 ≤ mc ∧ 0 + w.2.2 ≤ ms → cC l yX11_doBlock cX11_doBlock 6 (some .int) kB mc ms g [.ref (co g), .int v1, .int v2] S (some (.int w.1.1)) w.1.2) (r17 : CS → Int32 → Int32 → Int64 → Int32 → Option ((Int32 × CS) × Nat × Nat)) (h17 : ∀ (S : CS) (v1 : Int32) (v2 : Int32) (v3 : Int64) (v5 : Int32) (w : (Int32 × CS) × Nat × Nat), r17 S v1 v2 v3 v5 = some w → ∀ cells slots : Nat, cells + w.2.1 ≤ mc ∧ slots + w.2.2 ≤ ms → CJ p l e s m args below meth c 7 (kB + 1) mc ms g S0 (some (.int w.1.1)) w.1.2 17 [(0, .ref (co g)), (1, .int v1), (2, .int v2), (3, .long v3), (5, .int v5)] [] S cells slots) (S : CS) (v1 : Int32) (v2 : Int32) (v3 : Int64) (v5 : Int32) (t0 : Int32) {w : (Int32 × CS) × Nat × Nat} (hv : fX11_repeat_72 rB r17 S v1 v2 v3 v5 t0 = some w) (cells slots : Nat) (hc : cells + w.2.1 ≤ mc ∧ slots + w.2.2 ≤ ms) : CJ p l e s m args below meth c 7 (kB + 1) mc ms g S0 (some (.int w.1.1)) w.1.2 72 [(0, .ref (co g)), (1, .int v1), (2, .int v2), (3, .long v3), (5, .int v5)] [.int t0] S cells slots := by
  unfold fX11_repeat_72 at hv
  refine jr_istore (lv' := [(6, .int t0), (0, .ref (co g)), (1, .int v1), (2, .int v2), (3, .long v3), (5, .int v5)]) C dX11_repeat_72 (by decide) rfl ?_
  refine jr_iload C dX11_repeat_74 0 rfl ?_
  refine jr_if_eq (tgt := 82) C dX11_repeat_76 rfl (fun q76 => ?_) (fun q76 => ?_)
  · have hv := (if_pos q76).symm.trans hv
    refine jr_iinc (v := (v5 + 1)) (lv' := [(5, .int (v5 + 1)), (6, .int t0), (0, .ref (co g)), (1, .int v1), (2, .int v2), (3, .long v3)]) C dX11_repeat_82 5 rfl rfl (by decide) rfl ?_
    exact jr_sub [2, 3, 4, 5, 0] rfl (tX11_repeat_85 C K G rB kh hB r17 h17 S v1 v2 v3 (v5 + 1) hv _ _ hc)
  · have hv := (if_neg q76).symm.trans hv
    refine jr_iload C dX11_repeat_79 0 rfl ?_
    cases hv
    exact jc_iret C K dX11_repeat_81 rfl ⟨Nat.le_trans (Nat.le_add_right _ _) hc.1, Nat.le_trans (Nat.le_add_right _ _) hc.2⟩
set_option maxRecDepth 100000 in
set_option maxHeartbeats 1000000 in
theorem tX11_repeat_17 {p : Program} {l : Launch} {e : Env} {s : State} {m : MethodId} {args : Array Value} {below : List Frame} {meth : Method} {c : Code} {g : CG} {S0 : CS} {mc ms : Nat} (C : CC p s m args meth c yX11_repeat cX11_repeat 7 (some .int)) (K : cK g s) (G : cSep g) (rB : CS → Int32 → Int32 → Option ((Int32 × CS) × Nat × Nat)) {kB : Nat} (kh : 20 ≤ kB) (hB : ∀ (S : CS) (v1 v2 : Int32) (w : (Int32 × CS) × Nat × Nat), rB S v1 v2 = some w → ∀ mc ms : Nat, 0 + w.2.1 ≤ mc ∧ 0 + w.2.2 ≤ ms → cC l yX11_doBlock cX11_doBlock 6 (some .int) kB mc ms g [.ref (co g), .int v1, .int v2] S (some (.int w.1.1)) w.1.2) : ∀ (q : Nat) (S : CS) (v1 : Int32) (v2 : Int32) (v3 : Int64) (v5 : Int32) (w : (Int32 × CS) × Nat × Nat), fX11_repeat_17 rB q S v1 v2 v3 v5 = some w → ∀ cells slots : Nat, cells + w.2.1 ≤ mc ∧ slots + w.2.2 ≤ ms → CJ p l e s m args below meth c 7 (kB + 1) mc ms g S0 (some (.int w.1.1)) w.1.2 17 [(0, .ref (co g)), (1, .int v1), (2, .int v2), (3, .long v3), (5, .int v5)] [] S cells slots := by
  intro q
  induction q with
  | zero => intro S v1 v2 v3 v5 w hv; exact absurd hv (by simp [fX11_repeat_17])
  | succ q ih =>
    intro S v1 v2 v3 v5 w hv cells slots hc
    unfold fX11_repeat_17 at hv
    refine jr_iload C dX11_repeat_17 4 rfl ?_
    refine jr_i2l C dX11_repeat_19 ?_
    refine jr_lload_n C dX11_repeat_20 rfl 3 rfl ?_
    refine jr_lcmp_ge (tgt := 88) C dX11_repeat_21 dX11_repeat_22 rfl (fun q21 => ?_) (fun q21 => ?_)
    · have hv := (if_pos q21).symm.trans hv
      exact jr_sub [] rfl (tX11_repeat_88 C K G rB kh hB S hv _ _ hc)
    · have hv := (if_neg q21).symm.trans hv
      refine jr_iload C dX11_repeat_25 4 rfl ?_
      refine jr_sipush (v := 20000) C dX11_repeat_27 (by decide) ?_
      refine jr_icmp_gt (tgt := 88) C dX11_repeat_30 rfl (fun q30 => ?_) (fun q30 => ?_)
      · have hv := (if_pos q30).symm.trans hv
        exact jr_sub [] rfl (tX11_repeat_88 C K G rB kh hB S hv _ _ hc)
      · have hv := (if_neg q30).symm.trans hv
        refine jr_aload_n C dX11_repeat_33 rfl 0 rfl ?_
        obtain ⟨c34, hc34, hv⟩ := Option.bind_eq_some_iff.mp hv
        refine jc_callO (rest := []) C K (pX11_takeFuel l G S hc34) oX11_takeFuel kw_1 kw_199 rfl ⟨by show _ ≤ kB + 1; omega, by show _ ≤ 48 * (kB + 1); omega⟩ rfl (Nat.le_of_ble_eq_true rfl) ⟨Nat.le_trans (Nat.le_add_right _ _) hc.1, Nat.le_trans (Nat.le_add_right _ _) hc.2⟩ dX11_repeat_34 ?_
        refine jr_if_ne (tgt := 43) C dX11_repeat_37 rfl (fun q37 => ?_) (fun q37 => ?_)
        · have hv := (if_neg q37).symm.trans hv
          refine jr_iload_n C dX11_repeat_43 rfl 2 rfl ?_
          refine jr_bipush (v := 40) C dX11_repeat_44 (by decide) ?_
          refine jr_icmp_lt (tgt := 59) C dX11_repeat_46 rfl (fun q46 => ?_) (fun q46 => ?_)
          · have hv := (if_pos q46).symm.trans hv
            refine jr_aload_n C dX11_repeat_59 rfl 0 rfl ?_
            refine jr_aload_n C dX11_repeat_60 rfl 0 rfl ?_
            refine jc_getR C K 2 (by decide) (by decide) kw_124 rfl dX11_repeat_61 ?_
            refine jr_iload_n C dX11_repeat_64 rfl 1 rfl ?_
            by_cases z65 : inb v1 (clA 2) = true
            case neg => exact op_none ((if_neg z65).symm.trans hv)
            have hv := (if_pos z65).symm.trans hv
            refine jc_iald C K z65 dX11_repeat_65 ?_
            refine jr_iload_n C dX11_repeat_66 rfl 2 rfl ?_
            refine jr_iconst (v := 1) C dX11_repeat_67 (by decide) ?_
            refine jr_iadd C dX11_repeat_68 ?_
            obtain ⟨c69, hc69, hv⟩ := Option.bind_eq_some_iff.mp hv
            obtain ⟨w69, hv, e1, e2, e3⟩ := addD_of hv
            rw [← e1]
            have hr : cells + c69.2.1 ≤ mc ∧ slots + c69.2.2 ≤ ms := ⟨by omega, by omega⟩
            refine jc_callO (rest := []) C K (hB c34.2 (gA c34.2.1 2 (ix v1)) (v2 + 1) _ hc69 _ _ ⟨Nat.le_of_eq (Nat.zero_add _), Nat.le_of_eq (Nat.zero_add _)⟩) oX11_doBlock kw_0 kw_195 rfl ⟨by show _ ≤ kB + 1; omega, by show _ ≤ 48 * (kB + 1); omega⟩ rfl (Nat.le_of_ble_eq_true rfl) ⟨hr.1, hr.2⟩ dX11_repeat_69 ?_
            have hc : (cells + c69.2.1) + w69.2.1 ≤ mc ∧ (slots + c69.2.2) + w69.2.2 ≤ ms := ⟨by omega, by omega⟩
            exact tX11_repeat_72 C K G rB kh hB (fX11_repeat_17 rB q) ih c69.1.2 v1 v2 v3 v5 c69.1.1 hv _ _ hc
          · have hv := (if_neg q46).symm.trans hv
            refine jr_aload_n C dX11_repeat_49 rfl 0 rfl ?_
            refine jr_bipush (v := 9) C dX11_repeat_50 (by decide) ?_
            refine jr_iload_n C dX11_repeat_52 rfl 1 rfl ?_
            obtain ⟨c53, hc53, hv⟩ := Option.bind_eq_some_iff.mp hv
            refine jc_callO (rest := []) C K (pX11_raise l G c34.2 9 v1 hc53) oX11_raise kw_6 kw_223 rfl ⟨by show _ ≤ kB + 1; omega, by show _ ≤ 48 * (kB + 1); omega⟩ rfl (Nat.le_of_ble_eq_true rfl) ⟨Nat.le_trans (Nat.le_add_right _ _) hc.1, Nat.le_trans (Nat.le_add_right _ _) hc.2⟩ dX11_repeat_53 ?_
            refine jr_goto (tgt := 72) C dX11_repeat_56 rfl ?_
            exact tX11_repeat_72 C K G rB kh hB (fX11_repeat_17 rB q) ih c53.2 v1 v2 v3 v5 c53.1 hv _ _ hc
        · have hv := (if_pos q37).symm.trans hv
          refine jr_bipush (v := 10) C dX11_repeat_40 (by decide) ?_
          cases hv
          exact jc_iret C K dX11_repeat_42 rfl ⟨Nat.le_trans (Nat.le_add_right _ _) hc.1, Nat.le_trans (Nat.le_add_right _ _) hc.2⟩
set_option maxRecDepth 100000 in
set_option maxHeartbeats 1000000 in
theorem tX11_repeat_0 {p : Program} {l : Launch} {e : Env} {s : State} {m : MethodId} {args : Array Value} {below : List Frame} {meth : Method} {c : Code} {g : CG} {S0 : CS} {mc ms : Nat} (C : CC p s m args meth c yX11_repeat cX11_repeat 7 (some .int)) (K : cK g s) (G : cSep g) (rB : CS → Int32 → Int32 → Option ((Int32 × CS) × Nat × Nat)) {kB : Nat} (kh : 20 ≤ kB) (hB : ∀ (S : CS) (v1 v2 : Int32) (w : (Int32 × CS) × Nat × Nat), rB S v1 v2 = some w → ∀ mc ms : Nat, 0 + w.2.1 ≤ mc ∧ 0 + w.2.2 ≤ ms → cC l yX11_doBlock cX11_doBlock 6 (some .int) kB mc ms g [.ref (co g), .int v1, .int v2] S (some (.int w.1.1)) w.1.2) (S : CS) (v1 : Int32) (v2 : Int32) {w : (Int32 × CS) × Nat × Nat} (hv : fX11_repeat rB S v1 v2 = some w) (cells slots : Nat) (hc : cells + w.2.1 ≤ mc ∧ slots + w.2.2 ≤ ms) : CJ p l e s m args below meth c 7 (kB + 1) mc ms g S0 (some (.int w.1.1)) w.1.2 0 [(0, .ref (co g)), (1, .int v1), (2, .int v2)] [] S cells slots := by
  unfold fX11_repeat at hv
  refine jr_aload_n C dX11_repeat_0 rfl 0 rfl ?_
  refine jc_getR C K 5 (by decide) (by decide) kw_127 rfl dX11_repeat_1 ?_
  refine jr_aload_n C dX11_repeat_4 rfl 0 rfl ?_
  refine jc_getR C K 1 (by decide) (by decide) kw_123 rfl dX11_repeat_5 ?_
  refine jr_iload_n C dX11_repeat_8 rfl 1 rfl ?_
  by_cases z9 : inb v1 (clA 1) = true
  case neg => exact op_none ((if_neg z9).symm.trans hv)
  have hv := (if_pos z9).symm.trans hv
  refine jc_iald C K z9 dX11_repeat_9 ?_
  obtain ⟨c10, hc10, hv⟩ := Option.bind_eq_some_iff.mp hv
  refine jc_callR (rest := []) C K (pX7_numberAt l G S (gA S.1 1 (ix v1)) hc10) oX7_numberAt kw_209 kw_207 rfl ⟨by show _ ≤ kB + 1; omega, by show _ ≤ 48 * (kB + 1); omega⟩ rfl (Nat.le_of_ble_eq_true rfl) ⟨Nat.le_trans (Nat.le_add_right _ _) hc.1, Nat.le_trans (Nat.le_add_right _ _) hc.2⟩ dX11_repeat_10 ?_
  refine jr_lstore_n (lv' := [(3, .long c10.1), (0, .ref (co g)), (1, .int v1), (2, .int v2)]) C dX11_repeat_13 rfl (by decide) rfl ?_
  refine jr_iconst (v := 0) C dX11_repeat_14 (by decide) ?_
  refine jr_istore (lv' := [(5, .int 0), (3, .long c10.1), (0, .ref (co g)), (1, .int v1), (2, .int v2)]) C dX11_repeat_15 (by decide) rfl ?_
  exact jr_sub [2, 3, 4, 1, 0] rfl (tX11_repeat_17 C K G rB kh hB 20010 c10.2 v1 v2 c10.1 0 _ hv _ _ hc)
theorem pX11_repeat (l : Launch) {g : CG} (G : cSep g) (rB : CS → Int32 → Int32 → Option ((Int32 × CS) × Nat × Nat)) {kB : Nat} (kh : 20 ≤ kB) (hB : ∀ (S : CS) (v1 v2 : Int32) (w : (Int32 × CS) × Nat × Nat), rB S v1 v2 = some w → ∀ mc ms : Nat, 0 + w.2.1 ≤ mc ∧ 0 + w.2.2 ≤ ms → cC l yX11_doBlock cX11_doBlock 6 (some .int) kB mc ms g [.ref (co g), .int v1, .int v2] S (some (.int w.1.1)) w.1.2) (S : CS) (v1 : Int32) (v2 : Int32) {w : (Int32 × CS) × Nat × Nat} (hw : fX11_repeat rB S v1 v2 = some w) {mc ms : Nat} (hc : 0 + w.2.1 ≤ mc ∧ 0 + w.2.2 ≤ ms) : cC l yX11_repeat cX11_repeat 7 (some .int) (kB + 1) mc ms g [.ref (co g), .int v1, .int v2] S (some (.int w.1.1)) w.1.2 := cC_of (lv := [(0, .ref (co g)), (1, .int v1), (2, .int v2)]) (by decide +kernel) (Nat.le_of_ble_eq_true rfl) rfl (fun C K => tX11_repeat_0 C K G rB kh hB S v1 v2 hw 0 0 hc)
/-! RobotCell.doInner(II)I -/
def fX11_doInner (rB : CS → Int32 → Int32 → Option ((Int32 × CS) × Nat × Nat)) (S : CS) (v1 : Int32) (v2 : Int32) : Option ((Int32 × CS) × Nat × Nat) :=
  if inb v1 (clA 0) = true then (if (gA S.1 0 (ix v1)) = 15 then (Option.bind (fX11_repeat rB S v1 v2) (fun c14 => addD c14.2.1 c14.2.2 (some ((c14.1.1, c14.1.2), 0, 0)))) else (if v2 < 40 then (if inb v1 (clA 0) = true then (if (gA S.1 0 (ix v1)) = 16 then (Option.bind (fX11_attempt rB S v1 (v2 + 1)) (fun c69 => addD c69.2.1 c69.2.2 (some ((c69.1.1, c69.1.2), 0, 0)))) else if (gA S.1 0 (ix v1)) = 17 then (Option.bind (fX11_scope rB S v1 (v2 + 1)) (fun c78 => addD c78.2.1 c78.2.2 (some ((c78.1.1, c78.1.2), 0, 0)))) else (if inb v1 (clA 2) = true then (Option.bind (rB S (gA S.1 2 (ix v1)) (v2 + 1)) (fun c92 => addD c92.2.1 c92.2.2 (some ((c92.1.1, c92.1.2), 0, 0)))) else none)) else none) else (Option.bind (fX11_raise S 9 v1) (fun c28 => some ((c28.1, c28.2), 0, 0))))) else none
theorem oX11_doInner : ok_c yX11_doInner cX11_doInner 3 (some .int) 2 (.instanceMethod yX11_doInner) := ⟨kw_218, ⟨kw_217, rfl⟩, kw_71, by decide +kernel⟩
set_option maxRecDepth 100000 in
set_option maxHeartbeats 1000000 in
theorem tX11_doInner_0 {p : Program} {l : Launch} {e : Env} {s : State} {m : MethodId} {args : Array Value} {below : List Frame} {meth : Method} {c : Code} {g : CG} {S0 : CS} {mc ms : Nat} (C : CC p s m args meth c yX11_doInner cX11_doInner 3 (some .int)) (K : cK g s) (G : cSep g) (rB : CS → Int32 → Int32 → Option ((Int32 × CS) × Nat × Nat)) {kB : Nat} (kh : 20 ≤ kB) (hB : ∀ (S : CS) (v1 v2 : Int32) (w : (Int32 × CS) × Nat × Nat), rB S v1 v2 = some w → ∀ mc ms : Nat, 0 + w.2.1 ≤ mc ∧ 0 + w.2.2 ≤ ms → cC l yX11_doBlock cX11_doBlock 6 (some .int) kB mc ms g [.ref (co g), .int v1, .int v2] S (some (.int w.1.1)) w.1.2) (S : CS) (v1 : Int32) (v2 : Int32) {w : (Int32 × CS) × Nat × Nat} (hv : fX11_doInner rB S v1 v2 = some w) (cells slots : Nat) (hc : cells + w.2.1 ≤ mc ∧ slots + w.2.2 ≤ ms) : CJ p l e s m args below meth c 3 (kB + 2) mc ms g S0 (some (.int w.1.1)) w.1.2 0 [(0, .ref (co g)), (1, .int v1), (2, .int v2)] [] S cells slots := by
  unfold fX11_doInner at hv
  refine jr_aload_n C dX11_doInner_0 rfl 0 rfl ?_
  refine jc_getR C K 0 (by decide) (by decide) kw_122 rfl dX11_doInner_1 ?_
  refine jr_iload_n C dX11_doInner_4 rfl 1 rfl ?_
  by_cases z5 : inb v1 (clA 0) = true
  case neg => exact op_none ((if_neg z5).symm.trans hv)
  have hv := (if_pos z5).symm.trans hv
  refine jc_iald C K z5 dX11_doInner_5 ?_
  refine jr_bipush (v := 15) C dX11_doInner_6 (by decide) ?_
  refine jr_icmp_ne (tgt := 18) C dX11_doInner_8 rfl (fun q8 => ?_) (fun q8 => ?_)
  · have hv := (if_neg q8).symm.trans hv
    refine jr_iload_n C dX11_doInner_18 rfl 2 rfl ?_
    refine jr_bipush (v := 40) C dX11_doInner_19 (by decide) ?_
    refine jr_icmp_lt (tgt := 32) C dX11_doInner_21 rfl (fun q21 => ?_) (fun q21 => ?_)
    · have hv := (if_pos q21).symm.trans hv
      refine jr_aload_n C dX11_doInner_32 rfl 0 rfl ?_
      refine jc_getR C K 0 (by decide) (by decide) kw_122 rfl dX11_doInner_33 ?_
      refine jr_iload_n C dX11_doInner_36 rfl 1 rfl ?_
      by_cases z37 : inb v1 (clA 0) = true
      case neg => exact op_none ((if_neg z37).symm.trans hv)
      have hv := (if_pos z37).symm.trans hv
      refine jc_iald C K z37 dX11_doInner_37 ?_
      by_cases q38_0 : (gA S.1 0 (ix v1)) = 16
      · have hv := (if_pos q38_0).symm.trans hv
        refine jr_lookup (off := 26) (tgt := 64) C dX11_doInner_38 rfl (by rw [q38_0]; rfl) rfl ?_
        refine jr_aload_n C dX11_doInner_64 rfl 0 rfl ?_
        refine jr_iload_n C dX11_doInner_65 rfl 1 rfl ?_
        refine jr_iload_n C dX11_doInner_66 rfl 2 rfl ?_
        refine jr_iconst (v := 1) C dX11_doInner_67 (by decide) ?_
        refine jr_iadd C dX11_doInner_68 ?_
        obtain ⟨c69, hc69, hv⟩ := Option.bind_eq_some_iff.mp hv
        obtain ⟨w69, hv, e1, e2, e3⟩ := addD_of hv
        rw [← e1]
        have hr : cells + c69.2.1 ≤ mc ∧ slots + c69.2.2 ≤ ms := ⟨by omega, by omega⟩
        refine jc_callO (rest := []) C K (pX11_attempt l G rB kh hB S v1 (v2 + 1) hc69 ⟨Nat.le_of_eq (Nat.zero_add _), Nat.le_of_eq (Nat.zero_add _)⟩) oX11_attempt kw_7 kw_230 rfl ⟨by show _ ≤ kB + 2; omega, by show _ ≤ 48 * (kB + 2); omega⟩ rfl (Nat.le_of_ble_eq_true rfl) ⟨hr.1, hr.2⟩ dX11_doInner_69 ?_
        have hc : (cells + c69.2.1) + w69.2.1 ≤ mc ∧ (slots + c69.2.2) + w69.2.2 ≤ ms := ⟨by omega, by omega⟩
        cases hv
        exact jc_iret C K dX11_doInner_72 rfl ⟨Nat.le_trans (Nat.le_add_right _ _) hc.1, Nat.le_trans (Nat.le_add_right _ _) hc.2⟩
      have hv := (if_neg q38_0).symm.trans hv
      by_cases q38_1 : (gA S.1 0 (ix v1)) = 17
      · have hv := (if_pos q38_1).symm.trans hv
        refine jr_lookup (off := 35) (tgt := 73) C dX11_doInner_38 rfl (by rw [q38_1]; rfl) rfl ?_
        refine jr_aload_n C dX11_doInner_73 rfl 0 rfl ?_
        refine jr_iload_n C dX11_doInner_74 rfl 1 rfl ?_
        refine jr_iload_n C dX11_doInner_75 rfl 2 rfl ?_
        refine jr_iconst (v := 1) C dX11_doInner_76 (by decide) ?_
        refine jr_iadd C dX11_doInner_77 ?_
        obtain ⟨c78, hc78, hv⟩ := Option.bind_eq_some_iff.mp hv
        obtain ⟨w78, hv, e1, e2, e3⟩ := addD_of hv
        rw [← e1]
        have hr : cells + c78.2.1 ≤ mc ∧ slots + c78.2.2 ≤ ms := ⟨by omega, by omega⟩
        refine jc_callO (rest := []) C K (pX11_scope l G rB kh hB S v1 (v2 + 1) hc78 ⟨Nat.le_of_eq (Nat.zero_add _), Nat.le_of_eq (Nat.zero_add _)⟩) oX11_scope kw_9 kw_238 rfl ⟨by show _ ≤ kB + 2; omega, by show _ ≤ 48 * (kB + 2); omega⟩ rfl (Nat.le_of_ble_eq_true rfl) ⟨hr.1, hr.2⟩ dX11_doInner_78 ?_
        have hc : (cells + c78.2.1) + w78.2.1 ≤ mc ∧ (slots + c78.2.2) + w78.2.2 ≤ ms := ⟨by omega, by omega⟩
        cases hv
        exact jc_iret C K dX11_doInner_81 rfl ⟨Nat.le_trans (Nat.le_add_right _ _) hc.1, Nat.le_trans (Nat.le_add_right _ _) hc.2⟩
      have hv := (if_neg q38_1).symm.trans hv
      refine jr_lookup (off := 44) (tgt := 82) C dX11_doInner_38 rfl (((lv_osw q38_0 rfl).trans (lv_osw q38_1 rfl)).trans rfl) rfl ?_
      refine jr_aload_n C dX11_doInner_82 rfl 0 rfl ?_
      refine jr_aload_n C dX11_doInner_83 rfl 0 rfl ?_
      refine jc_getR C K 2 (by decide) (by decide) kw_124 rfl dX11_doInner_84 ?_
      refine jr_iload_n C dX11_doInner_87 rfl 1 rfl ?_
      by_cases z88 : inb v1 (clA 2) = true
      case neg => exact op_none ((if_neg z88).symm.trans hv)
      have hv := (if_pos z88).symm.trans hv
      refine jc_iald C K z88 dX11_doInner_88 ?_
      refine jr_iload_n C dX11_doInner_89 rfl 2 rfl ?_
      refine jr_iconst (v := 1) C dX11_doInner_90 (by decide) ?_
      refine jr_iadd C dX11_doInner_91 ?_
      obtain ⟨c92, hc92, hv⟩ := Option.bind_eq_some_iff.mp hv
      obtain ⟨w92, hv, e1, e2, e3⟩ := addD_of hv
      rw [← e1]
      have hr : cells + c92.2.1 ≤ mc ∧ slots + c92.2.2 ≤ ms := ⟨by omega, by omega⟩
      refine jc_callO (rest := []) C K (hB S (gA S.1 2 (ix v1)) (v2 + 1) _ hc92 _ _ ⟨Nat.le_of_eq (Nat.zero_add _), Nat.le_of_eq (Nat.zero_add _)⟩) oX11_doBlock kw_0 kw_195 rfl ⟨by show _ ≤ kB + 2; omega, by show _ ≤ 48 * (kB + 2); omega⟩ rfl (Nat.le_of_ble_eq_true rfl) ⟨hr.1, hr.2⟩ dX11_doInner_92 ?_
      have hc : (cells + c92.2.1) + w92.2.1 ≤ mc ∧ (slots + c92.2.2) + w92.2.2 ≤ ms := ⟨by omega, by omega⟩
      cases hv
      exact jc_iret C K dX11_doInner_95 rfl ⟨Nat.le_trans (Nat.le_add_right _ _) hc.1, Nat.le_trans (Nat.le_add_right _ _) hc.2⟩
    · have hv := (if_neg q21).symm.trans hv
      refine jr_aload_n C dX11_doInner_24 rfl 0 rfl ?_
      refine jr_bipush (v := 9) C dX11_doInner_25 (by decide) ?_
      refine jr_iload_n C dX11_doInner_27 rfl 1 rfl ?_
      obtain ⟨c28, hc28, hv⟩ := Option.bind_eq_some_iff.mp hv
      refine jc_callO (rest := []) C K (pX11_raise l G S 9 v1 hc28) oX11_raise kw_6 kw_223 rfl ⟨by show _ ≤ kB + 2; omega, by show _ ≤ 48 * (kB + 2); omega⟩ rfl (Nat.le_of_ble_eq_true rfl) ⟨Nat.le_trans (Nat.le_add_right _ _) hc.1, Nat.le_trans (Nat.le_add_right _ _) hc.2⟩ dX11_doInner_28 ?_
      cases hv
      exact jc_iret C K dX11_doInner_31 rfl ⟨Nat.le_trans (Nat.le_add_right _ _) hc.1, Nat.le_trans (Nat.le_add_right _ _) hc.2⟩
  · have hv := (if_pos q8).symm.trans hv
    refine jr_aload_n C dX11_doInner_11 rfl 0 rfl ?_
    refine jr_iload_n C dX11_doInner_12 rfl 1 rfl ?_
    refine jr_iload_n C dX11_doInner_13 rfl 2 rfl ?_
    obtain ⟨c14, hc14, hv⟩ := Option.bind_eq_some_iff.mp hv
    obtain ⟨w14, hv, e1, e2, e3⟩ := addD_of hv
    rw [← e1]
    have hr : cells + c14.2.1 ≤ mc ∧ slots + c14.2.2 ≤ ms := ⟨by omega, by omega⟩
    refine jc_callO (rest := []) C K (pX11_repeat l G rB kh hB S v1 v2 hc14 ⟨Nat.le_of_eq (Nat.zero_add _), Nat.le_of_eq (Nat.zero_add _)⟩) oX11_repeat kw_5 kw_219 rfl ⟨by show _ ≤ kB + 2; omega, by show _ ≤ 48 * (kB + 2); omega⟩ rfl (Nat.le_of_ble_eq_true rfl) ⟨hr.1, hr.2⟩ dX11_doInner_14 ?_
    have hc : (cells + c14.2.1) + w14.2.1 ≤ mc ∧ (slots + c14.2.2) + w14.2.2 ≤ ms := ⟨by omega, by omega⟩
    cases hv
    exact jc_iret C K dX11_doInner_17 rfl ⟨Nat.le_trans (Nat.le_add_right _ _) hc.1, Nat.le_trans (Nat.le_add_right _ _) hc.2⟩
theorem pX11_doInner (l : Launch) {g : CG} (G : cSep g) (rB : CS → Int32 → Int32 → Option ((Int32 × CS) × Nat × Nat)) {kB : Nat} (kh : 20 ≤ kB) (hB : ∀ (S : CS) (v1 v2 : Int32) (w : (Int32 × CS) × Nat × Nat), rB S v1 v2 = some w → ∀ mc ms : Nat, 0 + w.2.1 ≤ mc ∧ 0 + w.2.2 ≤ ms → cC l yX11_doBlock cX11_doBlock 6 (some .int) kB mc ms g [.ref (co g), .int v1, .int v2] S (some (.int w.1.1)) w.1.2) (S : CS) (v1 : Int32) (v2 : Int32) {w : (Int32 × CS) × Nat × Nat} (hw : fX11_doInner rB S v1 v2 = some w) {mc ms : Nat} (hc : 0 + w.2.1 ≤ mc ∧ 0 + w.2.2 ≤ ms) : cC l yX11_doInner cX11_doInner 3 (some .int) (kB + 2) mc ms g [.ref (co g), .int v1, .int v2] S (some (.int w.1.1)) w.1.2 := cC_of (lv := [(0, .ref (co g)), (1, .int v1), (2, .int v2)]) (by decide +kernel) (Nat.le_of_ble_eq_true rfl) rfl (fun C K => tX11_doInner_0 C K G rB kh hB S v1 v2 hw 0 0 hc)
/-! RobotCell.doOrder(II)I -/
def fX11_doOrder_231 (rB : CS → Int32 → Int32 → Option ((Int32 × CS) × Nat × Nat)) (S : CS) (v1 : Int32) (v7 : Int32) : Option ((Int32 × CS) × Nat × Nat) :=
  Option.bind (fX11_raise S v7 v1) (fun c235 => some ((c235.1, c235.2), 0, 0))
def fX11_doOrder_215 (rB : CS → Int32 → Int32 → Option ((Int32 × CS) × Nat × Nat)) (S : CS) (v1 : Int32) (v7 : Int32) : Option ((Int32 × CS) × Nat × Nat) :=
  fX11_doOrder_231 rB S v1 v7
def fX11_doOrder_143 (rB : CS → Int32 → Int32 → Option ((Int32 × CS) × Nat × Nat)) (S : CS) (v1 : Int32) (v7 : Int32) : Option ((Int32 × CS) × Nat × Nat) :=
  fX11_doOrder_231 rB S v1 v7
def fX11_doOrder_62 (rB : CS → Int32 → Int32 → Option ((Int32 × CS) × Nat × Nat)) (S : CS) (v1 : Int32) (v3 : Int32) (v4 : Int32) (v5 : Int32) (v6 : Int32) : Option ((Int32 × CS) × Nat × Nat) :=
  if 14 ≤ v3 then (if 24 ≤ v3 then (if 40 ≤ v3 then (if 48 ≤ v3 then (if 64 ≤ v3 then (if 80 ≤ v3 then (if 88 ≤ v3 then (Option.bind (fX11_onDevices S v3 v4 v5 v6) (fun c226 => addD c226.2.1 c226.2.2 (fX11_doOrder_231 rB c226.1.2 v1 c226.1.1))) else (Option.bind (fX11_onPoses S v3 v4 v5 v6) (fun c210 => addD c210.2.1 c210.2.2 (fX11_doOrder_215 rB c210.1.2 v1 c210.1.1)))) else (Option.bind (fX11_store S (v3 - 64) v4 v5 v6) (fun c188 => fX11_doOrder_231 rB c188.2 v1 c188.1))) else (Option.bind (fX11_load S (v3 - 48) v4 v5 v6) (fun c163 => fX11_doOrder_231 rB c163.2 v1 c163.1))) else (Option.bind (fX11_onThings S v3 v4 v5 v6) (fun c138 => addD c138.2.1 c138.2.2 (fX11_doOrder_143 rB c138.1.2 v1 c138.1.1)))) else (Option.bind (fX11_onMeasures S v3 v4 v5 v6) (fun c116 => fX11_doOrder_231 rB c116.2 v1 c116.1))) else (Option.bind (fX11_raiseOrLog S v3 v4) (fun c94 => fX11_doOrder_231 rB c94.2 v1 c94.1))) else (Option.bind (fX11_onNumbers S v3 v4 v5 v6) (fun c76 => fX11_doOrder_231 rB c76.2 v1 c76.1))
def fX11_doOrder_54 (rB : CS → Int32 → Int32 → Option ((Int32 × CS) × Nat × Nat)) (S : CS) (v1 : Int32) (v3 : Int32) (v4 : Int32) (v5 : Int32) : Option ((Int32 × CS) × Nat × Nat) :=
  if inb v1 (clA 3) = true then fX11_doOrder_62 rB S v1 v3 v4 v5 (gA S.1 3 (ix v1)) else none
def fX11_doOrder_46 (rB : CS → Int32 → Int32 → Option ((Int32 × CS) × Nat × Nat)) (S : CS) (v1 : Int32) (v3 : Int32) (v4 : Int32) : Option ((Int32 × CS) × Nat × Nat) :=
  if inb v1 (clA 2) = true then fX11_doOrder_54 rB S v1 v3 v4 (gA S.1 2 (ix v1)) else none
def fX11_doOrder_26 (rB : CS → Int32 → Int32 → Option ((Int32 × CS) × Nat × Nat)) (S : CS) (v1 : Int32) (v3 : Int32) : Option ((Int32 × CS) × Nat × Nat) :=
  if v3 = 19 then (Option.bind (fX11_raiseAgain S v1) (fun c34 => some ((c34.1, c34.2), 0, 0))) else (if inb v1 (clA 1) = true then fX11_doOrder_46 rB S v1 v3 (gA S.1 1 (ix v1)) else none)
def fX11_doOrder_7 (rB : CS → Int32 → Int32 → Option ((Int32 × CS) × Nat × Nat)) (S : CS) (v1 : Int32) (v2 : Int32) (v3 : Int32) : Option ((Int32 × CS) × Nat × Nat) :=
  if v3 < 14 then fX11_doOrder_26 rB S v1 v3 else (if 17 < v3 then fX11_doOrder_26 rB S v1 v3 else (Option.bind (fX11_doInner rB S v1 v2) (fun c22 => addD c22.2.1 c22.2.2 (some ((c22.1.1, c22.1.2), 0, 0)))))
def fX11_doOrder (rB : CS → Int32 → Int32 → Option ((Int32 × CS) × Nat × Nat)) (S : CS) (v1 : Int32) (v2 : Int32) : Option ((Int32 × CS) × Nat × Nat) :=
  if inb v1 (clA 0) = true then fX11_doOrder_7 rB S v1 v2 (gA S.1 0 (ix v1)) else none
theorem oX11_doOrder : ok_c yX11_doOrder cX11_doOrder 8 (some .int) 2 (.instanceMethod yX11_doOrder) := ⟨kw_214, ⟨kw_213, rfl⟩, kw_71, by decide +kernel⟩
set_option maxRecDepth 100000 in
set_option maxHeartbeats 1000000 in
theorem tX11_doOrder_231 {p : Program} {l : Launch} {e : Env} {s : State} {m : MethodId} {args : Array Value} {below : List Frame} {meth : Method} {c : Code} {g : CG} {S0 : CS} {mc ms : Nat} (C : CC p s m args meth c yX11_doOrder cX11_doOrder 8 (some .int)) (K : cK g s) (G : cSep g) (rB : CS → Int32 → Int32 → Option ((Int32 × CS) × Nat × Nat)) {kB : Nat} (kh : 20 ≤ kB) (hB : ∀ (S : CS) (v1 v2 : Int32) (w : (Int32 × CS) × Nat × Nat), rB S v1 v2 = some w → ∀ mc ms : Nat, 0 + w.2.1 ≤ mc ∧ 0 + w.2.2 ≤ ms → cC l yX11_doBlock cX11_doBlock 6 (some .int) kB mc ms g [.ref (co g), .int v1, .int v2] S (some (.int w.1.1)) w.1.2) (S : CS) (v1 : Int32) (v7 : Int32) {w : (Int32 × CS) × Nat × Nat} (hv : fX11_doOrder_231 rB S v1 v7 = some w) (cells slots : Nat) (hc : cells + w.2.1 ≤ mc ∧ slots + w.2.2 ≤ ms) : CJ p l e s m args below meth c 8 (kB + 3) mc ms g S0 (some (.int w.1.1)) w.1.2 231 [(0, .ref (co g)), (1, .int v1), (7, .int v7)] [] S cells slots := by
  unfold fX11_doOrder_231 at hv
  refine jr_aload_n C dX11_doOrder_231 rfl 0 rfl ?_
  refine jr_iload C dX11_doOrder_232 2 rfl ?_
  refine jr_iload_n C dX11_doOrder_234 rfl 1 rfl ?_
  obtain ⟨c235, hc235, hv⟩ := Option.bind_eq_some_iff.mp hv
  refine jc_callO (rest := []) C K (pX11_raise l G S v7 v1 hc235) oX11_raise kw_6 kw_223 rfl ⟨by show _ ≤ kB + 3; omega, by show _ ≤ 48 * (kB + 3); omega⟩ rfl (Nat.le_of_ble_eq_true rfl) ⟨Nat.le_trans (Nat.le_add_right _ _) hc.1, Nat.le_trans (Nat.le_add_right _ _) hc.2⟩ dX11_doOrder_235 ?_
  cases hv
  exact jc_iret C K dX11_doOrder_238 rfl ⟨Nat.le_trans (Nat.le_add_right _ _) hc.1, Nat.le_trans (Nat.le_add_right _ _) hc.2⟩
set_option maxRecDepth 100000 in
set_option maxHeartbeats 1000000 in
theorem tX11_doOrder_215 {p : Program} {l : Launch} {e : Env} {s : State} {m : MethodId} {args : Array Value} {below : List Frame} {meth : Method} {c : Code} {g : CG} {S0 : CS} {mc ms : Nat} (C : CC p s m args meth c yX11_doOrder cX11_doOrder 8 (some .int)) (K : cK g s) (G : cSep g) (rB : CS → Int32 → Int32 → Option ((Int32 × CS) × Nat × Nat)) {kB : Nat} (kh : 20 ≤ kB) (hB : ∀ (S : CS) (v1 v2 : Int32) (w : (Int32 × CS) × Nat × Nat), rB S v1 v2 = some w → ∀ mc ms : Nat, 0 + w.2.1 ≤ mc ∧ 0 + w.2.2 ≤ ms → cC l yX11_doBlock cX11_doBlock 6 (some .int) kB mc ms g [.ref (co g), .int v1, .int v2] S (some (.int w.1.1)) w.1.2) (S : CS) (v1 : Int32) (v7 : Int32) {w : (Int32 × CS) × Nat × Nat} (hv : fX11_doOrder_215 rB S v1 v7 = some w) (cells slots : Nat) (hc : cells + w.2.1 ≤ mc ∧ slots + w.2.2 ≤ ms) : CJ p l e s m args below meth c 8 (kB + 3) mc ms g S0 (some (.int w.1.1)) w.1.2 215 [(0, .ref (co g)), (1, .int v1), (7, .int v7)] [] S cells slots := by
  unfold fX11_doOrder_215 at hv
  refine jr_goto (tgt := 231) C dX11_doOrder_215 rfl ?_
  exact tX11_doOrder_231 C K G rB kh hB S v1 v7 hv _ _ hc
set_option maxRecDepth 100000 in
set_option maxHeartbeats 1000000 in
theorem tX11_doOrder_143 {p : Program} {l : Launch} {e : Env} {s : State} {m : MethodId} {args : Array Value} {below : List Frame} {meth : Method} {c : Code} {g : CG} {S0 : CS} {mc ms : Nat} (C : CC p s m args meth c yX11_doOrder cX11_doOrder 8 (some .int)) (K : cK g s) (G : cSep g) (rB : CS → Int32 → Int32 → Option ((Int32 × CS) × Nat × Nat)) {kB : Nat} (kh : 20 ≤ kB) (hB : ∀ (S : CS) (v1 v2 : Int32) (w : (Int32 × CS) × Nat × Nat), rB S v1 v2 = some w → ∀ mc ms : Nat, 0 + w.2.1 ≤ mc ∧ 0 + w.2.2 ≤ ms → cC l yX11_doBlock cX11_doBlock 6 (some .int) kB mc ms g [.ref (co g), .int v1, .int v2] S (some (.int w.1.1)) w.1.2) (S : CS) (v1 : Int32) (v7 : Int32) {w : (Int32 × CS) × Nat × Nat} (hv : fX11_doOrder_143 rB S v1 v7 = some w) (cells slots : Nat) (hc : cells + w.2.1 ≤ mc ∧ slots + w.2.2 ≤ ms) : CJ p l e s m args below meth c 8 (kB + 3) mc ms g S0 (some (.int w.1.1)) w.1.2 143 [(0, .ref (co g)), (1, .int v1), (7, .int v7)] [] S cells slots := by
  unfold fX11_doOrder_143 at hv
  refine jr_goto (tgt := 231) C dX11_doOrder_143 rfl ?_
  exact tX11_doOrder_231 C K G rB kh hB S v1 v7 hv _ _ hc
set_option maxRecDepth 100000 in
set_option maxHeartbeats 1000000 in
theorem tX11_doOrder_62 {p : Program} {l : Launch} {e : Env} {s : State} {m : MethodId} {args : Array Value} {below : List Frame} {meth : Method} {c : Code} {g : CG} {S0 : CS} {mc ms : Nat} (C : CC p s m args meth c yX11_doOrder cX11_doOrder 8 (some .int)) (K : cK g s) (G : cSep g) (rB : CS → Int32 → Int32 → Option ((Int32 × CS) × Nat × Nat)) {kB : Nat} (kh : 20 ≤ kB) (hB : ∀ (S : CS) (v1 v2 : Int32) (w : (Int32 × CS) × Nat × Nat), rB S v1 v2 = some w → ∀ mc ms : Nat, 0 + w.2.1 ≤ mc ∧ 0 + w.2.2 ≤ ms → cC l yX11_doBlock cX11_doBlock 6 (some .int) kB mc ms g [.ref (co g), .int v1, .int v2] S (some (.int w.1.1)) w.1.2) (S : CS) (v1 : Int32) (v3 : Int32) (v4 : Int32) (v5 : Int32) (v6 : Int32) {w : (Int32 × CS) × Nat × Nat} (hv : fX11_doOrder_62 rB S v1 v3 v4 v5 v6 = some w) (cells slots : Nat) (hc : cells + w.2.1 ≤ mc ∧ slots + w.2.2 ≤ ms) : CJ p l e s m args below meth c 8 (kB + 3) mc ms g S0 (some (.int w.1.1)) w.1.2 62 [(0, .ref (co g)), (1, .int v1), (3, .int v3), (4, .int v4), (5, .int v5), (6, .int v6)] [] S cells slots := by
  unfold fX11_doOrder_62 at hv
  refine jr_iload_n C dX11_doOrder_62 rfl 2 rfl ?_
  refine jr_bipush (v := 14) C dX11_doOrder_63 (by decide) ?_
  refine jr_icmp_ge (tgt := 84) C dX11_doOrder_65 rfl (fun q65 => ?_) (fun q65 => ?_)
  · have hv := (if_pos q65).symm.trans hv
    refine jr_iload_n C dX11_doOrder_84 rfl 2 rfl ?_
    refine jr_bipush (v := 24) C dX11_doOrder_85 (by decide) ?_
    refine jr_icmp_ge (tgt := 102) C dX11_doOrder_87 rfl (fun q87 => ?_) (fun q87 => ?_)
    · have hv := (if_pos q87).symm.trans hv
      refine jr_iload_n C dX11_doOrder_102 rfl 2 rfl ?_
      refine jr_bipush (v := 40) C dX11_doOrder_103 (by decide) ?_
      refine jr_icmp_ge (tgt := 124) C dX11_doOrder_105 rfl (fun q105 => ?_) (fun q105 => ?_)
      · have hv := (if_pos q105).symm.trans hv
        refine jr_iload_n C dX11_doOrder_124 rfl 2 rfl ?_
        refine jr_bipush (v := 48) C dX11_doOrder_125 (by decide) ?_
        refine jr_icmp_ge (tgt := 146) C dX11_doOrder_127 rfl (fun q127 => ?_) (fun q127 => ?_)
        · have hv := (if_pos q127).symm.trans hv
          refine jr_iload_n C dX11_doOrder_146 rfl 2 rfl ?_
          refine jr_bipush (v := 64) C dX11_doOrder_147 (by decide) ?_
          refine jr_icmp_ge (tgt := 171) C dX11_doOrder_149 rfl (fun q149 => ?_) (fun q149 => ?_)
          · have hv := (if_pos q149).symm.trans hv
            refine jr_iload_n C dX11_doOrder_171 rfl 2 rfl ?_
            refine jr_bipush (v := 80) C dX11_doOrder_172 (by decide) ?_
            refine jr_icmp_ge (tgt := 196) C dX11_doOrder_174 rfl (fun q174 => ?_) (fun q174 => ?_)
            · have hv := (if_pos q174).symm.trans hv
              refine jr_iload_n C dX11_doOrder_196 rfl 2 rfl ?_
              refine jr_bipush (v := 88) C dX11_doOrder_197 (by decide) ?_
              refine jr_icmp_ge (tgt := 218) C dX11_doOrder_199 rfl (fun q199 => ?_) (fun q199 => ?_)
              · have hv := (if_pos q199).symm.trans hv
                refine jr_aload_n C dX11_doOrder_218 rfl 0 rfl ?_
                refine jr_iload_n C dX11_doOrder_219 rfl 2 rfl ?_
                refine jr_iload C dX11_doOrder_220 3 rfl ?_
                refine jr_iload C dX11_doOrder_222 4 rfl ?_
                refine jr_iload C dX11_doOrder_224 5 rfl ?_
                obtain ⟨c226, hc226, hv⟩ := Option.bind_eq_some_iff.mp hv
                obtain ⟨w226, hv, e1, e2, e3⟩ := addD_of hv
                rw [← e1]
                have hr : cells + c226.2.1 ≤ mc ∧ slots + c226.2.2 ≤ ms := ⟨by omega, by omega⟩
                refine jc_callO (rest := []) C K (pX11_onDevices l G S v3 v4 v5 v6 hc226 ⟨Nat.le_of_eq (Nat.zero_add _), Nat.le_of_eq (Nat.zero_add _)⟩) oX11_onDevices kw_35 kw_744 rfl ⟨by show _ ≤ kB + 3; omega, by show _ ≤ 48 * (kB + 3); omega⟩ rfl (Nat.le_of_ble_eq_true rfl) ⟨hr.1, hr.2⟩ dX11_doOrder_226 ?_
                have hc : (cells + c226.2.1) + w226.2.1 ≤ mc ∧ (slots + c226.2.2) + w226.2.2 ≤ ms := ⟨by omega, by omega⟩
                refine jr_istore (lv' := [(7, .int c226.1.1), (0, .ref (co g)), (1, .int v1), (3, .int v3), (4, .int v4), (5, .int v5), (6, .int v6)]) C dX11_doOrder_229 (by decide) rfl ?_
                exact jr_sub [1, 2, 0] rfl (tX11_doOrder_231 C K G rB kh hB c226.1.2 v1 c226.1.1 hv _ _ hc)
              · have hv := (if_neg q199).symm.trans hv
                refine jr_aload_n C dX11_doOrder_202 rfl 0 rfl ?_
                refine jr_iload_n C dX11_doOrder_203 rfl 2 rfl ?_
                refine jr_iload C dX11_doOrder_204 3 rfl ?_
                refine jr_iload C dX11_doOrder_206 4 rfl ?_
                refine jr_iload C dX11_doOrder_208 5 rfl ?_
                obtain ⟨c210, hc210, hv⟩ := Option.bind_eq_some_iff.mp hv
                obtain ⟨w210, hv, e1, e2, e3⟩ := addD_of hv
                rw [← e1]
                have hr : cells + c210.2.1 ≤ mc ∧ slots + c210.2.2 ≤ ms := ⟨by omega, by omega⟩
                refine jc_callO (rest := []) C K (pX11_onPoses l G S v3 v4 v5 v6 hc210 ⟨Nat.le_of_eq (Nat.zero_add _), Nat.le_of_eq (Nat.zero_add _)⟩) oX11_onPoses kw_30 kw_659 rfl ⟨by show _ ≤ kB + 3; omega, by show _ ≤ 48 * (kB + 3); omega⟩ rfl (Nat.le_of_ble_eq_true rfl) ⟨hr.1, hr.2⟩ dX11_doOrder_210 ?_
                have hc : (cells + c210.2.1) + w210.2.1 ≤ mc ∧ (slots + c210.2.2) + w210.2.2 ≤ ms := ⟨by omega, by omega⟩
                refine jr_istore (lv' := [(7, .int c210.1.1), (0, .ref (co g)), (1, .int v1), (3, .int v3), (4, .int v4), (5, .int v5), (6, .int v6)]) C dX11_doOrder_213 (by decide) rfl ?_
                exact jr_sub [1, 2, 0] rfl (tX11_doOrder_215 C K G rB kh hB c210.1.2 v1 c210.1.1 hv _ _ hc)
            · have hv := (if_neg q174).symm.trans hv
              refine jr_aload_n C dX11_doOrder_177 rfl 0 rfl ?_
              refine jr_iload_n C dX11_doOrder_178 rfl 2 rfl ?_
              refine jr_bipush (v := 64) C dX11_doOrder_179 (by decide) ?_
              refine jr_isub C dX11_doOrder_181 ?_
              refine jr_iload C dX11_doOrder_182 3 rfl ?_
              refine jr_iload C dX11_doOrder_184 4 rfl ?_
              refine jr_iload C dX11_doOrder_186 5 rfl ?_
              obtain ⟨c188, hc188, hv⟩ := Option.bind_eq_some_iff.mp hv
              refine jc_callO (rest := []) C K (pX11_store l G S (v3 - 64) v4 v5 v6 hc188) oX11_store kw_28 kw_645 rfl ⟨by show _ ≤ kB + 3; omega, by show _ ≤ 48 * (kB + 3); omega⟩ rfl (Nat.le_of_ble_eq_true rfl) ⟨Nat.le_trans (Nat.le_add_right _ _) hc.1, Nat.le_trans (Nat.le_add_right _ _) hc.2⟩ dX11_doOrder_188 ?_
              refine jr_istore (lv' := [(7, .int c188.1), (0, .ref (co g)), (1, .int v1), (3, .int v3), (4, .int v4), (5, .int v5), (6, .int v6)]) C dX11_doOrder_191 (by decide) rfl ?_
              refine jr_goto (tgt := 231) C dX11_doOrder_193 rfl ?_
              exact jr_sub [1, 2, 0] rfl (tX11_doOrder_231 C K G rB kh hB c188.2 v1 c188.1 hv _ _ hc)
          · have hv := (if_neg q149).symm.trans hv
            refine jr_aload_n C dX11_doOrder_152 rfl 0 rfl ?_
            refine jr_iload_n C dX11_doOrder_153 rfl 2 rfl ?_
            refine jr_bipush (v := 48) C dX11_doOrder_154 (by decide) ?_
            refine jr_isub C dX11_doOrder_156 ?_
            refine jr_iload C dX11_doOrder_157 3 rfl ?_
            refine jr_iload C dX11_doOrder_159 4 rfl ?_
            refine jr_iload C dX11_doOrder_161 5 rfl ?_
            obtain ⟨c163, hc163, hv⟩ := Option.bind_eq_some_iff.mp hv
            refine jc_callO (rest := []) C K (pX11_load l G S (v3 - 48) v4 v5 v6 hc163) oX11_load kw_27 kw_627 rfl ⟨by show _ ≤ kB + 3; omega, by show _ ≤ 48 * (kB + 3); omega⟩ rfl (Nat.le_of_ble_eq_true rfl) ⟨Nat.le_trans (Nat.le_add_right _ _) hc.1, Nat.le_trans (Nat.le_add_right _ _) hc.2⟩ dX11_doOrder_163 ?_
            refine jr_istore (lv' := [(7, .int c163.1), (0, .ref (co g)), (1, .int v1), (3, .int v3), (4, .int v4), (5, .int v5), (6, .int v6)]) C dX11_doOrder_166 (by decide) rfl ?_
            refine jr_goto (tgt := 231) C dX11_doOrder_168 rfl ?_
            exact jr_sub [1, 2, 0] rfl (tX11_doOrder_231 C K G rB kh hB c163.2 v1 c163.1 hv _ _ hc)
        · have hv := (if_neg q127).symm.trans hv
          refine jr_aload_n C dX11_doOrder_130 rfl 0 rfl ?_
          refine jr_iload_n C dX11_doOrder_131 rfl 2 rfl ?_
          refine jr_iload C dX11_doOrder_132 3 rfl ?_
          refine jr_iload C dX11_doOrder_134 4 rfl ?_
          refine jr_iload C dX11_doOrder_136 5 rfl ?_
          obtain ⟨c138, hc138, hv⟩ := Option.bind_eq_some_iff.mp hv
          obtain ⟨w138, hv, e1, e2, e3⟩ := addD_of hv
          rw [← e1]
          have hr : cells + c138.2.1 ≤ mc ∧ slots + c138.2.2 ≤ ms := ⟨by omega, by omega⟩
          refine jc_callO (rest := []) C K (pX11_onThings l G S v3 v4 v5 v6 hc138 ⟨Nat.le_of_eq (Nat.zero_add _), Nat.le_of_eq (Nat.zero_add _)⟩) oX11_onThings kw_18 kw_491 rfl ⟨by show _ ≤ kB + 3; omega, by show _ ≤ 48 * (kB + 3); omega⟩ rfl (Nat.le_of_ble_eq_true rfl) ⟨hr.1, hr.2⟩ dX11_doOrder_138 ?_
          have hc : (cells + c138.2.1) + w138.2.1 ≤ mc ∧ (slots + c138.2.2) + w138.2.2 ≤ ms := ⟨by omega, by omega⟩
          refine jr_istore (lv' := [(7, .int c138.1.1), (0, .ref (co g)), (1, .int v1), (3, .int v3), (4, .int v4), (5, .int v5), (6, .int v6)]) C dX11_doOrder_141 (by decide) rfl ?_
          exact jr_sub [1, 2, 0] rfl (tX11_doOrder_143 C K G rB kh hB c138.1.2 v1 c138.1.1 hv _ _ hc)
      · have hv := (if_neg q105).symm.trans hv
        refine jr_aload_n C dX11_doOrder_108 rfl 0 rfl ?_
        refine jr_iload_n C dX11_doOrder_109 rfl 2 rfl ?_
        refine jr_iload C dX11_doOrder_110 3 rfl ?_
        refine jr_iload C dX11_doOrder_112 4 rfl ?_
        refine jr_iload C dX11_doOrder_114 5 rfl ?_
        obtain ⟨c116, hc116, hv⟩ := Option.bind_eq_some_iff.mp hv
        refine jc_callO (rest := []) C K (pX11_onMeasures l G S v3 v4 v5 v6 hc116) oX11_onMeasures kw_14 kw_264 rfl ⟨by show _ ≤ kB + 3; omega, by show _ ≤ 48 * (kB + 3); omega⟩ rfl (Nat.le_of_ble_eq_true rfl) ⟨Nat.le_trans (Nat.le_add_right _ _) hc.1, Nat.le_trans (Nat.le_add_right _ _) hc.2⟩ dX11_doOrder_116 ?_
        refine jr_istore (lv' := [(7, .int c116.1), (0, .ref (co g)), (1, .int v1), (3, .int v3), (4, .int v4), (5, .int v5), (6, .int v6)]) C dX11_doOrder_119 (by decide) rfl ?_
        refine jr_goto (tgt := 231) C dX11_doOrder_121 rfl ?_
        exact jr_sub [1, 2, 0] rfl (tX11_doOrder_231 C K G rB kh hB c116.2 v1 c116.1 hv _ _ hc)
    · have hv := (if_neg q87).symm.trans hv
      refine jr_aload_n C dX11_doOrder_90 rfl 0 rfl ?_
      refine jr_iload_n C dX11_doOrder_91 rfl 2 rfl ?_
      refine jr_iload C dX11_doOrder_92 3 rfl ?_
      obtain ⟨c94, hc94, hv⟩ := Option.bind_eq_some_iff.mp hv
      refine jc_callO (rest := []) C K (pX11_raiseOrLog l G S v3 v4 hc94) oX11_raiseOrLog kw_12 kw_251 rfl ⟨by show _ ≤ kB + 3; omega, by show _ ≤ 48 * (kB + 3); omega⟩ rfl (Nat.le_of_ble_eq_true rfl) ⟨Nat.le_trans (Nat.le_add_right _ _) hc.1, Nat.le_trans (Nat.le_add_right _ _) hc.2⟩ dX11_doOrder_94 ?_
      refine jr_istore (lv' := [(7, .int c94.1), (0, .ref (co g)), (1, .int v1), (3, .int v3), (4, .int v4), (5, .int v5), (6, .int v6)]) C dX11_doOrder_97 (by decide) rfl ?_
      refine jr_goto (tgt := 231) C dX11_doOrder_99 rfl ?_
      exact jr_sub [1, 2, 0] rfl (tX11_doOrder_231 C K G rB kh hB c94.2 v1 c94.1 hv _ _ hc)
  · have hv := (if_neg q65).symm.trans hv
    refine jr_aload_n C dX11_doOrder_68 rfl 0 rfl ?_
    refine jr_iload_n C dX11_doOrder_69 rfl 2 rfl ?_
    refine jr_iload C dX11_doOrder_70 3 rfl ?_
    refine jr_iload C dX11_doOrder_72 4 rfl ?_
    refine jr_iload C dX11_doOrder_74 5 rfl ?_
    obtain ⟨c76, hc76, hv⟩ := Option.bind_eq_some_iff.mp hv
    refine jc_callO (rest := []) C K (pX11_onNumbers l G S v3 v4 v5 v6 hc76) oX11_onNumbers kw_11 kw_246 rfl ⟨by show _ ≤ kB + 3; omega, by show _ ≤ 48 * (kB + 3); omega⟩ rfl (Nat.le_of_ble_eq_true rfl) ⟨Nat.le_trans (Nat.le_add_right _ _) hc.1, Nat.le_trans (Nat.le_add_right _ _) hc.2⟩ dX11_doOrder_76 ?_
    refine jr_istore (lv' := [(7, .int c76.1), (0, .ref (co g)), (1, .int v1), (3, .int v3), (4, .int v4), (5, .int v5), (6, .int v6)]) C dX11_doOrder_79 (by decide) rfl ?_
    refine jr_goto (tgt := 231) C dX11_doOrder_81 rfl ?_
    exact jr_sub [1, 2, 0] rfl (tX11_doOrder_231 C K G rB kh hB c76.2 v1 c76.1 hv _ _ hc)
set_option maxRecDepth 100000 in
set_option maxHeartbeats 1000000 in
theorem tX11_doOrder_54 {p : Program} {l : Launch} {e : Env} {s : State} {m : MethodId} {args : Array Value} {below : List Frame} {meth : Method} {c : Code} {g : CG} {S0 : CS} {mc ms : Nat} (C : CC p s m args meth c yX11_doOrder cX11_doOrder 8 (some .int)) (K : cK g s) (G : cSep g) (rB : CS → Int32 → Int32 → Option ((Int32 × CS) × Nat × Nat)) {kB : Nat} (kh : 20 ≤ kB) (hB : ∀ (S : CS) (v1 v2 : Int32) (w : (Int32 × CS) × Nat × Nat), rB S v1 v2 = some w → ∀ mc ms : Nat, 0 + w.2.1 ≤ mc ∧ 0 + w.2.2 ≤ ms → cC l yX11_doBlock cX11_doBlock 6 (some .int) kB mc ms g [.ref (co g), .int v1, .int v2] S (some (.int w.1.1)) w.1.2) (S : CS) (v1 : Int32) (v3 : Int32) (v4 : Int32) (v5 : Int32) {w : (Int32 × CS) × Nat × Nat} (hv : fX11_doOrder_54 rB S v1 v3 v4 v5 = some w) (cells slots : Nat) (hc : cells + w.2.1 ≤ mc ∧ slots + w.2.2 ≤ ms) : CJ p l e s m args below meth c 8 (kB + 3) mc ms g S0 (some (.int w.1.1)) w.1.2 54 [(0, .ref (co g)), (1, .int v1), (3, .int v3), (4, .int v4), (5, .int v5)] [] S cells slots := by
  unfold fX11_doOrder_54 at hv
  refine jr_aload_n C dX11_doOrder_54 rfl 0 rfl ?_
  refine jc_getR C K 3 (by decide) (by decide) kw_125 rfl dX11_doOrder_55 ?_
  refine jr_iload_n C dX11_doOrder_58 rfl 1 rfl ?_
  by_cases z59 : inb v1 (clA 3) = true
  case neg => exact op_none ((if_neg z59).symm.trans hv)
  have hv := (if_pos z59).symm.trans hv
  refine jc_iald C K z59 dX11_doOrder_59 ?_
  refine jr_istore (lv' := [(6, .int (gA S.1 3 (ix v1))), (0, .ref (co g)), (1, .int v1), (3, .int v3), (4, .int v4), (5, .int v5)]) C dX11_doOrder_60 (by decide) rfl ?_
  exact jr_sub [1, 2, 3, 4, 5, 0] rfl (tX11_doOrder_62 C K G rB kh hB S v1 v3 v4 v5 (gA S.1 3 (ix v1)) hv _ _ hc)
set_option maxRecDepth 100000 in
set_option maxHeartbeats 1000000 in
theorem tX11_doOrder_46 {p : Program} {l : Launch} {e : Env} {s : State} {m : MethodId} {args : Array Value} {below : List Frame} {meth : Method} {c : Code} {g : CG} {S0 : CS} {mc ms : Nat} (C : CC p s m args meth c yX11_doOrder cX11_doOrder 8 (some .int)) (K : cK g s) (G : cSep g) (rB : CS → Int32 → Int32 → Option ((Int32 × CS) × Nat × Nat)) {kB : Nat} (kh : 20 ≤ kB) (hB : ∀ (S : CS) (v1 v2 : Int32) (w : (Int32 × CS) × Nat × Nat), rB S v1 v2 = some w → ∀ mc ms : Nat, 0 + w.2.1 ≤ mc ∧ 0 + w.2.2 ≤ ms → cC l yX11_doBlock cX11_doBlock 6 (some .int) kB mc ms g [.ref (co g), .int v1, .int v2] S (some (.int w.1.1)) w.1.2) (S : CS) (v1 : Int32) (v3 : Int32) (v4 : Int32) {w : (Int32 × CS) × Nat × Nat} (hv : fX11_doOrder_46 rB S v1 v3 v4 = some w) (cells slots : Nat) (hc : cells + w.2.1 ≤ mc ∧ slots + w.2.2 ≤ ms) : CJ p l e s m args below meth c 8 (kB + 3) mc ms g S0 (some (.int w.1.1)) w.1.2 46 [(0, .ref (co g)), (1, .int v1), (3, .int v3), (4, .int v4)] [] S cells slots := by
  unfold fX11_doOrder_46 at hv
  refine jr_aload_n C dX11_doOrder_46 rfl 0 rfl ?_
  refine jc_getR C K 2 (by decide) (by decide) kw_124 rfl dX11_doOrder_47 ?_
  refine jr_iload_n C dX11_doOrder_50 rfl 1 rfl ?_
  by_cases z51 : inb v1 (clA 2) = true
  case neg => exact op_none ((if_neg z51).symm.trans hv)
  have hv := (if_pos z51).symm.trans hv
  refine jc_iald C K z51 dX11_doOrder_51 ?_
  refine jr_istore (lv' := [(5, .int (gA S.1 2 (ix v1))), (0, .ref (co g)), (1, .int v1), (3, .int v3), (4, .int v4)]) C dX11_doOrder_52 (by decide) rfl ?_
  exact jr_sub [1, 2, 3, 4, 0] rfl (tX11_doOrder_54 C K G rB kh hB S v1 v3 v4 (gA S.1 2 (ix v1)) hv _ _ hc)
set_option maxRecDepth 100000 in
set_option maxHeartbeats 1000000 in
theorem tX11_doOrder_26 {p : Program} {l : Launch} {e : Env} {s : State} {m : MethodId} {args : Array Value} {below : List Frame} {meth : Method} {c : Code} {g : CG} {S0 : CS} {mc ms : Nat} (C : CC p s m args meth c yX11_doOrder cX11_doOrder 8 (some .int)) (K : cK g s) (G : cSep g) (rB : CS → Int32 → Int32 → Option ((Int32 × CS) × Nat × Nat)) {kB : Nat} (kh : 20 ≤ kB) (hB : ∀ (S : CS) (v1 v2 : Int32) (w : (Int32 × CS) × Nat × Nat), rB S v1 v2 = some w → ∀ mc ms : Nat, 0 + w.2.1 ≤ mc ∧ 0 + w.2.2 ≤ ms → cC l yX11_doBlock cX11_doBlock 6 (some .int) kB mc ms g [.ref (co g), .int v1, .int v2] S (some (.int w.1.1)) w.1.2) (S : CS) (v1 : Int32) (v3 : Int32) {w : (Int32 × CS) × Nat × Nat} (hv : fX11_doOrder_26 rB S v1 v3 = some w) (cells slots : Nat) (hc : cells + w.2.1 ≤ mc ∧ slots + w.2.2 ≤ ms) : CJ p l e s m args below meth c 8 (kB + 3) mc ms g S0 (some (.int w.1.1)) w.1.2 26 [(0, .ref (co g)), (1, .int v1), (3, .int v3)] [] S cells slots := by
  unfold fX11_doOrder_26 at hv
  refine jr_iload_n C dX11_doOrder_26 rfl 2 rfl ?_
  refine jr_bipush (v := 19) C dX11_doOrder_27 (by decide) ?_
  refine jr_icmp_ne (tgt := 38) C dX11_doOrder_29 rfl (fun q29 => ?_) (fun q29 => ?_)
  · have hv := (if_neg q29).symm.trans hv
    refine jr_aload_n C dX11_doOrder_38 rfl 0 rfl ?_
    refine jc_getR C K 1 (by decide) (by decide) kw_123 rfl dX11_doOrder_39 ?_
    refine jr_iload_n C dX11_doOrder_42 rfl 1 rfl ?_
    by_cases z43 : inb v1 (clA 1) = true
    case neg => exact op_none ((if_neg z43).symm.trans hv)
    have hv := (if_pos z43).symm.trans hv
    refine jc_iald C K z43 dX11_doOrder_43 ?_
    refine jr_istore (lv' := [(4, .int (gA S.1 1 (ix v1))), (0, .ref (co g)), (1, .int v1), (3, .int v3)]) C dX11_doOrder_44 (by decide) rfl ?_
    exact jr_sub [1, 2, 3, 0] rfl (tX11_doOrder_46 C K G rB kh hB S v1 v3 (gA S.1 1 (ix v1)) hv _ _ hc)
  · have hv := (if_pos q29).symm.trans hv
    refine jr_aload_n C dX11_doOrder_32 rfl 0 rfl ?_
    refine jr_iload_n C dX11_doOrder_33 rfl 1 rfl ?_
    obtain ⟨c34, hc34, hv⟩ := Option.bind_eq_some_iff.mp hv
    refine jc_callO (rest := []) C K (pX11_raiseAgain l G S v1 hc34) oX11_raiseAgain kw_10 kw_242 rfl ⟨by show _ ≤ kB + 3; omega, by show _ ≤ 48 * (kB + 3); omega⟩ rfl (Nat.le_of_ble_eq_true rfl) ⟨Nat.le_trans (Nat.le_add_right _ _) hc.1, Nat.le_trans (Nat.le_add_right _ _) hc.2⟩ dX11_doOrder_34 ?_
    cases hv
    exact jc_iret C K dX11_doOrder_37 rfl ⟨Nat.le_trans (Nat.le_add_right _ _) hc.1, Nat.le_trans (Nat.le_add_right _ _) hc.2⟩
set_option maxRecDepth 100000 in
set_option maxHeartbeats 1000000 in
theorem tX11_doOrder_7 {p : Program} {l : Launch} {e : Env} {s : State} {m : MethodId} {args : Array Value} {below : List Frame} {meth : Method} {c : Code} {g : CG} {S0 : CS} {mc ms : Nat} (C : CC p s m args meth c yX11_doOrder cX11_doOrder 8 (some .int)) (K : cK g s) (G : cSep g) (rB : CS → Int32 → Int32 → Option ((Int32 × CS) × Nat × Nat)) {kB : Nat} (kh : 20 ≤ kB) (hB : ∀ (S : CS) (v1 v2 : Int32) (w : (Int32 × CS) × Nat × Nat), rB S v1 v2 = some w → ∀ mc ms : Nat, 0 + w.2.1 ≤ mc ∧ 0 + w.2.2 ≤ ms → cC l yX11_doBlock cX11_doBlock 6 (some .int) kB mc ms g [.ref (co g), .int v1, .int v2] S (some (.int w.1.1)) w.1.2) (S : CS) (v1 : Int32) (v2 : Int32) (v3 : Int32) {w : (Int32 × CS) × Nat × Nat} (hv : fX11_doOrder_7 rB S v1 v2 v3 = some w) (cells slots : Nat) (hc : cells + w.2.1 ≤ mc ∧ slots + w.2.2 ≤ ms) : CJ p l e s m args below meth c 8 (kB + 3) mc ms g S0 (some (.int w.1.1)) w.1.2 7 [(0, .ref (co g)), (1, .int v1), (2, .int v2), (3, .int v3)] [] S cells slots := by
  unfold fX11_doOrder_7 at hv
  refine jr_iload_n C dX11_doOrder_7 rfl 3 rfl ?_
  refine jr_bipush (v := 14) C dX11_doOrder_8 (by decide) ?_
  refine jr_icmp_lt (tgt := 26) C dX11_doOrder_10 rfl (fun q10 => ?_) (fun q10 => ?_)
  · have hv := (if_pos q10).symm.trans hv
    exact jr_sub [0, 1, 3] rfl (tX11_doOrder_26 C K G rB kh hB S v1 v3 hv _ _ hc)
  · have hv := (if_neg q10).symm.trans hv
    refine jr_iload_n C dX11_doOrder_13 rfl 3 rfl ?_
    refine jr_bipush (v := 17) C dX11_doOrder_14 (by decide) ?_
    refine jr_icmp_gt (tgt := 26) C dX11_doOrder_16 rfl (fun q16 => ?_) (fun q16 => ?_)
    · have hv := (if_pos q16).symm.trans hv
      exact jr_sub [0, 1, 3] rfl (tX11_doOrder_26 C K G rB kh hB S v1 v3 hv _ _ hc)
    · have hv := (if_neg q16).symm.trans hv
      refine jr_aload_n C dX11_doOrder_19 rfl 0 rfl ?_
      refine jr_iload_n C dX11_doOrder_20 rfl 1 rfl ?_
      refine jr_iload_n C dX11_doOrder_21 rfl 2 rfl ?_
      obtain ⟨c22, hc22, hv⟩ := Option.bind_eq_some_iff.mp hv
      obtain ⟨w22, hv, e1, e2, e3⟩ := addD_of hv
      rw [← e1]
      have hr : cells + c22.2.1 ≤ mc ∧ slots + c22.2.2 ≤ ms := ⟨by omega, by omega⟩
      refine jc_callO (rest := []) C K (pX11_doInner l G rB kh hB S v1 v2 hc22 ⟨Nat.le_of_eq (Nat.zero_add _), Nat.le_of_eq (Nat.zero_add _)⟩) oX11_doInner kw_4 kw_215 rfl ⟨by show _ ≤ kB + 3; omega, by show _ ≤ 48 * (kB + 3); omega⟩ rfl (Nat.le_of_ble_eq_true rfl) ⟨hr.1, hr.2⟩ dX11_doOrder_22 ?_
      have hc : (cells + c22.2.1) + w22.2.1 ≤ mc ∧ (slots + c22.2.2) + w22.2.2 ≤ ms := ⟨by omega, by omega⟩
      cases hv
      exact jc_iret C K dX11_doOrder_25 rfl ⟨Nat.le_trans (Nat.le_add_right _ _) hc.1, Nat.le_trans (Nat.le_add_right _ _) hc.2⟩
set_option maxRecDepth 100000 in
set_option maxHeartbeats 1000000 in
theorem tX11_doOrder_0 {p : Program} {l : Launch} {e : Env} {s : State} {m : MethodId} {args : Array Value} {below : List Frame} {meth : Method} {c : Code} {g : CG} {S0 : CS} {mc ms : Nat} (C : CC p s m args meth c yX11_doOrder cX11_doOrder 8 (some .int)) (K : cK g s) (G : cSep g) (rB : CS → Int32 → Int32 → Option ((Int32 × CS) × Nat × Nat)) {kB : Nat} (kh : 20 ≤ kB) (hB : ∀ (S : CS) (v1 v2 : Int32) (w : (Int32 × CS) × Nat × Nat), rB S v1 v2 = some w → ∀ mc ms : Nat, 0 + w.2.1 ≤ mc ∧ 0 + w.2.2 ≤ ms → cC l yX11_doBlock cX11_doBlock 6 (some .int) kB mc ms g [.ref (co g), .int v1, .int v2] S (some (.int w.1.1)) w.1.2) (S : CS) (v1 : Int32) (v2 : Int32) {w : (Int32 × CS) × Nat × Nat} (hv : fX11_doOrder rB S v1 v2 = some w) (cells slots : Nat) (hc : cells + w.2.1 ≤ mc ∧ slots + w.2.2 ≤ ms) : CJ p l e s m args below meth c 8 (kB + 3) mc ms g S0 (some (.int w.1.1)) w.1.2 0 [(0, .ref (co g)), (1, .int v1), (2, .int v2)] [] S cells slots := by
  unfold fX11_doOrder at hv
  refine jr_aload_n C dX11_doOrder_0 rfl 0 rfl ?_
  refine jc_getR C K 0 (by decide) (by decide) kw_122 rfl dX11_doOrder_1 ?_
  refine jr_iload_n C dX11_doOrder_4 rfl 1 rfl ?_
  by_cases z5 : inb v1 (clA 0) = true
  case neg => exact op_none ((if_neg z5).symm.trans hv)
  have hv := (if_pos z5).symm.trans hv
  refine jc_iald C K z5 dX11_doOrder_5 ?_
  refine jr_istore_n (lv' := [(3, .int (gA S.1 0 (ix v1))), (0, .ref (co g)), (1, .int v1), (2, .int v2)]) C dX11_doOrder_6 rfl (by decide) rfl ?_
  exact jr_sub [1, 2, 3, 0] rfl (tX11_doOrder_7 C K G rB kh hB S v1 v2 (gA S.1 0 (ix v1)) hv _ _ hc)
theorem pX11_doOrder (l : Launch) {g : CG} (G : cSep g) (rB : CS → Int32 → Int32 → Option ((Int32 × CS) × Nat × Nat)) {kB : Nat} (kh : 20 ≤ kB) (hB : ∀ (S : CS) (v1 v2 : Int32) (w : (Int32 × CS) × Nat × Nat), rB S v1 v2 = some w → ∀ mc ms : Nat, 0 + w.2.1 ≤ mc ∧ 0 + w.2.2 ≤ ms → cC l yX11_doBlock cX11_doBlock 6 (some .int) kB mc ms g [.ref (co g), .int v1, .int v2] S (some (.int w.1.1)) w.1.2) (S : CS) (v1 : Int32) (v2 : Int32) {w : (Int32 × CS) × Nat × Nat} (hw : fX11_doOrder rB S v1 v2 = some w) {mc ms : Nat} (hc : 0 + w.2.1 ≤ mc ∧ 0 + w.2.2 ≤ ms) : cC l yX11_doOrder cX11_doOrder 8 (some .int) (kB + 3) mc ms g [.ref (co g), .int v1, .int v2] S (some (.int w.1.1)) w.1.2 := cC_of (lv := [(0, .ref (co g)), (1, .int v1), (2, .int v2)]) (by decide +kernel) (Nat.le_of_ble_eq_true rfl) rfl (fun C K => tX11_doOrder_0 C K G rB kh hB S v1 v2 hw 0 0 hc)
/-! RobotCell.doBlock(II)I -/
def fX11_doBlock_89 (rB : CS → Int32 → Int32 → Option ((Int32 × CS) × Nat × Nat)) (S : CS) : Option ((Int32 × CS) × Nat × Nat) :=
  some ((0, S), 0, 0)
def fX11_doBlock_86 (rB : CS → Int32 → Int32 → Option ((Int32 × CS) × Nat × Nat)) (r2 : CS → Int32 → Int32 → Option ((Int32 × CS) × Nat × Nat)) (S : CS) (v2 : Int32) (v3 : Int32) : Option ((Int32 × CS) × Nat × Nat) :=
  r2 S v2 v3
def fX11_doBlock_83 (rB : CS → Int32 → Int32 → Option ((Int32 × CS) × Nat × Nat)) (r2 : CS → Int32 → Int32 → Option ((Int32 × CS) × Nat × Nat)) (S : CS) (v2 : Int32) (v3 : Int32) : Option ((Int32 × CS) × Nat × Nat) :=
  fX11_doBlock_86 rB r2 S v2 (v3 + 1)
def fX11_doBlock_75 (rB : CS → Int32 → Int32 → Option ((Int32 × CS) × Nat × Nat)) (r2 : CS → Int32 → Int32 → Option ((Int32 × CS) × Nat × Nat)) (S : CS) (v2 : Int32) (v3 : Int32) (v5 : Int32) : Option ((Int32 × CS) × Nat × Nat) :=
  if v5 = 0 then fX11_doBlock_83 rB r2 S v2 v3 else some ((v5, S), 0, 0)
def fX11_doBlock_64 (rB : CS → Int32 → Int32 → Option ((Int32 × CS) × Nat × Nat)) (r2 : CS → Int32 → Int32 → Option ((Int32 × CS) × Nat × Nat)) (S : CS) (v2 : Int32) (v3 : Int32) : Option ((Int32 × CS) × Nat × Nat) :=
  fX11_doBlock_83 rB r2 S v2 v3
def fX11_doBlock_42 (rB : CS → Int32 → Int32 → Option ((Int32 × CS) × Nat × Nat)) (r2 : CS → Int32 → Int32 → Option ((Int32 × CS) × Nat × Nat)) (S : CS) (v2 : Int32) (v3 : Int32) (v4 : Int32) : Option ((Int32 × CS) × Nat × Nat) :=
  if v4 = 0 then some ((0, S), 0, 0) else (if v4 = 13 then (Option.bind (fX11_passed S v3) (fun c59 => fX11_doBlock_64 rB r2 c59.2 v2 (v3 + c59.1))) else (Option.bind (fX11_doOrder rB S v3 v2) (fun c70 => addD c70.2.1 c70.2.2 (fX11_doBlock_75 rB r2 c70.1.2 v2 v3 c70.1.1))))
def fX11_doBlock_34 (rB : CS → Int32 → Int32 → Option ((Int32 × CS) × Nat × Nat)) (r2 : CS → Int32 → Int32 → Option ((Int32 × CS) × Nat × Nat)) (S : CS) (v2 : Int32) (v3 : Int32) : Option ((Int32 × CS) × Nat × Nat) :=
  if inb v3 (clA 0) = true then fX11_doBlock_42 rB r2 S v2 v3 (gA S.1 0 (ix v3)) else none
def fX11_doBlock_2 (rB : CS → Int32 → Int32 → Option ((Int32 × CS) × Nat × Nat)) : Nat → CS → Int32 → Int32 → Option ((Int32 × CS) × Nat × Nat)
  | 0, _, _, _ => none
  | q + 1, S, v2, v3 => if v3 < 0 then fX11_doBlock_89 rB S else (if (gI S.1 4) ≤ v3 then fX11_doBlock_89 rB S else (Option.bind (fX11_takeFuel S) (fun c15 => if c15.1 = 0 then some ((10, c15.2), 0, 0) else fX11_doBlock_34 rB (fX11_doBlock_2 rB q) (cpI c15.2 11 ((gI c15.2.1 11) + 1)) v2 v3)))
def fX11_doBlock (rB : CS → Int32 → Int32 → Option ((Int32 × CS) × Nat × Nat)) (S : CS) (v1 : Int32) (v2 : Int32) : Option ((Int32 × CS) × Nat × Nat) :=
  fX11_doBlock_2 rB 20010 S v2 v1
set_option maxRecDepth 100000 in
set_option maxHeartbeats 1000000 in
theorem tX11_doBlock_89 {p : Program} {l : Launch} {e : Env} {s : State} {m : MethodId} {args : Array Value} {below : List Frame} {meth : Method} {c : Code} {g : CG} {S0 : CS} {mc ms : Nat} (C : CC p s m args meth c yX11_doBlock cX11_doBlock 6 (some .int)) (K : cK g s) (G : cSep g) (rB : CS → Int32 → Int32 → Option ((Int32 × CS) × Nat × Nat)) {kB : Nat} (kh : 20 ≤ kB) (hB : ∀ (S : CS) (v1 v2 : Int32) (w : (Int32 × CS) × Nat × Nat), rB S v1 v2 = some w → ∀ mc ms : Nat, 0 + w.2.1 ≤ mc ∧ 0 + w.2.2 ≤ ms → cC l yX11_doBlock cX11_doBlock 6 (some .int) kB mc ms g [.ref (co g), .int v1, .int v2] S (some (.int w.1.1)) w.1.2) (S : CS) {w : (Int32 × CS) × Nat × Nat} (hv : fX11_doBlock_89 rB S = some w) (cells slots : Nat) (hc : cells + w.2.1 ≤ mc ∧ slots + w.2.2 ≤ ms) : CJ p l e s m args below meth c 6 (kB + 4) mc ms g S0 (some (.int w.1.1)) w.1.2 89 [] [] S cells slots := by
  unfold fX11_doBlock_89 at hv
  refine jr_iconst (v := 0) C dX11_doBlock_89 (by decide) ?_
  cases hv
  exact jc_iret C K dX11_doBlock_90 rfl ⟨Nat.le_trans (Nat.le_add_right _ _) hc.1, Nat.le_trans (Nat.le_add_right _ _) hc.2⟩
set_option maxRecDepth 100000 in
set_option maxHeartbeats 1000000 in
theorem tX11_doBlock_86 {p : Program} {l : Launch} {e : Env} {s : State} {m : MethodId} {args : Array Value} {below : List Frame} {meth : Method} {c : Code} {g : CG} {S0 : CS} {mc ms : Nat} (C : CC p s m args meth c yX11_doBlock cX11_doBlock 6 (some .int)) (K : cK g s) (G : cSep g) (rB : CS → Int32 → Int32 → Option ((Int32 × CS) × Nat × Nat)) {kB : Nat} (kh : 20 ≤ kB) (hB : ∀ (S : CS) (v1 v2 : Int32) (w : (Int32 × CS) × Nat × Nat), rB S v1 v2 = some w → ∀ mc ms : Nat, 0 + w.2.1 ≤ mc ∧ 0 + w.2.2 ≤ ms → cC l yX11_doBlock cX11_doBlock 6 (some .int) kB mc ms g [.ref (co g), .int v1, .int v2] S (some (.int w.1.1)) w.1.2) (r2 : CS → Int32 → Int32 → Option ((Int32 × CS) × Nat × Nat)) (h2 : ∀ (S : CS) (v2 : Int32) (v3 : Int32) (w : (Int32 × CS) × Nat × Nat), r2 S v2 v3 = some w → ∀ cells slots : Nat, cells + w.2.1 ≤ mc ∧ slots + w.2.2 ≤ ms → CJ p l e s m args below meth c 6 (kB + 4) mc ms g S0 (some (.int w.1.1)) w.1.2 2 [(0, .ref (co g)), (2, .int v2), (3, .int v3)] [] S cells slots) (S : CS) (v2 : Int32) (v3 : Int32) {w : (Int32 × CS) × Nat × Nat} (hv : fX11_doBlock_86 rB r2 S v2 v3 = some w) (cells slots : Nat) (hc : cells + w.2.1 ≤ mc ∧ slots + w.2.2 ≤ ms) : CJ p l e s m args below meth c 6 (kB + 4) mc ms g S0 (some (.int w.1.1)) w.1.2 86 [(0, .ref (co g)), (2, .int v2), (3, .int v3)] [] S cells slots := by
  unfold fX11_doBlock_86 at hv
  refine jr_goto (tgt := 2) C dX11_doBlock_86 rfl ?_
  exact h2 S v2 v3 _ hv _ _ hc
set_option maxRecDepth 100000 in
set_option maxHeartbeats 1000000 in
theorem tX11_doBlock_83 {p : Program} {l : Launch} {e : Env} {s : State} {m : MethodId} {args : Array Value} {below : List Frame} {meth : Method} {c : Code} {g : CG} {S0 : CS} {mc ms : Nat} (C : CC p s m args meth c yX11_doBlock cX11_doBlock 6 (some .int)) (K : cK g s) (G : cSep g) (rB : CS → Int32 → Int32 → Option ((Int32 × CS) × Nat × Nat)) {kB : Nat} (kh : 20 ≤ kB) (hB : ∀ (S : CS) (v1 v2 : Int32) (w : (Int32 × CS) × Nat × Nat), rB S v1 v2 = some w → ∀ mc ms : Nat, 0 + w.2.1 ≤ mc ∧ 0 + w.2.2 ≤ ms → cC l yX11_doBlock cX11_doBlock 6 (some .int) kB mc ms g [.ref (co g), .int v1, .int v2] S (some (.int w.1.1)) w.1.2) (r2 : CS → Int32 → Int32 → Option ((Int32 × CS) × Nat × Nat)) (h2 : ∀ (S : CS) (v2 : Int32) (v3 : Int32) (w : (Int32 × CS) × Nat × Nat), r2 S v2 v3 = some w → ∀ cells slots : Nat, cells + w.2.1 ≤ mc ∧ slots + w.2.2 ≤ ms → CJ p l e s m args below meth c 6 (kB + 4) mc ms g S0 (some (.int w.1.1)) w.1.2 2 [(0, .ref (co g)), (2, .int v2), (3, .int v3)] [] S cells slots) (S : CS) (v2 : Int32) (v3 : Int32) {w : (Int32 × CS) × Nat × Nat} (hv : fX11_doBlock_83 rB r2 S v2 v3 = some w) (cells slots : Nat) (hc : cells + w.2.1 ≤ mc ∧ slots + w.2.2 ≤ ms) : CJ p l e s m args below meth c 6 (kB + 4) mc ms g S0 (some (.int w.1.1)) w.1.2 83 [(0, .ref (co g)), (2, .int v2), (3, .int v3)] [] S cells slots := by
  unfold fX11_doBlock_83 at hv
  refine jr_iinc (v := (v3 + 1)) (lv' := [(3, .int (v3 + 1)), (0, .ref (co g)), (2, .int v2)]) C dX11_doBlock_83 2 rfl rfl (by decide) rfl ?_
  exact jr_sub [1, 2, 0] rfl (tX11_doBlock_86 C K G rB kh hB r2 h2 S v2 (v3 + 1) hv _ _ hc)
set_option maxRecDepth 100000 in
set_option maxHeartbeats 1000000 in
theorem tX11_doBlock_75 {p : Program} {l : Launch} {e : Env} {s : State} {m : MethodId} {args : Array Value} {below : List Frame} {meth : Method} {c : Code} {g : CG} {S0 : CS} {mc ms : Nat} (C : CC p s m args meth c yX11_doBlock cX11_doBlock 6 (some .int)) (K : cK g s) (G : cSep g) (rB : CS → Int32 → Int32 → Option ((Int32 × CS) × Nat × Nat)) {kB : Nat} (kh : 20 ≤ kB) (hB : ∀ (S : CS) (v1 v2 : Int32) (w : (Int32 × CS) × Nat × Nat), rB S v1 v2 = some w → ∀ mc ms : Nat, 0 + w.2.1 ≤ mc ∧ 0 + w.2.2 ≤ ms → cC l yX11_doBlock cX11_doBlock 6 (some .int) kB mc ms g [.ref (co g), .int v1, .int v2] S (some (.int w.1.1)) w.1.2) (r2 : CS → Int32 → Int32 → Option ((Int32 × CS) × Nat × Nat)) (h2 : ∀ (S : CS) (v2 : Int32) (v3 : Int32) (w : (Int32 × CS) × Nat × Nat), r2 S v2 v3 = some w → ∀ cells slots : Nat, cells + w.2.1 ≤ mc ∧ slots + w.2.2 ≤ ms → CJ p l e s m args below meth c 6 (kB + 4) mc ms g S0 (some (.int w.1.1)) w.1.2 2 [(0, .ref (co g)), (2, .int v2), (3, .int v3)] [] S cells slots) (S : CS) (v2 : Int32) (v3 : Int32) (v5 : Int32) {w : (Int32 × CS) × Nat × Nat} (hv : fX11_doBlock_75 rB r2 S v2 v3 v5 = some w) (cells slots : Nat) (hc : cells + w.2.1 ≤ mc ∧ slots + w.2.2 ≤ ms) : CJ p l e s m args below meth c 6 (kB + 4) mc ms g S0 (some (.int w.1.1)) w.1.2 75 [(0, .ref (co g)), (2, .int v2), (3, .int v3), (5, .int v5)] [] S cells slots := by
  unfold fX11_doBlock_75 at hv
  refine jr_iload C dX11_doBlock_75 3 rfl ?_
  refine jr_if_eq (tgt := 83) C dX11_doBlock_77 rfl (fun q77 => ?_) (fun q77 => ?_)
  · have hv := (if_pos q77).symm.trans hv
    exact jr_sub [0, 1, 2] rfl (tX11_doBlock_83 C K G rB kh hB r2 h2 S v2 v3 hv _ _ hc)
  · have hv := (if_neg q77).symm.trans hv
    refine jr_iload C dX11_doBlock_80 3 rfl ?_
    cases hv
    exact jc_iret C K dX11_doBlock_82 rfl ⟨Nat.le_trans (Nat.le_add_right _ _) hc.1, Nat.le_trans (Nat.le_add_right _ _) hc.2⟩
set_option maxRecDepth 100000 in
set_option maxHeartbeats 1000000 in
theorem tX11_doBlock_64 {p : Program} {l : Launch} {e : Env} {s : State} {m : MethodId} {args : Array Value} {below : List Frame} {meth : Method} {c : Code} {g : CG} {S0 : CS} {mc ms : Nat} (C : CC p s m args meth c yX11_doBlock cX11_doBlock 6 (some .int)) (K : cK g s) (G : cSep g) (rB : CS → Int32 → Int32 → Option ((Int32 × CS) × Nat × Nat)) {kB : Nat} (kh : 20 ≤ kB) (hB : ∀ (S : CS) (v1 v2 : Int32) (w : (Int32 × CS) × Nat × Nat), rB S v1 v2 = some w → ∀ mc ms : Nat, 0 + w.2.1 ≤ mc ∧ 0 + w.2.2 ≤ ms → cC l yX11_doBlock cX11_doBlock 6 (some .int) kB mc ms g [.ref (co g), .int v1, .int v2] S (some (.int w.1.1)) w.1.2) (r2 : CS → Int32 → Int32 → Option ((Int32 × CS) × Nat × Nat)) (h2 : ∀ (S : CS) (v2 : Int32) (v3 : Int32) (w : (Int32 × CS) × Nat × Nat), r2 S v2 v3 = some w → ∀ cells slots : Nat, cells + w.2.1 ≤ mc ∧ slots + w.2.2 ≤ ms → CJ p l e s m args below meth c 6 (kB + 4) mc ms g S0 (some (.int w.1.1)) w.1.2 2 [(0, .ref (co g)), (2, .int v2), (3, .int v3)] [] S cells slots) (S : CS) (v2 : Int32) (v3 : Int32) {w : (Int32 × CS) × Nat × Nat} (hv : fX11_doBlock_64 rB r2 S v2 v3 = some w) (cells slots : Nat) (hc : cells + w.2.1 ≤ mc ∧ slots + w.2.2 ≤ ms) : CJ p l e s m args below meth c 6 (kB + 4) mc ms g S0 (some (.int w.1.1)) w.1.2 64 [(0, .ref (co g)), (2, .int v2), (3, .int v3)] [] S cells slots := by
  unfold fX11_doBlock_64 at hv
  refine jr_goto (tgt := 83) C dX11_doBlock_64 rfl ?_
  exact tX11_doBlock_83 C K G rB kh hB r2 h2 S v2 v3 hv _ _ hc
set_option maxRecDepth 100000 in
set_option maxHeartbeats 1000000 in
theorem tX11_doBlock_42 {p : Program} {l : Launch} {e : Env} {s : State} {m : MethodId} {args : Array Value} {below : List Frame} {meth : Method} {c : Code} {g : CG} {S0 : CS} {mc ms : Nat} (C : CC p s m args meth c yX11_doBlock cX11_doBlock 6 (some .int)) (K : cK g s) (G : cSep g) (rB : CS → Int32 → Int32 → Option ((Int32 × CS) × Nat × Nat)) {kB : Nat} (kh : 20 ≤ kB) (hB : ∀ (S : CS) (v1 v2 : Int32) (w : (Int32 × CS) × Nat × Nat), rB S v1 v2 = some w → ∀ mc ms : Nat, 0 + w.2.1 ≤ mc ∧ 0 + w.2.2 ≤ ms → cC l yX11_doBlock cX11_doBlock 6 (some .int) kB mc ms g [.ref (co g), .int v1, .int v2] S (some (.int w.1.1)) w.1.2) (r2 : CS → Int32 → Int32 → Option ((Int32 × CS) × Nat × Nat)) (h2 : ∀ (S : CS) (v2 : Int32) (v3 : Int32) (w : (Int32 × CS) × Nat × Nat), r2 S v2 v3 = some w → ∀ cells slots : Nat, cells + w.2.1 ≤ mc ∧ slots + w.2.2 ≤ ms → CJ p l e s m args below meth c 6 (kB + 4) mc ms g S0 (some (.int w.1.1)) w.1.2 2 [(0, .ref (co g)), (2, .int v2), (3, .int v3)] [] S cells slots) (S : CS) (v2 : Int32) (v3 : Int32) (v4 : Int32) {w : (Int32 × CS) × Nat × Nat} (hv : fX11_doBlock_42 rB r2 S v2 v3 v4 = some w) (cells slots : Nat) (hc : cells + w.2.1 ≤ mc ∧ slots + w.2.2 ≤ ms) : CJ p l e s m args below meth c 6 (kB + 4) mc ms g S0 (some (.int w.1.1)) w.1.2 42 [(0, .ref (co g)), (2, .int v2), (3, .int v3), (4, .int v4)] [] S cells slots := by
  unfold fX11_doBlock_42 at hv
  refine jr_iload C dX11_doBlock_42 3 rfl ?_
  refine jr_if_ne (tgt := 49) C dX11_doBlock_44 rfl (fun q44 => ?_) (fun q44 => ?_)
  · have hv := (if_neg q44).symm.trans hv
    refine jr_iload C dX11_doBlock_49 3 rfl ?_
    refine jr_bipush (v := 13) C dX11_doBlock_51 (by decide) ?_
    refine jr_icmp_ne (tgt := 67) C dX11_doBlock_53 rfl (fun q53 => ?_) (fun q53 => ?_)
    · have hv := (if_neg q53).symm.trans hv
      refine jr_aload_n C dX11_doBlock_67 rfl 0 rfl ?_
      refine jr_iload_n C dX11_doBlock_68 rfl 2 rfl ?_
      refine jr_iload_n C dX11_doBlock_69 rfl 1 rfl ?_
      obtain ⟨c70, hc70, hv⟩ := Option.bind_eq_some_iff.mp hv
      obtain ⟨w70, hv, e1, e2, e3⟩ := addD_of hv
      rw [← e1]
      have hr : cells + c70.2.1 ≤ mc ∧ slots + c70.2.2 ≤ ms := ⟨by omega, by omega⟩
      refine jc_callO (rest := []) C K (pX11_doOrder l G rB kh hB S v3 v2 hc70 ⟨Nat.le_of_eq (Nat.zero_add _), Nat.le_of_eq (Nat.zero_add _)⟩) oX11_doOrder kw_3 kw_211 rfl ⟨by show _ ≤ kB + 4; omega, by show _ ≤ 48 * (kB + 4); omega⟩ rfl (Nat.le_of_ble_eq_true rfl) ⟨hr.1, hr.2⟩ dX11_doBlock_70 ?_
      have hc : (cells + c70.2.1) + w70.2.1 ≤ mc ∧ (slots + c70.2.2) + w70.2.2 ≤ ms := ⟨by omega, by omega⟩
      refine jr_istore (lv' := [(5, .int c70.1.1), (0, .ref (co g)), (2, .int v2), (3, .int v3), (4, .int v4)]) C dX11_doBlock_73 (by decide) rfl ?_
      exact jr_sub [1, 2, 3, 0] rfl (tX11_doBlock_75 C K G rB kh hB r2 h2 c70.1.2 v2 v3 c70.1.1 hv _ _ hc)
    · have hv := (if_pos q53).symm.trans hv
      refine jr_iload_n C dX11_doBlock_56 rfl 2 rfl ?_
      refine jr_aload_n C dX11_doBlock_57 rfl 0 rfl ?_
      refine jr_iload_n C dX11_doBlock_58 rfl 2 rfl ?_
      obtain ⟨c59, hc59, hv⟩ := Option.bind_eq_some_iff.mp hv
      refine jc_callO (rest := [.int v3]) C K (pX11_passed l G S v3 hc59) oX11_passed kw_2 kw_203 rfl ⟨by show _ ≤ kB + 4; omega, by show _ ≤ 48 * (kB + 4); omega⟩ rfl (Nat.le_of_ble_eq_true rfl) ⟨Nat.le_trans (Nat.le_add_right _ _) hc.1, Nat.le_trans (Nat.le_add_right _ _) hc.2⟩ dX11_doBlock_59 ?_
      refine jr_iadd C dX11_doBlock_62 ?_
      refine jr_istore_n (lv' := [(3, .int (v3 + c59.1)), (0, .ref (co g)), (2, .int v2), (4, .int v4)]) C dX11_doBlock_63 rfl (by decide) rfl ?_
      exact jr_sub [1, 2, 0] rfl (tX11_doBlock_64 C K G rB kh hB r2 h2 c59.2 v2 (v3 + c59.1) hv _ _ hc)
  · have hv := (if_pos q44).symm.trans hv
    refine jr_iconst (v := 0) C dX11_doBlock_47 (by decide) ?_
    cases hv
    exact jc_iret C K dX11_doBlock_48 rfl ⟨Nat.le_trans (Nat.le_add_right _ _) hc.1, Nat.le_trans (Nat.le_add_right _ _) hc.2⟩
set_option maxRecDepth 100000 in
set_option maxHeartbeats 1000000 in
theorem tX11_doBlock_34 {p : Program} {l : Launch} {e : Env} {s : State} {m : MethodId} {args : Array Value} {below : List Frame} {meth : Method} {c : Code} {g : CG} {S0 : CS} {mc ms : Nat} (C : CC p s m args meth c yX11_doBlock cX11_doBlock 6 (some .int)) (K : cK g s) (G : cSep g) (rB : CS → Int32 → Int32 → Option ((Int32 × CS) × Nat × Nat)) {kB : Nat} (kh : 20 ≤ kB) (hB : ∀ (S : CS) (v1 v2 : Int32) (w : (Int32 × CS) × Nat × Nat), rB S v1 v2 = some w → ∀ mc ms : Nat, 0 + w.2.1 ≤ mc ∧ 0 + w.2.2 ≤ ms → cC l yX11_doBlock cX11_doBlock 6 (some .int) kB mc ms g [.ref (co g), .int v1, .int v2] S (some (.int w.1.1)) w.1.2) (r2 : CS → Int32 → Int32 → Option ((Int32 × CS) × Nat × Nat)) (h2 : ∀ (S : CS) (v2 : Int32) (v3 : Int32) (w : (Int32 × CS) × Nat × Nat), r2 S v2 v3 = some w → ∀ cells slots : Nat, cells + w.2.1 ≤ mc ∧ slots + w.2.2 ≤ ms → CJ p l e s m args below meth c 6 (kB + 4) mc ms g S0 (some (.int w.1.1)) w.1.2 2 [(0, .ref (co g)), (2, .int v2), (3, .int v3)] [] S cells slots) (S : CS) (v2 : Int32) (v3 : Int32) {w : (Int32 × CS) × Nat × Nat} (hv : fX11_doBlock_34 rB r2 S v2 v3 = some w) (cells slots : Nat) (hc : cells + w.2.1 ≤ mc ∧ slots + w.2.2 ≤ ms) : CJ p l e s m args below meth c 6 (kB + 4) mc ms g S0 (some (.int w.1.1)) w.1.2 34 [(0, .ref (co g)), (2, .int v2), (3, .int v3)] [] S cells slots := by
  unfold fX11_doBlock_34 at hv
  refine jr_aload_n C dX11_doBlock_34 rfl 0 rfl ?_
  refine jc_getR C K 0 (by decide) (by decide) kw_122 rfl dX11_doBlock_35 ?_
  refine jr_iload_n C dX11_doBlock_38 rfl 2 rfl ?_
  by_cases z39 : inb v3 (clA 0) = true
  case neg => exact op_none ((if_neg z39).symm.trans hv)
  have hv := (if_pos z39).symm.trans hv
  refine jc_iald C K z39 dX11_doBlock_39 ?_
  refine jr_istore (lv' := [(4, .int (gA S.1 0 (ix v3))), (0, .ref (co g)), (2, .int v2), (3, .int v3)]) C dX11_doBlock_40 (by decide) rfl ?_
  exact jr_sub [1, 2, 3, 0] rfl (tX11_doBlock_42 C K G rB kh hB r2 h2 S v2 v3 (gA S.1 0 (ix v3)) hv _ _ hc)
set_option maxRecDepth 100000 in
set_option maxHeartbeats 1000000 in
theorem tX11_doBlock_2 {p : Program} {l : Launch} {e : Env} {s : State} {m : MethodId} {args : Array Value} {below : List Frame} {meth : Method} {c : Code} {g : CG} {S0 : CS} {mc ms : Nat} (C : CC p s m args meth c yX11_doBlock cX11_doBlock 6 (some .int)) (K : cK g s) (G : cSep g) (rB : CS → Int32 → Int32 → Option ((Int32 × CS) × Nat × Nat)) {kB : Nat} (kh : 20 ≤ kB) (hB : ∀ (S : CS) (v1 v2 : Int32) (w : (Int32 × CS) × Nat × Nat), rB S v1 v2 = some w → ∀ mc ms : Nat, 0 + w.2.1 ≤ mc ∧ 0 + w.2.2 ≤ ms → cC l yX11_doBlock cX11_doBlock 6 (some .int) kB mc ms g [.ref (co g), .int v1, .int v2] S (some (.int w.1.1)) w.1.2) : ∀ (q : Nat) (S : CS) (v2 : Int32) (v3 : Int32) (w : (Int32 × CS) × Nat × Nat), fX11_doBlock_2 rB q S v2 v3 = some w → ∀ cells slots : Nat, cells + w.2.1 ≤ mc ∧ slots + w.2.2 ≤ ms → CJ p l e s m args below meth c 6 (kB + 4) mc ms g S0 (some (.int w.1.1)) w.1.2 2 [(0, .ref (co g)), (2, .int v2), (3, .int v3)] [] S cells slots := by
  intro q
  induction q with
  | zero => intro S v2 v3 w hv; exact absurd hv (by simp [fX11_doBlock_2])
  | succ q ih =>
    intro S v2 v3 w hv cells slots hc
    unfold fX11_doBlock_2 at hv
    refine jr_iload_n C dX11_doBlock_2 rfl 2 rfl ?_
    refine jr_if_lt (tgt := 89) C dX11_doBlock_3 rfl (fun q3 => ?_) (fun q3 => ?_)
    · have hv := (if_pos q3).symm.trans hv
      exact jr_sub [] rfl (tX11_doBlock_89 C K G rB kh hB S hv _ _ hc)
    · have hv := (if_neg q3).symm.trans hv
      refine jr_iload_n C dX11_doBlock_6 rfl 2 rfl ?_
      refine jr_aload_n C dX11_doBlock_7 rfl 0 rfl ?_
      refine jc_getI C K 4 (by decide) rfl kw_126 rfl dX11_doBlock_8 ?_
      refine jr_icmp_ge (tgt := 89) C dX11_doBlock_11 rfl (fun q11 => ?_) (fun q11 => ?_)
      · have hv := (if_pos q11).symm.trans hv
        exact jr_sub [] rfl (tX11_doBlock_89 C K G rB kh hB S hv _ _ hc)
      · have hv := (if_neg q11).symm.trans hv
        refine jr_aload_n C dX11_doBlock_14 rfl 0 rfl ?_
        obtain ⟨c15, hc15, hv⟩ := Option.bind_eq_some_iff.mp hv
        refine jc_callO (rest := []) C K (pX11_takeFuel l G S hc15) oX11_takeFuel kw_1 kw_199 rfl ⟨by show _ ≤ kB + 4; omega, by show _ ≤ 48 * (kB + 4); omega⟩ rfl (Nat.le_of_ble_eq_true rfl) ⟨Nat.le_trans (Nat.le_add_right _ _) hc.1, Nat.le_trans (Nat.le_add_right _ _) hc.2⟩ dX11_doBlock_15 ?_
        refine jr_if_ne (tgt := 24) C dX11_doBlock_18 rfl (fun q18 => ?_) (fun q18 => ?_)
        · have hv := (if_neg q18).symm.trans hv
          refine jr_aload_n C dX11_doBlock_24 rfl 0 rfl ?_
          refine jr_dup C dX11_doBlock_25 rfl ?_
          refine jc_getI C K 11 (by decide) rfl kw_133 rfl dX11_doBlock_26 ?_
          refine jr_iconst (v := 1) C dX11_doBlock_29 (by decide) ?_
          refine jr_iadd C dX11_doBlock_30 ?_
          refine jc_putI C K G 11 (by decide) rfl kw_133 rfl rfl (by decide +kernel) dX11_doBlock_31 ?_
          exact tX11_doBlock_34 C K G rB kh hB (fX11_doBlock_2 rB q) ih (cpI c15.2 11 ((gI c15.2.1 11) + 1)) v2 v3 hv _ _ hc
        · have hv := (if_pos q18).symm.trans hv
          refine jr_bipush (v := 10) C dX11_doBlock_21 (by decide) ?_
          cases hv
          exact jc_iret C K dX11_doBlock_23 rfl ⟨Nat.le_trans (Nat.le_add_right _ _) hc.1, Nat.le_trans (Nat.le_add_right _ _) hc.2⟩
set_option maxRecDepth 100000 in
set_option maxHeartbeats 1000000 in
theorem tX11_doBlock_0 {p : Program} {l : Launch} {e : Env} {s : State} {m : MethodId} {args : Array Value} {below : List Frame} {meth : Method} {c : Code} {g : CG} {S0 : CS} {mc ms : Nat} (C : CC p s m args meth c yX11_doBlock cX11_doBlock 6 (some .int)) (K : cK g s) (G : cSep g) (rB : CS → Int32 → Int32 → Option ((Int32 × CS) × Nat × Nat)) {kB : Nat} (kh : 20 ≤ kB) (hB : ∀ (S : CS) (v1 v2 : Int32) (w : (Int32 × CS) × Nat × Nat), rB S v1 v2 = some w → ∀ mc ms : Nat, 0 + w.2.1 ≤ mc ∧ 0 + w.2.2 ≤ ms → cC l yX11_doBlock cX11_doBlock 6 (some .int) kB mc ms g [.ref (co g), .int v1, .int v2] S (some (.int w.1.1)) w.1.2) (S : CS) (v1 : Int32) (v2 : Int32) {w : (Int32 × CS) × Nat × Nat} (hv : fX11_doBlock rB S v1 v2 = some w) (cells slots : Nat) (hc : cells + w.2.1 ≤ mc ∧ slots + w.2.2 ≤ ms) : CJ p l e s m args below meth c 6 (kB + 4) mc ms g S0 (some (.int w.1.1)) w.1.2 0 [(0, .ref (co g)), (1, .int v1), (2, .int v2)] [] S cells slots := by
  unfold fX11_doBlock at hv
  refine jr_iload_n C dX11_doBlock_0 rfl 1 rfl ?_
  refine jr_istore_n (lv' := [(3, .int v1), (0, .ref (co g)), (1, .int v1), (2, .int v2)]) C dX11_doBlock_1 rfl (by decide) rfl ?_
  exact jr_sub [1, 3, 0] rfl (tX11_doBlock_2 C K G rB kh hB 20010 S v2 v1 _ hv _ _ hc)
theorem pX11_doBlock (l : Launch) {g : CG} (G : cSep g) (rB : CS → Int32 → Int32 → Option ((Int32 × CS) × Nat × Nat)) {kB : Nat} (kh : 20 ≤ kB) (hB : ∀ (S : CS) (v1 v2 : Int32) (w : (Int32 × CS) × Nat × Nat), rB S v1 v2 = some w → ∀ mc ms : Nat, 0 + w.2.1 ≤ mc ∧ 0 + w.2.2 ≤ ms → cC l yX11_doBlock cX11_doBlock 6 (some .int) kB mc ms g [.ref (co g), .int v1, .int v2] S (some (.int w.1.1)) w.1.2) (S : CS) (v1 : Int32) (v2 : Int32) {w : (Int32 × CS) × Nat × Nat} (hw : fX11_doBlock rB S v1 v2 = some w) {mc ms : Nat} (hc : 0 + w.2.1 ≤ mc ∧ 0 + w.2.2 ≤ ms) : cC l yX11_doBlock cX11_doBlock 6 (some .int) (kB + 4) mc ms g [.ref (co g), .int v1, .int v2] S (some (.int w.1.1)) w.1.2 := cC_of (lv := [(0, .ref (co g)), (1, .int v1), (2, .int v2)]) (by decide +kernel) (Nat.le_of_ble_eq_true rfl) rfl (fun C K => tX11_doBlock_0 C K G rB kh hB S v1 v2 hw 0 0 hc)
/-- blocks in blocks: at most q of them -/
def blk : Nat → CS → Int32 → Int32 → Option ((Int32 × CS) × Nat × Nat)
  | 0, _, _, _ => none
  | q + 1, S, v1, v2 => fX11_doBlock (blk q) S v1 v2
def kq : Nat → Nat
  | 0 => 20
  | q + 1 => kq q + 4
theorem kq_ge : ∀ q, 20 ≤ kq q
  | 0 => Nat.le_refl _
  | q + 1 => Nat.le_trans (kq_ge q) (Nat.le_add_right _ _)
theorem gB_ok (l : Launch) {g : CG} (G : cSep g) : ∀ (q : Nat) (S : CS) (v1 v2 : Int32) (w : (Int32 × CS) × Nat × Nat), blk q S v1 v2 = some w → ∀ mc ms : Nat, 0 + w.2.1 ≤ mc ∧ 0 + w.2.2 ≤ ms → cC l yX11_doBlock cX11_doBlock 6 (some .int) (kq q) mc ms g [.ref (co g), .int v1, .int v2] S (some (.int w.1.1)) w.1.2
  | 0, S, v1, v2, w, h, mc, ms, hc => by cases h
  | q + 1, S, v1, v2, w, h, mc, ms, hc => pX11_doBlock l G (blk q) (kq_ge q) (gB_ok l G q) S v1 v2 h hc
theorem pX11_doBlockR (l : Launch) {g : CG} (G : cSep g) (S : CS) (v1 v2 : Int32) {w : (Int32 × CS) × Nat × Nat} (hw : blk 41 S v1 v2 = some w) {mc ms : Nat} (hc : 0 + w.2.1 ≤ mc ∧ 0 + w.2.2 ≤ ms) : cC l yX11_doBlock cX11_doBlock 6 (some .int) 184 mc ms g [.ref (co g), .int v1, .int v2] S (some (.int w.1.1)) w.1.2 := gB_ok l G 41 S v1 v2 w hw mc ms hc
/-! RobotCell.run(I)I -/
def fX11_run_11 (S : CS) : Option ((Int32 × CS) × Nat × Nat) :=
  some (((-1), S), 0, 0)
def fX11_run_48 (S : CS) : Option ((Int32 × CS) × Nat × Nat) :=
  some ((gI S.1 15, S), 0, 0)
def fX11_run_38 (S : CS) : Option ((Int32 × CS) × Nat × Nat) :=
  Option.bind (blk 41 S 0 1) (fun c42 => addD c42.2.1 c42.2.2 (fX11_run_48 (cpI c42.1.2 15 c42.1.1)))
def fX11_run_33 (S : CS) : Option ((Int32 × CS) × Nat × Nat) :=
  fX11_run_38 (cpI S 14 (-1))
def fX11_run_28 (S : CS) : Option ((Int32 × CS) × Nat × Nat) :=
  fX11_run_33 (cpI S 13 0)
def fX11_run_23 (S : CS) : Option ((Int32 × CS) × Nat × Nat) :=
  fX11_run_28 (cpI S 12 (-1))
def fX11_run_18 (S : CS) : Option ((Int32 × CS) × Nat × Nat) :=
  fX11_run_23 (cpI S 11 0)
def fX11_run (S : CS) (v1 : Int32) : Option ((Int32 × CS) × Nat × Nat) :=
  if v1 < 0 then fX11_run_11 S else (if v1 ≤ 20000 then fX11_run_18 (cpI S 10 v1) else fX11_run_11 S)
theorem oX11_run : ok_c yX11_run cX11_run 2 (some .int) 1 (.instanceMethod yX11_run) := ⟨kw_194, ⟨kw_192, rfl⟩, kw_71, by decide +kernel⟩
set_option maxRecDepth 100000 in
set_option maxHeartbeats 1000000 in
theorem tX11_run_11 {p : Program} {l : Launch} {e : Env} {s : State} {m : MethodId} {args : Array Value} {below : List Frame} {meth : Method} {c : Code} {g : CG} {S0 : CS} {mc ms : Nat} (C : CC p s m args meth c yX11_run cX11_run 2 (some .int)) (K : cK g s) (G : cSep g)  (S : CS) {w : (Int32 × CS) × Nat × Nat} (hv : fX11_run_11 S = some w) (cells slots : Nat) (hc : cells + w.2.1 ≤ mc ∧ slots + w.2.2 ≤ ms) : CJ p l e s m args below meth c 2 185 mc ms g S0 (some (.int w.1.1)) w.1.2 11 [] [] S cells slots := by
  unfold fX11_run_11 at hv
  refine jr_iconst (v := (-1)) C dX11_run_11 (by decide) ?_
  cases hv
  exact jc_iret C K dX11_run_12 rfl ⟨Nat.le_trans (Nat.le_add_right _ _) hc.1, Nat.le_trans (Nat.le_add_right _ _) hc.2⟩
set_option maxRecDepth 100000 in
set_option maxHeartbeats 1000000 in
theorem tX11_run_48 {p : Program} {l : Launch} {e : Env} {s : State} {m : MethodId} {args : Array Value} {below : List Frame} {meth : Method} {c : Code} {g : CG} {S0 : CS} {mc ms : Nat} (C : CC p s m args meth c yX11_run cX11_run 2 (some .int)) (K : cK g s) (G : cSep g)  (S : CS) {w : (Int32 × CS) × Nat × Nat} (hv : fX11_run_48 S = some w) (cells slots : Nat) (hc : cells + w.2.1 ≤ mc ∧ slots + w.2.2 ≤ ms) : CJ p l e s m args below meth c 2 185 mc ms g S0 (some (.int w.1.1)) w.1.2 48 [(0, .ref (co g))] [] S cells slots := by
  unfold fX11_run_48 at hv
  refine jr_aload_n C dX11_run_48 rfl 0 rfl ?_
  refine jc_getI C K 15 (by decide) rfl kw_137 rfl dX11_run_49 ?_
  cases hv
  exact jc_iret C K dX11_run_52 rfl ⟨Nat.le_trans (Nat.le_add_right _ _) hc.1, Nat.le_trans (Nat.le_add_right _ _) hc.2⟩
set_option maxRecDepth 100000 in
set_option maxHeartbeats 1000000 in
theorem tX11_run_38 {p : Program} {l : Launch} {e : Env} {s : State} {m : MethodId} {args : Array Value} {below : List Frame} {meth : Method} {c : Code} {g : CG} {S0 : CS} {mc ms : Nat} (C : CC p s m args meth c yX11_run cX11_run 2 (some .int)) (K : cK g s) (G : cSep g)  (S : CS) {w : (Int32 × CS) × Nat × Nat} (hv : fX11_run_38 S = some w) (cells slots : Nat) (hc : cells + w.2.1 ≤ mc ∧ slots + w.2.2 ≤ ms) : CJ p l e s m args below meth c 2 185 mc ms g S0 (some (.int w.1.1)) w.1.2 38 [(0, .ref (co g))] [] S cells slots := by
  unfold fX11_run_38 at hv
  refine jr_aload_n C dX11_run_38 rfl 0 rfl ?_
  refine jr_aload_n C dX11_run_39 rfl 0 rfl ?_
  refine jr_iconst (v := 0) C dX11_run_40 (by decide) ?_
  refine jr_iconst (v := 1) C dX11_run_41 (by decide) ?_
  obtain ⟨c42, hc42, hv⟩ := Option.bind_eq_some_iff.mp hv
  obtain ⟨w42, hv, e1, e2, e3⟩ := addD_of hv
  rw [← e1]
  have hr : cells + c42.2.1 ≤ mc ∧ slots + c42.2.2 ≤ ms := ⟨by omega, by omega⟩
  refine jc_callO (rest := [.ref (co g)]) C K (pX11_doBlockR l G S 0 1 hc42 ⟨Nat.le_of_eq (Nat.zero_add _), Nat.le_of_eq (Nat.zero_add _)⟩) oX11_doBlock kw_0 kw_195 rfl ⟨Nat.le_of_ble_eq_true rfl, Nat.le_of_ble_eq_true rfl⟩ rfl (Nat.le_of_ble_eq_true rfl) ⟨hr.1, hr.2⟩ dX11_run_42 ?_
  have hc : (cells + c42.2.1) + w42.2.1 ≤ mc ∧ (slots + c42.2.2) + w42.2.2 ≤ ms := ⟨by omega, by omega⟩
  refine jc_putI C K G 15 (by decide) rfl kw_137 rfl rfl (by decide +kernel) dX11_run_45 ?_
  exact tX11_run_48 C K G  (cpI c42.1.2 15 c42.1.1) hv _ _ hc
set_option maxRecDepth 100000 in
set_option maxHeartbeats 1000000 in
theorem tX11_run_33 {p : Program} {l : Launch} {e : Env} {s : State} {m : MethodId} {args : Array Value} {below : List Frame} {meth : Method} {c : Code} {g : CG} {S0 : CS} {mc ms : Nat} (C : CC p s m args meth c yX11_run cX11_run 2 (some .int)) (K : cK g s) (G : cSep g)  (S : CS) {w : (Int32 × CS) × Nat × Nat} (hv : fX11_run_33 S = some w) (cells slots : Nat) (hc : cells + w.2.1 ≤ mc ∧ slots + w.2.2 ≤ ms) : CJ p l e s m args below meth c 2 185 mc ms g S0 (some (.int w.1.1)) w.1.2 33 [(0, .ref (co g))] [] S cells slots := by
  unfold fX11_run_33 at hv
  refine jr_aload_n C dX11_run_33 rfl 0 rfl ?_
  refine jr_iconst (v := (-1)) C dX11_run_34 (by decide) ?_
  refine jc_putI C K G 14 (by decide) rfl kw_136 rfl rfl (by decide +kernel) dX11_run_35 ?_
  exact tX11_run_38 C K G  (cpI S 14 (-1)) hv _ _ hc
set_option maxRecDepth 100000 in
set_option maxHeartbeats 1000000 in
theorem tX11_run_28 {p : Program} {l : Launch} {e : Env} {s : State} {m : MethodId} {args : Array Value} {below : List Frame} {meth : Method} {c : Code} {g : CG} {S0 : CS} {mc ms : Nat} (C : CC p s m args meth c yX11_run cX11_run 2 (some .int)) (K : cK g s) (G : cSep g)  (S : CS) {w : (Int32 × CS) × Nat × Nat} (hv : fX11_run_28 S = some w) (cells slots : Nat) (hc : cells + w.2.1 ≤ mc ∧ slots + w.2.2 ≤ ms) : CJ p l e s m args below meth c 2 185 mc ms g S0 (some (.int w.1.1)) w.1.2 28 [(0, .ref (co g))] [] S cells slots := by
  unfold fX11_run_28 at hv
  refine jr_aload_n C dX11_run_28 rfl 0 rfl ?_
  refine jr_iconst (v := 0) C dX11_run_29 (by decide) ?_
  refine jc_putI C K G 13 (by decide) rfl kw_135 rfl rfl (by decide +kernel) dX11_run_30 ?_
  exact tX11_run_33 C K G  (cpI S 13 0) hv _ _ hc
set_option maxRecDepth 100000 in
set_option maxHeartbeats 1000000 in
theorem tX11_run_23 {p : Program} {l : Launch} {e : Env} {s : State} {m : MethodId} {args : Array Value} {below : List Frame} {meth : Method} {c : Code} {g : CG} {S0 : CS} {mc ms : Nat} (C : CC p s m args meth c yX11_run cX11_run 2 (some .int)) (K : cK g s) (G : cSep g)  (S : CS) {w : (Int32 × CS) × Nat × Nat} (hv : fX11_run_23 S = some w) (cells slots : Nat) (hc : cells + w.2.1 ≤ mc ∧ slots + w.2.2 ≤ ms) : CJ p l e s m args below meth c 2 185 mc ms g S0 (some (.int w.1.1)) w.1.2 23 [(0, .ref (co g))] [] S cells slots := by
  unfold fX11_run_23 at hv
  refine jr_aload_n C dX11_run_23 rfl 0 rfl ?_
  refine jr_iconst (v := (-1)) C dX11_run_24 (by decide) ?_
  refine jc_putI C K G 12 (by decide) rfl kw_134 rfl rfl (by decide +kernel) dX11_run_25 ?_
  exact tX11_run_28 C K G  (cpI S 12 (-1)) hv _ _ hc
set_option maxRecDepth 100000 in
set_option maxHeartbeats 1000000 in
theorem tX11_run_18 {p : Program} {l : Launch} {e : Env} {s : State} {m : MethodId} {args : Array Value} {below : List Frame} {meth : Method} {c : Code} {g : CG} {S0 : CS} {mc ms : Nat} (C : CC p s m args meth c yX11_run cX11_run 2 (some .int)) (K : cK g s) (G : cSep g)  (S : CS) {w : (Int32 × CS) × Nat × Nat} (hv : fX11_run_18 S = some w) (cells slots : Nat) (hc : cells + w.2.1 ≤ mc ∧ slots + w.2.2 ≤ ms) : CJ p l e s m args below meth c 2 185 mc ms g S0 (some (.int w.1.1)) w.1.2 18 [(0, .ref (co g))] [] S cells slots := by
  unfold fX11_run_18 at hv
  refine jr_aload_n C dX11_run_18 rfl 0 rfl ?_
  refine jr_iconst (v := 0) C dX11_run_19 (by decide) ?_
  refine jc_putI C K G 11 (by decide) rfl kw_133 rfl rfl (by decide +kernel) dX11_run_20 ?_
  exact tX11_run_23 C K G  (cpI S 11 0) hv _ _ hc
set_option maxRecDepth 100000 in
set_option maxHeartbeats 1000000 in
theorem tX11_run_0 {p : Program} {l : Launch} {e : Env} {s : State} {m : MethodId} {args : Array Value} {below : List Frame} {meth : Method} {c : Code} {g : CG} {S0 : CS} {mc ms : Nat} (C : CC p s m args meth c yX11_run cX11_run 2 (some .int)) (K : cK g s) (G : cSep g)  (S : CS) (v1 : Int32) {w : (Int32 × CS) × Nat × Nat} (hv : fX11_run S v1 = some w) (cells slots : Nat) (hc : cells + w.2.1 ≤ mc ∧ slots + w.2.2 ≤ ms) : CJ p l e s m args below meth c 2 185 mc ms g S0 (some (.int w.1.1)) w.1.2 0 [(0, .ref (co g)), (1, .int v1)] [] S cells slots := by
  unfold fX11_run at hv
  refine jr_iload_n C dX11_run_0 rfl 1 rfl ?_
  refine jr_if_lt (tgt := 11) C dX11_run_1 rfl (fun q1 => ?_) (fun q1 => ?_)
  · have hv := (if_pos q1).symm.trans hv
    exact jr_sub [] rfl (tX11_run_11 C K G  S hv _ _ hc)
  · have hv := (if_neg q1).symm.trans hv
    refine jr_iload_n C dX11_run_4 rfl 1 rfl ?_
    refine jr_sipush (v := 20000) C dX11_run_5 (by decide) ?_
    refine jr_icmp_le (tgt := 13) C dX11_run_8 rfl (fun q8 => ?_) (fun q8 => ?_)
    · have hv := (if_pos q8).symm.trans hv
      refine jr_aload_n C dX11_run_13 rfl 0 rfl ?_
      refine jr_iload_n C dX11_run_14 rfl 1 rfl ?_
      refine jc_putI C K G 10 (by decide) rfl kw_132 rfl rfl (by decide +kernel) dX11_run_15 ?_
      exact jr_sub [0] rfl (tX11_run_18 C K G  (cpI S 10 v1) hv _ _ hc)
    · have hv := (if_neg q8).symm.trans hv
      exact jr_sub [] rfl (tX11_run_11 C K G  S hv _ _ hc)
theorem pX11_run (l : Launch) {g : CG} (G : cSep g)   (S : CS) (v1 : Int32) {w : (Int32 × CS) × Nat × Nat} (hw : fX11_run S v1 = some w) {mc ms : Nat} (hc : 0 + w.2.1 ≤ mc ∧ 0 + w.2.2 ≤ ms) : cC l yX11_run cX11_run 2 (some .int) 185 mc ms g [.ref (co g), .int v1] S (some (.int w.1.1)) w.1.2 := cC_of (lv := [(0, .ref (co g)), (1, .int v1)]) (by decide +kernel) (Nat.le_of_ble_eq_true rfl) rfl (fun C K => tX11_run_0 C K G  S v1 hw 0 0 hc)
