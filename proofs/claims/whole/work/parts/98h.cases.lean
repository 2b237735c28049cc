/-! one turn of the law, a call of each kind -/
abbrev zlv (g : CG) (h : MG) (o b i : Nat) : List (Nat × Value) := [(4, .int (nI i)), (3, .ref o), (2, .ref (mo h)), (1, .ref (co g)), (0, .ref b)]
section ZC
variable {p : Program} {l : Launch} {e : Env} {s : State} {m : MethodId} {args : Array Value} {below : List Frame} {meth : Method} {c : Code} {Q : State → Prop} {S : CS} {M : MS} {f : Nat → Int64} {cells slots : Nat} {g : CG} {h : MG} {o b L i B : Nat} {xs : Nat → Int32}
/-- where a turn ends -/
def zE (p : Program) (l : Launch) (e : Env) (s : State) (m : MethodId) (args : Array Value) (below : List Frame) (meth : Method) (c : Code) (Q : State → Prop) (g : CG) (h : MG) (o b i B : Nat) (M : MS) (cells slots : Nat) : Prop := ∀ (S1 : CS) (M1 : MS) (f1 : Nat → Int64) (k q : Nat), Pb (B + 20000) S1 M1 → nT M ≤ nT M1 → k ≤ cells + 3 * (nT M1 - nT M) + 1 → q ≤ slots + 80 * (nT M1 - nT M) + 6 → JJ p l e room_1 s m args below meth c 8 (zW g h o s) Q 475 (zlv g h o b i) [] (S1, M1, f1) k q
set_option maxRecDepth 100000 in
theorem zc_0 (C : CC p s m args meth c yL_law cL_law 8 ret) (K : cK g s) (Km : mK h s) (G : cSep g) (Gm : mSep h) (X : va_X b L xs s s.heap) (hb : b < s.heap.size) (hi : i + 4 < L) (hL : L ≤ 2560) (hc : cells ≤ 500000) (hs : slots ≤ 6000000) (hB : B + 20000 ≤ 2000000000) (P : Pb B S M) (E : zE p l e s m args below meth c Q g h o b i B M cells slots) : JJ p l e room_1 s m args below meth c 8 (zW g h o s) Q 100 (zlv g h o b i) [] (S, M, f) cells slots := by
  obtain ⟨r, S1, M1, e1, e2, P1, hT⟩ := sim_order P (xs (i + 1)) (xs (i + 2)) (xs (i + 3)) (xs (i + 4))
  refine jr_aload_n C dL_law_100 rfl 3 rfl ?_
  refine jz_arg (k := 1) C X hb (by omega) hL 4 0 rfl rfl (by decide) dL_law_101 dL_law_102 dL_law_104 dL_law_105 dL_law_106 ?_
  refine jz_arg (k := 2) C X hb (by omega) hL 4 0 rfl rfl (by decide) dL_law_107 dL_law_108 dL_law_110 dL_law_111 dL_law_112 ?_
  refine jz_arg (k := 3) C X hb (by omega) hL 4 0 rfl rfl (by decide) dL_law_113 dL_law_114 dL_law_116 dL_law_117 dL_law_118 ?_
  refine jz_arg (k := 4) C X hb (by omega) hL 4 0 rfl rfl (by decide) dL_law_119 dL_law_120 dL_law_122 dL_law_123 dL_law_124 ?_
  refine jz_C (rest := []) C K (pX11_order l G S (xs (i + 1)) (xs (i + 2)) (xs (i + 3)) (xs (i + 4)) e1) oX11_order kw_173 kw_171 rfl ⟨Nat.le_of_ble_eq_true rfl, Nat.le_of_ble_eq_true rfl⟩ rfl (Nat.le_of_ble_eq_true rfl) ⟨by show _ ≤ 601024; omega, by show _ ≤ 7293034; omega⟩ dL_law_125 ?_
  refine jr_aload_n C dL_law_128 rfl 2 rfl ?_
  refine jz_arg (k := 1) C X hb (by omega) hL 4 0 rfl rfl (by decide) dL_law_129 dL_law_130 dL_law_132 dL_law_133 dL_law_134 ?_
  refine jz_arg (k := 2) C X hb (by omega) hL 4 0 rfl rfl (by decide) dL_law_135 dL_law_136 dL_law_138 dL_law_139 dL_law_140 ?_
  refine jz_arg (k := 3) C X hb (by omega) hL 4 0 rfl rfl (by decide) dL_law_141 dL_law_142 dL_law_144 dL_law_145 dL_law_146 ?_
  refine jz_arg (k := 4) C X hb (by omega) hL 4 0 rfl rfl (by decide) dL_law_147 dL_law_148 dL_law_150 dL_law_151 dL_law_152 ?_
  refine jz_M (rest := [.int r]) C Km (pX12_order l Gm M (xs (i + 1)) (xs (i + 2)) (xs (i + 3)) (xs (i + 4)) e2) oX12_order rfl kw_1574 rfl ⟨Nat.le_of_ble_eq_true rfl, Nat.le_of_ble_eq_true rfl⟩ rfl (Nat.le_of_ble_eq_true rfl) ⟨by show _ ≤ 601024; omega, by show _ ≤ 7293034; omega⟩ dL_law_153 ?_
  refine jr_icmp_eq (tgt := 475) C dL_law_156 rfl (fun _ => ?_) (fun q => absurd rfl q)
  exact E S1 M1 f _ _ (Pb_B P1 (by omega)) (by omega) (by omega) (by omega)
set_option maxRecDepth 100000 in
theorem zc_1 (C : CC p s m args meth c yL_law cL_law 8 ret) (K : cK g s) (Km : mK h s) (G : cSep g) (Gm : mSep h) (X : va_X b L xs s s.heap) (hb : b < s.heap.size) (hi : i + 4 < L) (hL : L ≤ 2560) (hc : cells ≤ 500000) (hs : slots ≤ 6000000) (hB : B + 20000 ≤ 2000000000) (P : Pb B S M) (E : zE p l e s m args below meth c Q g h o b i B M cells slots) : JJ p l e room_1 s m args below meth c 8 (zW g h o s) Q 161 (zlv g h o b i) [] (S, M, f) cells slots := by
  obtain ⟨S1, M1, e1, e2, P1, hT⟩ := sim_clear P
  refine jr_aload_n C dL_law_161 rfl 3 rfl ?_
  refine jz_C (rest := []) C K (pX11_clear l G S  e1) oX11_clear kw_177 kw_175 rfl ⟨Nat.le_of_ble_eq_true rfl, Nat.le_of_ble_eq_true rfl⟩ rfl (Nat.le_of_ble_eq_true rfl) ⟨by show _ ≤ 601024; omega, by show _ ≤ 7293034; omega⟩ dL_law_162 ?_
  refine jr_aload_n C dL_law_165 rfl 2 rfl ?_
  refine jz_M (rest := []) C Km (pX12_clear l Gm M  e2) oX12_clear rfl kw_1578 rfl ⟨Nat.le_of_ble_eq_true rfl, Nat.le_of_ble_eq_true rfl⟩ rfl (Nat.le_of_ble_eq_true rfl) ⟨by show _ ≤ 601024; omega, by show _ ≤ 7293034; omega⟩ dL_law_166 ?_
  refine jr_goto (tgt := 475) C dL_law_169 rfl ?_
  exact E S1 M1 f _ _ (Pb_B P1 (by omega)) (by omega) (by omega) (by omega)
set_option maxRecDepth 100000 in
theorem zc_2 (C : CC p s m args meth c yL_law cL_law 8 ret) (K : cK g s) (Km : mK h s) (G : cSep g) (Gm : mSep h) (X : va_X b L xs s s.heap) (hb : b < s.heap.size) (hi : i + 4 < L) (hL : L ≤ 2560) (hc : cells ≤ 500000) (hs : slots ≤ 6000000) (hB : B + 20000 ≤ 2000000000) (P : Pb B S M) (E : zE p l e s m args below meth c Q g h o b i B M cells slots) : JJ p l e room_1 s m args below meth c 8 (zW g h o s) Q 172 (zlv g h o b i) [] (S, M, f) cells slots := by
  obtain ⟨S1, M1, e1, e2, P1, hT⟩ := sim_number P (xs (i + 1)) (xs (i + 2)) (xs (i + 3))
  refine jr_aload_n C dL_law_172 rfl 3 rfl ?_
  refine jz_arg (k := 1) C X hb (by omega) hL 4 0 rfl rfl (by decide) dL_law_173 dL_law_174 dL_law_176 dL_law_177 dL_law_178 ?_
  refine jz_arg (k := 2) C X hb (by omega) hL 4 0 rfl rfl (by decide) dL_law_179 dL_law_180 dL_law_182 dL_law_183 dL_law_184 ?_
  refine jz_arg (k := 3) C X hb (by omega) hL 4 0 rfl rfl (by decide) dL_law_185 dL_law_186 dL_law_188 dL_law_189 dL_law_190 ?_
  refine jz_C (rest := []) C K (pX11_number l G S (xs (i + 1)) (xs (i + 2)) (xs (i + 3)) e1) oX11_number kw_181 kw_179 rfl ⟨Nat.le_of_ble_eq_true rfl, Nat.le_of_ble_eq_true rfl⟩ rfl (Nat.le_of_ble_eq_true rfl) ⟨by show _ ≤ 601024; omega, by show _ ≤ 7293034; omega⟩ dL_law_191 ?_
  refine jr_aload_n C dL_law_194 rfl 2 rfl ?_
  refine jz_arg (k := 1) C X hb (by omega) hL 4 0 rfl rfl (by decide) dL_law_195 dL_law_196 dL_law_198 dL_law_199 dL_law_200 ?_
  refine jz_arg (k := 2) C X hb (by omega) hL 4 0 rfl rfl (by decide) dL_law_201 dL_law_202 dL_law_204 dL_law_205 dL_law_206 ?_
  refine jz_arg (k := 3) C X hb (by omega) hL 4 0 rfl rfl (by decide) dL_law_207 dL_law_208 dL_law_210 dL_law_211 dL_law_212 ?_
  refine jz_M (rest := []) C Km (pX12_number_ l Gm M (xs (i + 1)) (xs (i + 2)) (xs (i + 3)) e2) oX12_number_ rfl kw_1582 rfl ⟨Nat.le_of_ble_eq_true rfl, Nat.le_of_ble_eq_true rfl⟩ rfl (Nat.le_of_ble_eq_true rfl) ⟨by show _ ≤ 601024; omega, by show _ ≤ 7293034; omega⟩ dL_law_213 ?_
  refine jr_goto (tgt := 475) C dL_law_216 rfl ?_
  exact E S1 M1 f _ _ (Pb_B P1 (by omega)) (by omega) (by omega) (by omega)
set_option maxRecDepth 100000 in
theorem zc_3 (C : CC p s m args meth c yL_law cL_law 8 ret) (K : cK g s) (Km : mK h s) (G : cSep g) (Gm : mSep h) (X : va_X b L xs s s.heap) (hb : b < s.heap.size) (hi : i + 4 < L) (hL : L ≤ 2560) (hc : cells ≤ 500000) (hs : slots ≤ 6000000) (hB : B + 20000 ≤ 2000000000) (P : Pb B S M) (E : zE p l e s m args below meth c Q g h o b i B M cells slots) : JJ p l e room_1 s m args below meth c 8 (zW g h o s) Q 219 (zlv g h o b i) [] (S, M, f) cells slots := by
  obtain ⟨r, S1, M1, k0, q0, e1, e2, P1, hT, hk0, hq0⟩ := sim_run P hB (xs (i + 1))
  have h4 := Pb_4000 P1
  have hk1 : 0 + k0 ≤ 3 * (nT M1 - nT M) ∧ 0 + q0 ≤ 80 * (nT M1 - nT M) := ⟨by omega, by omega⟩
  refine jr_aload_n C dL_law_219 rfl 3 rfl ?_
  refine jz_arg (k := 1) C X hb (by omega) hL 4 0 rfl rfl (by decide) dL_law_220 dL_law_221 dL_law_223 dL_law_224 dL_law_225 ?_
  refine jz_C (rest := []) C K (pX11_run l G S (xs (i + 1)) e1 (mc := 3 * (nT M1 - nT M)) (ms := 80 * (nT M1 - nT M)) hk1) oX11_run kw_193 kw_191 rfl ⟨Nat.le_of_ble_eq_true rfl, Nat.le_of_ble_eq_true rfl⟩ rfl (Nat.le_of_ble_eq_true rfl) ⟨by show _ ≤ 601024; omega, by show _ ≤ 7293034; omega⟩ dL_law_226 ?_
  refine jr_aload_n C dL_law_229 rfl 2 rfl ?_
  refine jz_arg (k := 1) C X hb (by omega) hL 4 0 rfl rfl (by decide) dL_law_230 dL_law_231 dL_law_233 dL_law_234 dL_law_235 ?_
  refine jz_M (rest := [.int r]) C Km (pX12_run l Gm M (xs (i + 1)) e2) oX12_run rfl kw_1164 rfl ⟨Nat.le_of_ble_eq_true rfl, Nat.le_of_ble_eq_true rfl⟩ rfl (Nat.le_of_ble_eq_true rfl) ⟨by show _ ≤ 601024; omega, by show _ ≤ 7293034; omega⟩ dL_law_236 ?_
  refine jr_icmp_eq (tgt := 475) C dL_law_239 rfl (fun _ => ?_) (fun q => absurd rfl q)
  exact E S1 M1 f _ _ P1 hT (by omega) (by omega)
set_option maxRecDepth 100000 in
theorem zc_4 (C : CC p s m args meth c yL_law cL_law 8 ret) (K : cK g s) (Km : mK h s) (G : cSep g) (Gm : mSep h) (X : va_X b L xs s s.heap) (hb : b < s.heap.size) (hi : i + 4 < L) (hL : L ≤ 2560) (hc : cells ≤ 500000) (hs : slots ≤ 6000000) (hB : B + 20000 ≤ 2000000000) (P : Pb B S M) (E : zE p l e s m args below meth c Q g h o b i B M cells slots) : JJ p l e room_1 s m args below meth c 8 (zW g h o s) Q 244 (zlv g h o b i) [] (S, M, f) cells slots := by
  obtain ⟨r, e1, e2⟩ := sim_fault P (xs (i + 1))
  refine jr_aload_n C dL_law_244 rfl 3 rfl ?_
  refine jz_arg (k := 1) C X hb (by omega) hL 4 0 rfl rfl (by decide) dL_law_245 dL_law_246 dL_law_248 dL_law_249 dL_law_250 ?_
  refine jz_C (rest := []) C K (pX11_fault l G S (xs (i + 1)) e1) oX11_fault kw_1028 kw_1026 rfl ⟨Nat.le_of_ble_eq_true rfl, Nat.le_of_ble_eq_true rfl⟩ rfl (Nat.le_of_ble_eq_true rfl) ⟨by show _ ≤ 601024; omega, by show _ ≤ 7293034; omega⟩ dL_law_251 ?_
  refine jr_aload_n C dL_law_254 rfl 2 rfl ?_
  refine jz_arg (k := 1) C X hb (by omega) hL 4 0 rfl rfl (by decide) dL_law_255 dL_law_256 dL_law_258 dL_law_259 dL_law_260 ?_
  refine jz_M (rest := [.int r]) C Km (pX12_fault l Gm M (xs (i + 1)) e2) oX12_fault rfl kw_1586 rfl ⟨Nat.le_of_ble_eq_true rfl, Nat.le_of_ble_eq_true rfl⟩ rfl (Nat.le_of_ble_eq_true rfl) ⟨by show _ ≤ 601024; omega, by show _ ≤ 7293034; omega⟩ dL_law_261 ?_
  refine jr_icmp_eq (tgt := 475) C dL_law_264 rfl (fun _ => ?_) (fun q => absurd rfl q)
  exact E S (pI M 0 0) f _ _ (Pb_B (Pb_0 P) (by omega)) (by rw [nT_0]; exact Nat.le_refl _) (by omega) (by omega)
set_option maxRecDepth 100000 in
theorem zc_5 (C : CC p s m args meth c yL_law cL_law 8 ret) (K : cK g s) (Km : mK h s) (G : cSep g) (Gm : mSep h) (X : va_X b L xs s s.heap) (hb : b < s.heap.size) (hi : i + 4 < L) (hL : L ≤ 2560) (hc : cells ≤ 500000) (hs : slots ≤ 6000000) (hB : B + 20000 ≤ 2000000000) (P : Pb B S M) (E : zE p l e s m args below meth c Q g h o b i B M cells slots) : JJ p l e room_1 s m args below meth c 8 (zW g h o s) Q 269 (zlv g h o b i) [] (S, M, f) cells slots := by
  obtain ⟨r, e1, e2⟩ := sim_told P (xs (i + 1))
  refine jr_aload_n C dL_law_269 rfl 3 rfl ?_
  refine jz_arg (k := 1) C X hb (by omega) hL 4 0 rfl rfl (by decide) dL_law_270 dL_law_271 dL_law_273 dL_law_274 dL_law_275 ?_
  refine jz_C (rest := []) C K (pX11_told l G S (xs (i + 1)) e1) oX11_told kw_1032 kw_1030 rfl ⟨Nat.le_of_ble_eq_true rfl, Nat.le_of_ble_eq_true rfl⟩ rfl (Nat.le_of_ble_eq_true rfl) ⟨by show _ ≤ 601024; omega, by show _ ≤ 7293034; omega⟩ dL_law_276 ?_
  refine jr_aload_n C dL_law_279 rfl 2 rfl ?_
  refine jz_arg (k := 1) C X hb (by omega) hL 4 0 rfl rfl (by decide) dL_law_280 dL_law_281 dL_law_283 dL_law_284 dL_law_285 ?_
  refine jz_M (rest := [.long r]) C Km (pX12_told l Gm M (xs (i + 1)) e2) oX12_told rfl kw_1590 rfl ⟨Nat.le_of_ble_eq_true rfl, Nat.le_of_ble_eq_true rfl⟩ rfl (Nat.le_of_ble_eq_true rfl) ⟨by show _ ≤ 601024; omega, by show _ ≤ 7293034; omega⟩ dL_law_286 ?_
  refine jr_lcmp_eq (tgt := 475) C dL_law_289 dL_law_290 rfl (fun _ => ?_) (fun q => absurd rfl q)
  exact E S (pI M 0 0) f _ _ (Pb_B (Pb_0 P) (by omega)) (by rw [nT_0]; exact Nat.le_refl _) (by omega) (by omega)
set_option maxRecDepth 100000 in
theorem zc_6 (C : CC p s m args meth c yL_law cL_law 8 ret) (K : cK g s) (Km : mK h s) (G : cSep g) (Gm : mSep h) (X : va_X b L xs s s.heap) (hb : b < s.heap.size) (hi : i + 4 < L) (hL : L ≤ 2560) (hc : cells ≤ 500000) (hs : slots ≤ 6000000) (hB : B + 20000 ≤ 2000000000) (P : Pb B S M) (E : zE p l e s m args below meth c Q g h o b i B M cells slots) : JJ p l e room_1 s m args below meth c 8 (zW g h o s) Q 295 (zlv g h o b i) [] (S, M, f) cells slots := by
  obtain ⟨r, e1, e2⟩ := sim_bits P (xs (i + 1))
  refine jr_aload_n C dL_law_295 rfl 3 rfl ?_
  refine jz_arg (k := 1) C X hb (by omega) hL 4 0 rfl rfl (by decide) dL_law_296 dL_law_297 dL_law_299 dL_law_300 dL_law_301 ?_
  refine jz_C (rest := []) C K (pX11_bits l G S (xs (i + 1)) e1) oX11_bits kw_1036 kw_1034 rfl ⟨Nat.le_of_ble_eq_true rfl, Nat.le_of_ble_eq_true rfl⟩ rfl (Nat.le_of_ble_eq_true rfl) ⟨by show _ ≤ 601024; omega, by show _ ≤ 7293034; omega⟩ dL_law_302 ?_
  refine jr_aload_n C dL_law_305 rfl 2 rfl ?_
  refine jz_arg (k := 1) C X hb (by omega) hL 4 0 rfl rfl (by decide) dL_law_306 dL_law_307 dL_law_309 dL_law_310 dL_law_311 ?_
  refine jz_M (rest := [.long r]) C Km (pX12_bits l Gm M (xs (i + 1)) e2) oX12_bits rfl kw_1594 rfl ⟨Nat.le_of_ble_eq_true rfl, Nat.le_of_ble_eq_true rfl⟩ rfl (Nat.le_of_ble_eq_true rfl) ⟨by show _ ≤ 601024; omega, by show _ ≤ 7293034; omega⟩ dL_law_312 ?_
  refine jr_lcmp_eq (tgt := 475) C dL_law_315 dL_law_316 rfl (fun _ => ?_) (fun q => absurd rfl q)
  exact E S (pI M 0 0) f _ _ (Pb_B (Pb_0 P) (by omega)) (by rw [nT_0]; exact Nat.le_refl _) (by omega) (by omega)
set_option maxRecDepth 100000 in
theorem zc_7 (C : CC p s m args meth c yL_law cL_law 8 ret) (K : cK g s) (Km : mK h s) (G : cSep g) (Gm : mSep h) (X : va_X b L xs s s.heap) (hb : b < s.heap.size) (hi : i + 4 < L) (hL : L ≤ 2560) (hc : cells ≤ 500000) (hs : slots ≤ 6000000) (hB : B + 20000 ≤ 2000000000) (P : Pb B S M) (E : zE p l e s m args below meth c Q g h o b i B M cells slots) : JJ p l e room_1 s m args below meth c 8 (zW g h o s) Q 321 (zlv g h o b i) [] (S, M, f) cells slots := by
  obtain ⟨r, e1, e2⟩ := sim_slot P (xs (i + 1)) (xs (i + 2))
  refine jr_aload_n C dL_law_321 rfl 3 rfl ?_
  refine jz_arg (k := 1) C X hb (by omega) hL 4 0 rfl rfl (by decide) dL_law_322 dL_law_323 dL_law_325 dL_law_326 dL_law_327 ?_
  refine jz_arg (k := 2) C X hb (by omega) hL 4 0 rfl rfl (by decide) dL_law_328 dL_law_329 dL_law_331 dL_law_332 dL_law_333 ?_
  refine jz_C (rest := []) C K (pX11_slot l G S (xs (i + 1)) (xs (i + 2)) e1) oX11_slot kw_1040 kw_1038 rfl ⟨Nat.le_of_ble_eq_true rfl, Nat.le_of_ble_eq_true rfl⟩ rfl (Nat.le_of_ble_eq_true rfl) ⟨by show _ ≤ 601024; omega, by show _ ≤ 7293034; omega⟩ dL_law_334 ?_
  refine jr_aload_n C dL_law_337 rfl 2 rfl ?_
  refine jz_arg (k := 1) C X hb (by omega) hL 4 0 rfl rfl (by decide) dL_law_338 dL_law_339 dL_law_341 dL_law_342 dL_law_343 ?_
  refine jz_arg (k := 2) C X hb (by omega) hL 4 0 rfl rfl (by decide) dL_law_344 dL_law_345 dL_law_347 dL_law_348 dL_law_349 ?_
  refine jz_M (rest := [.int r]) C Km (pX12_slot l Gm M (xs (i + 1)) (xs (i + 2)) e2) oX12_slot rfl kw_1598 rfl ⟨Nat.le_of_ble_eq_true rfl, Nat.le_of_ble_eq_true rfl⟩ rfl (Nat.le_of_ble_eq_true rfl) ⟨by show _ ≤ 601024; omega, by show _ ≤ 7293034; omega⟩ dL_law_350 ?_
  refine jr_icmp_eq (tgt := 475) C dL_law_353 rfl (fun _ => ?_) (fun q => absurd rfl q)
  exact E S (pI M 0 0) f _ _ (Pb_B (Pb_0 P) (by omega)) (by rw [nT_0]; exact Nat.le_refl _) (by omega) (by omega)
set_option maxRecDepth 100000 in
theorem zc_9 (C : CC p s m args meth c yL_law cL_law 8 ret) (K : cK g s) (Km : mK h s) (G : cSep g) (Gm : mSep h) (X : va_X b L xs s s.heap) (hb : b < s.heap.size) (hi : i + 4 < L) (hL : L ≤ 2560) (hc : cells ≤ 500000) (hs : slots ≤ 6000000) (hB : B + 20000 ≤ 2000000000) (P : Pb B S M) (E : zE p l e s m args below meth c Q g h o b i B M cells slots) : JJ p l e room_1 s m args below meth c 8 (zW g h o s) Q 425 (zlv g h o b i) [] (S, M, f) cells slots := by
  obtain ⟨r, e1, e2⟩ := sim_logged P (xs (i + 1))
  refine jr_aload_n C dL_law_425 rfl 3 rfl ?_
  refine jz_arg (k := 1) C X hb (by omega) hL 4 0 rfl rfl (by decide) dL_law_426 dL_law_427 dL_law_429 dL_law_430 dL_law_431 ?_
  refine jz_C (rest := []) C K (pX11_logged l G S (xs (i + 1)) e1) oX11_logged kw_1048 kw_1046 rfl ⟨Nat.le_of_ble_eq_true rfl, Nat.le_of_ble_eq_true rfl⟩ rfl (Nat.le_of_ble_eq_true rfl) ⟨by show _ ≤ 601024; omega, by show _ ≤ 7293034; omega⟩ dL_law_432 ?_
  refine jr_aload_n C dL_law_435 rfl 2 rfl ?_
  refine jz_arg (k := 1) C X hb (by omega) hL 4 0 rfl rfl (by decide) dL_law_436 dL_law_437 dL_law_439 dL_law_440 dL_law_441 ?_
  refine jz_M (rest := [.long r]) C Km (pX12_logged l Gm M (xs (i + 1)) e2) oX12_logged rfl kw_1607 rfl ⟨Nat.le_of_ble_eq_true rfl, Nat.le_of_ble_eq_true rfl⟩ rfl (Nat.le_of_ble_eq_true rfl) ⟨by show _ ≤ 601024; omega, by show _ ≤ 7293034; omega⟩ dL_law_442 ?_
  refine jr_lcmp_eq (tgt := 475) C dL_law_445 dL_law_446 rfl (fun _ => ?_) (fun q => absurd rfl q)
  exact E S (pI M 0 0) f _ _ (Pb_B (Pb_0 P) (by omega)) (by rw [nT_0]; exact Nat.le_refl _) (by omega) (by omega)
set_option maxRecDepth 100000 in
theorem zc_10 (C : CC p s m args meth c yL_law cL_law 8 ret) (K : cK g s) (Km : mK h s) (G : cSep g) (Gm : mSep h) (X : va_X b L xs s s.heap) (hb : b < s.heap.size) (hi : i + 4 < L) (hL : L ≤ 2560) (hc : cells ≤ 500000) (hs : slots ≤ 6000000) (hB : B + 20000 ≤ 2000000000) (P : Pb B S M) (E : zE p l e s m args below meth c Q g h o b i B M cells slots) : JJ p l e room_1 s m args below meth c 8 (zW g h o s) Q 451 (zlv g h o b i) [] (S, M, f) cells slots := by
  obtain ⟨r, e1, e2⟩ := sim_logs P 
  refine jr_aload_n C dL_law_451 rfl 3 rfl ?_
  refine jz_C (rest := []) C K (pX11_logs l G S  e1) oX11_logs kw_1052 kw_1050 rfl ⟨Nat.le_of_ble_eq_true rfl, Nat.le_of_ble_eq_true rfl⟩ rfl (Nat.le_of_ble_eq_true rfl) ⟨by show _ ≤ 601024; omega, by show _ ≤ 7293034; omega⟩ dL_law_452 ?_
  refine jr_aload_n C dL_law_455 rfl 2 rfl ?_
  refine jz_M (rest := [.int r]) C Km (pX12_logs l Gm M  e2) oX12_logs rfl kw_1611 rfl ⟨Nat.le_of_ble_eq_true rfl, Nat.le_of_ble_eq_true rfl⟩ rfl (Nat.le_of_ble_eq_true rfl) ⟨by show _ ≤ 601024; omega, by show _ ≤ 7293034; omega⟩ dL_law_456 ?_
  refine jr_icmp_eq (tgt := 475) C dL_law_459 rfl (fun _ => ?_) (fun q => absurd rfl q)
  exact E S (pI M 0 0) f _ _ (Pb_B (Pb_0 P) (by omega)) (by rw [nT_0]; exact Nat.le_refl _) (by omega) (by omega)
set_option maxRecDepth 100000 in
theorem zc_11 (C : CC p s m args meth c yL_law cL_law 8 ret) (K : cK g s) (Km : mK h s) (G : cSep g) (Gm : mSep h) (X : va_X b L xs s s.heap) (hb : b < s.heap.size) (hi : i + 4 < L) (hL : L ≤ 2560) (hc : cells ≤ 500000) (hs : slots ≤ 6000000) (hB : B + 20000 ≤ 2000000000) (P : Pb B S M) (E : zE p l e s m args below meth c Q g h o b i B M cells slots) : JJ p l e room_1 s m args below meth c 8 (zW g h o s) Q 464 (zlv g h o b i) [] (S, M, f) cells slots := by
  obtain ⟨S1, M1, e1, e2, P1, hT⟩ := sim_reset P
  refine jr_aload_n C dL_law_464 rfl 3 rfl ?_
  refine jz_C (rest := []) C K (pX11_reset l G S  e1) oX11_reset kw_1056 kw_1054 rfl ⟨Nat.le_of_ble_eq_true rfl, Nat.le_of_ble_eq_true rfl⟩ rfl (Nat.le_of_ble_eq_true rfl) ⟨by show _ ≤ 601024; omega, by show _ ≤ 7293034; omega⟩ dL_law_465 ?_
  refine jr_aload_n C dL_law_468 rfl 2 rfl ?_
  refine jz_M (rest := []) C Km (pX12_reset l Gm M  e2) oX12_reset rfl kw_1615 rfl ⟨Nat.le_of_ble_eq_true rfl, Nat.le_of_ble_eq_true rfl⟩ rfl (Nat.le_of_ble_eq_true rfl) ⟨by show _ ≤ 601024; omega, by show _ ≤ 7293034; omega⟩ dL_law_469 ?_
  refine jr_goto (tgt := 475) C dL_law_472 rfl ?_
  exact E S1 M1 f _ _ (Pb_B P1 (by omega)) (by omega) (by omega) (by omega)
set_option maxRecDepth 100000 in
theorem zc_8 (C : CC p s m args meth c yL_law cL_law 8 ret) (K : cK g s) (Km : mK h s) (G : cSep g) (Gm : mSep h) (X : va_X b L xs s s.heap) (hb : b < s.heap.size) (hi : i + 4 < L) (hL : L ≤ 2560) (hc : cells ≤ 500000) (hs : slots ≤ 6000000) (hB : B + 20000 ≤ 2000000000) (P : Pb B S M) (E : zE p l e s m args below meth c Q g h o b i B M cells slots) (hl : l.stackTraces = false) (hu : xU (zA s) s s.heap) (hn : va_Nc xIOB xISE s) : JJ p l e room_1 s m args below meth c 8 (zW g h o s) Q 358 (zlv g h o b i) [] (S, M, f) cells slots := by
  obtain ⟨k, x, x1, e1, e2, e3⟩ := sim_place P (xs (i + 1)) (xs (i + 2))
  refine jr_aload_n C dL_law_358 rfl 3 rfl ?_
  refine jz_arg (k := 1) C X hb (by omega) hL 4 0 rfl rfl (by decide) dL_law_359 dL_law_360 dL_law_362 dL_law_363 dL_law_364 ?_
  refine jz_arg (k := 2) C X hb (by omega) hL 4 0 rfl rfl (by decide) dL_law_365 dL_law_366 dL_law_368 dL_law_369 dL_law_370 ?_
  refine jr_aload_n C dL_law_371 rfl 1 rfl ?_
  refine jz_P (rest := []) C K G hl hu hn e1 kw_1065 ⟨Nat.le_of_ble_eq_true rfl, Nat.le_of_ble_eq_true rfl⟩ (Nat.le_of_ble_eq_true rfl) ⟨by show _ ≤ 601024; omega, by show _ ≤ 7293034; omega⟩ dL_law_372 (fun z f1 hz hf => ?_)
  refine jr_istore (i := 5) (lv' := (5, .int k) :: zlv g h o b i) C dL_law_375 (by decide) rfl ?_
  refine jr_aload_n C dL_law_377 rfl 3 rfl ?_
  refine jz_arg (k := 1) C X hb (by omega) hL 5 1 rfl rfl (by decide) dL_law_378 dL_law_379 dL_law_381 dL_law_382 dL_law_383 ?_
  refine jz_arg (k := 2) C X hb (by omega) hL 5 1 rfl rfl (by decide) dL_law_384 dL_law_385 dL_law_387 dL_law_388 dL_law_389 ?_
  refine jz_M (rest := []) C Km (pX12_place l Gm M (xs (i + 1)) (xs (i + 2)) e2) oX12_place rfl kw_1602 rfl ⟨Nat.le_of_ble_eq_true rfl, Nat.le_of_ble_eq_true rfl⟩ rfl (Nat.le_of_ble_eq_true rfl) ⟨by show _ ≤ 601024; omega, by show _ ≤ 7293034; omega⟩ dL_law_390 ?_
  refine jr_lstore (i := 6) (lv' := (6, .long x1) :: (5, .int k) :: zlv g h o b i) C dL_law_393 (by decide) rfl ?_
  refine jr_aload_n C dL_law_395 rfl 4 rfl ?_
  refine jz_M (rest := []) C Km (pX12_thrown l Gm (pI M 0 k) (w := k) (S' := pI M 0 k) (by unfold fX12_thrown; rw [gI_pI])) oX12_thrown rfl kw_1160 rfl ⟨Nat.le_of_ble_eq_true rfl, Nat.le_of_ble_eq_true rfl⟩ rfl (Nat.le_of_ble_eq_true rfl) ⟨by show _ ≤ 601024; omega, by show _ ≤ 7293034; omega⟩ dL_law_396 ?_
  refine jr_iload C dL_law_399 1 rfl ?_
  refine jr_icmp_eq (tgt := 406) C dL_law_401 rfl (fun _ => ?_) (fun q => absurd rfl q)
  have fin : JJ p l e room_1 s m args below meth c 8 (zW g h o s) Q 422 ((6, .long x1) :: (5, .int k) :: zlv g h o b i) [] (cZ S z, pI M 0 k, f1) (cells + 1) (slots + 6) := by
    refine jr_goto (tgt := 475) C dL_law_422 rfl ?_
    refine jz_lv (lv' := zlv g h o b i) [2, 3, 4, 5, 6] rfl ?_
    exact E (cZ S z) (pI M 0 k) f1 _ _ (Pb_B (Pb_Z (Pb_0 P) hz) (by omega)) (by rw [nT_0]; exact Nat.le_refl _) (by omega) (by omega)
  refine jr_iload C dL_law_406 1 rfl ?_
  refine jr_if_ne (tgt := 422) C dL_law_408 rfl (fun _ => fin) (fun hk => ?_)
  refine jr_aload_n C dL_law_411 rfl 3 rfl ?_
  refine jr_iconst (v := 0) C dL_law_412 (by decide) ?_
  refine jz_out C K dL_law_413 ?_
  refine jr_lload C dL_law_414 0 rfl ?_
  refine jr_lcmp_eq (tgt := 422) C dL_law_416 dL_law_417 rfl (fun _ => fin) (fun q => absurd ?_ q)
  rw [hf hk]
  rcases e3 with e3 | e3 | e3
  · exact e3.2
  · rw [hk] at e3; exact absurd e3 (by decide)
  · rw [hk] at e3; exact absurd e3 (by decide)
end ZC
