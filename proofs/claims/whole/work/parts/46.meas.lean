/-! orders on measures, on both sides -/
section N
variable {w : Nat → Nat → Nat} {B : Nat} {S : CS} {M : MS}
theorem o_24_34 {o : Int32} (h1 : 24 ≤ o) (h2 : o ≤ 34) : o = 24 ∨ o = 25 ∨ o = 26 ∨ o = 27 ∨ o = 28 ∨ o = 29 ∨ o = 30 ∨ o = 31 ∨ o = 32 ∨ o = 33 ∨ o = 34 := by
  rw [Int32.le_iff_toInt_le] at h1 h2
  have e0 : (24 : Int32).toInt = 24 := by decide
  have e1 : (34 : Int32).toInt = 34 := by decide
  have key : ∀ k : Int, o.toInt = k → o = Int32.ofInt k := fun k h => by rw [← h, Int32.ofInt_toInt]
  have h : o.toInt = 24 ∨ o.toInt = 25 ∨ o.toInt = 26 ∨ o.toInt = 27 ∨ o.toInt = 28 ∨ o.toInt = 29 ∨ o.toInt = 30 ∨ o.toInt = 31 ∨ o.toInt = 32 ∨ o.toInt = 33 ∨ o.toInt = 34 := by omega
  rcases h with h9 | h9 | h9 | h9 | h9 | h9 | h9 | h9 | h9 | h9 | h9 <;> have h8 := key _ h9 <;> rw [h8] <;> decide
theorem lt8 {k : Nat} (hk : k < 8) : nI k = 0 ∨ nI k = 1 ∨ nI k = 2 ∨ nI k = 3 ∨ nI k = 4 ∨ nI k = 5 ∨ nI k = 6 ∨ nI k = 7 := by
  have h : k = 0 ∨ k = 1 ∨ k = 2 ∨ k = 3 ∨ k = 4 ∨ k = 5 ∨ k = 6 ∨ k = 7 := by omega
  rcases h with h9 | h9 | h9 | h9 | h9 | h9 | h9 | h9 <;> subst h9 <;> decide
theorem sim_toNum (R : Rel w B S M) (a c : Int32) {x : Int64} (hx : can64 x) : Sim w B S M (fX11_toNumber S a x (c &&& 7)) (fX12_toNumber M (a &&& 15) (c &&& 7) x) := by
  obtain ⟨k1_, h1_, h2_⟩ := and_7 c
  rw [h2_]
  have g : ∀ v : Int64, Sim w B S M (some (0, cpB S 16 (ra a) v)) (fX12_toNumber_108 M 3 (a &&& 15) v) := by
    intro v
    unfold fX12_toNumber_108 fX12_toNumber_109
    rw [if_pos (inb3 a)]
    exact sim_num R _ _
  have hl : fX2_isLost x = 0 ∨ ¬ fX2_isLost x = 0 := Decidable.em _
  rcases lt8 h1_ with h9 | h9 | h9 | h9 | h9 | h9 | h9 | h9 <;> rw [h9] <;> unfold fX11_toNumber fX12_toNumber fX11_toNumber_16 fX12_toNumber_15 fX12_toNumber_107 fX11_toNumber_121 <;> simp only [c_giveNum, Option.bind_some]
  · show Sim w B S M (if fX2_isLost x = 0 then some (0, cpB S 16 (ra a) (fX2_cut x)) else some (7, S)) (if fX12_isLost x = 0 then fX12_toNumber_108 M 3 (a &&& 15) (fX12_towards x (-9223372036854775808) 9223372036854775807) else some (7, M))
    rcases hl with l1_ | l1_
    · rw [if_pos l1_, if_pos (show fX12_isLost x = 0 from l1_), fl_tow64]; exact g _
    · rw [if_neg l1_, if_neg (show ¬ fX12_isLost x = 0 from l1_)]; exact sim_err R 7 (by decide)
  · show Sim w B S M (if fX2_isLost x = 0 then some (0, cpB S 16 (ra a) (fX11_within32 (fX2_cut x))) else some (7, S)) (if fX12_isLost x = 0 then fX12_toNumber_108 M 3 (a &&& 15) (fX12_towards x (-2147483648) 2147483647) else some (7, M))
    rcases hl with l1_ | l1_
    · rw [if_pos l1_, if_pos (show fX12_isLost x = 0 from l1_), fl_tow32]; exact g _
    · rw [if_neg l1_, if_neg (show ¬ fX12_isLost x = 0 from l1_)]; exact sim_err R 7 (by decide)
  · show Sim w B S M (if fX2_isLost x = 0 then some (0, cpB S 16 (ra a) (fX2_halfUp x)) else some (7, S)) (if fX12_isLost x = 0 then fX12_toNumber_108 M 3 (a &&& 15) (fX12_rounded x) else some (7, M))
    rcases hl with l1_ | l1_
    · rw [if_pos l1_, if_pos (show fX12_isLost x = 0 from l1_), fl_rnd x l1_]; exact g _
    · rw [if_neg l1_, if_neg (show ¬ fX12_isLost x = 0 from l1_)]; exact sim_err R 7 (by decide)
  · show Sim w B S M (some (0, cpB S 16 (ra a) x)) (fX12_toNumber_108 M 3 (a &&& 15) (fX12_one x))
    rw [fl_one x hx]; exact g _
  · show Sim w B S M (some (0, cpB S 16 (ra a) (fX2_toBits32 x).toInt64)) (Option.bind (fX12_smallBits x) (fun c85 => fX12_toNumber_108 M 3 (a &&& 15) c85))
    rw [fl_sbits x hx, Option.bind_some]; exact g _
  · show Sim w B S M (if fX2_isLost x = 0 then some (0, cpB S 16 (ra a) 0) else some (0, cpB S 16 (ra a) 1)) (if fX12_isLost x = 0 then fX12_toNumber_108 M 3 (a &&& 15) 0 else fX12_toNumber_108 M 3 (a &&& 15) 1)
    rcases hl with l1_ | l1_
    · rw [if_pos l1_, if_pos (show fX12_isLost x = 0 from l1_)]; exact g _
    · rw [if_neg l1_, if_neg (show ¬ fX12_isLost x = 0 from l1_)]; exact g _
  · exact g _
  · exact g _
theorem sim_toM (R : Rel w B S M) (a c : Int32) (v : Int64) : Sim w B S M (some (0, cpB S 17 (ra a) (fX11_toMeasure v (c &&& 3)))) (fX12_measures_296 M (a &&& 15) c v) := by
  obtain ⟨k1_, h1_, h2_⟩ := and_3 c
  have g : ∀ v : Int64, can64 v → Sim w B S M (some (0, cpB S 17 (ra a) v)) (fX12_measures_355 M 4 (a &&& 15) v) := by
    intro v hv
    unfold fX12_measures_355 fX12_measures_356
    rw [if_pos (inb4 a)]
    exact sim_mea R _ hv (mEq_refl M)
  unfold fX12_measures_296 fX11_toMeasure
  rw [h2_, fl_number, Option.bind_some, fl_froms, Option.bind_some, fl_whs, Option.bind_some, fl_oneOf]
  rcases lt8 (show k1_ < 8 by omega) with h9 | h9 | h9 | h9 | h9 | h9 | h9 | h9 <;> rw [h9]
  · exact g _ (can_whole _)
  · exact g _ (can_ofBits _)
  · exact g _ (can_ofb _)
  all_goals exact g _ (can_ofb _)
theorem sim_measure (R : Rel w B S M) {o : Int32} (h1 : 24 ≤ o) (h2 : o ≤ 34) (a b c : Int32) : Sim w B S M (fX11_onMeasures S o a b c) (fX12_measures M o (a &&& 15) b c) := by
  unfold fX11_onMeasures fX12_measures fX12_measures_11 fX12_measures_23
  rw [c_meaAt, Option.bind_some, c_meaAt, Option.bind_some, if_pos (inb4 b), if_pos (inb4 c)]
  have hb := rl_can R b
  have hc := rl_can R c
  have ha := rl_can R a
  have eb : gB M 4 (ix (b &&& 15)) = gB M 4 (ra b) := rfl
  have ec : gB M 4 (ix (c &&& 15)) = gB M 4 (ra c) := rfl
  rw [eb, ec, rl_mea R b, rl_mea R c]
  have key : ∀ (M1 : MS) (v : Int64), can64 v → mEq M M1 → Sim w B S M (some (0, cpB S 17 (ra a) v)) (if inb (a &&& 15) (mlB 4) = true then some (0, pB M1 4 (ix (a &&& 15)) v) else none) := by
    intro M1 v hv h
    rw [if_pos (inb4 a)]
    exact sim_mea R _ hv h
  have key0 : ∀ v : Int64, can64 v → Sim w B S M (some (0, cpB S 17 (ra a) v)) (if inb (a &&& 15) (mlB 4) = true then some (0, pB M 4 (ix (a &&& 15)) v) else none) := fun v hv => key M v hv (mEq_refl M)
  unfold fX12_measures_32
  simp only [c_two, c_numAt, rl_num R b, rl_num R c, rl_mea R c, rl_mea R a]
  generalize hx : gB M 4 (ra b) = x1 at hb ⊢
  generalize hy : gB M 4 (ra c) = y1 at hc ⊢
  obtain ⟨k7, g1_, g2_⟩ := and_7 (c >>> (4 &&& 31))
  obtain ⟨k15, g3_, g4_⟩ := and_15 c
  rcases o_24_34 h1 h2 with h9 | h9 | h9 | h9 | h9 | h9 | h9 | h9 | h9 | h9 | h9 <;> subst h9
  · obtain ⟨e1_, z1_, e2_⟩ := fl_quot (fX2_ofWhole b.toInt64) (fX2_ofWhole c.toInt64)
    show Sim w B S M (Option.bind (fX2_divide (fX2_ofWhole b.toInt64) (fX2_ofWhole c.toInt64)) (fun c93 => Option.bind (fX11_giveMeasure S a c93) (fun c96 => some (c96.1, c96.2)))) (Option.bind (fX12_number b.toInt64) (fun c95 => Option.bind (fX12_number c.toInt64) (fun c101 => Option.bind (fX12_quotient c95 c101) (fun c104 => if inb (a &&& 15) (mlB 4) = true then some (0, pB M 4 (ix (a &&& 15)) c104) else none))))
    rw [fl_number, Option.bind_some, fl_number, Option.bind_some, e1_, e2_, Option.bind_some, Option.bind_some, c_giveMea, Option.bind_some]
    exact key0 _ (can_div (can_whole _) (can_whole _) e2_)
  · show Sim w B S M (Option.bind (fX11_giveMeasure S a (fX2_add x1 y1)) (fun c109 => some (c109.1, c109.2))) (Option.bind (fX12_sum x1 y1) (fun c120 => if inb (a &&& 15) (mlB 4) = true then some (0, pB M 4 (ix (a &&& 15)) c120) else none))
    rw [c_giveMea, Option.bind_some, fl_sum, Option.bind_some]
    exact key0 _ (can_add hb hc)
  · show Sim w B S M (Option.bind (fX11_giveMeasure S a (fX2_subtract x1 y1)) (fun c109 => some (c109.1, c109.2))) (Option.bind (fX12_less x1 y1) (fun c120 => if inb (a &&& 15) (mlB 4) = true then some (0, pB M 4 (ix (a &&& 15)) c120) else none))
    rw [c_giveMea, Option.bind_some, fl_less, Option.bind_some]
    exact key0 _ (can_sub hb hc)
  · obtain ⟨M1_, e1_, e2_⟩ := fl_prod M x1 y1
    show Sim w B S M (Option.bind (fX11_giveMeasure S a (fX2_multiply x1 y1)) (fun c109 => some (c109.1, c109.2))) (Option.bind (fX12_product M x1 y1) (fun c153 => if inb (a &&& 15) (mlB 4) = true then some (0, pB c153.2 4 (ix (a &&& 15)) c153.1) else none))
    rw [c_giveMea, Option.bind_some, e1_, Option.bind_some]
    exact key _ _ (can_mul hb hc) e2_
  · obtain ⟨e1_, z1_, e2_⟩ := fl_quot x1 y1
    show Sim w B S M (Option.bind (fX2_divide x1 y1) (fun c93 => Option.bind (fX11_giveMeasure S a c93) (fun c96 => some (c96.1, c96.2)))) (Option.bind (fX12_quotient x1 y1) (fun c104 => if inb (a &&& 15) (mlB 4) = true then some (0, pB M 4 (ix (a &&& 15)) c104) else none))
    rw [e1_, e2_, Option.bind_some, Option.bind_some, c_giveMea, Option.bind_some]
    exact key0 _ (can_div hb hc e2_)
  · obtain ⟨e1_, z1_, e2_⟩ := fl_rem x1 y1
    show Sim w B S M (Option.bind (fX2_remainder x1 y1) (fun c93 => Option.bind (fX11_giveMeasure S a c93) (fun c96 => some (c96.1, c96.2)))) (Option.bind (fX12_remainder x1 y1) (fun c104 => if inb (a &&& 15) (mlB 4) = true then some (0, pB M 4 (ix (a &&& 15)) c104) else none))
    rw [e1_, e2_, Option.bind_some, Option.bind_some, c_giveMea, Option.bind_some]
    exact key0 _ (can_rem hb hc e2_)
  · obtain ⟨e1_, z1_, e2_⟩ := fl_single g3_ x1 hb
    show Sim w B S M (Option.bind (fX11_ofOne x1 (c &&& 15)) (fun c93 => Option.bind (fX11_giveMeasure S a c93) (fun c96 => some (c96.1, c96.2)))) (Option.bind (fX12_singled (c &&& 15) x1) (fun c104 => if inb (a &&& 15) (mlB 4) = true then some (0, pB M 4 (ix (a &&& 15)) c104) else none))
    rw [g4_, e1_, e2_, Option.bind_some, Option.bind_some, c_giveMea, Option.bind_some]
    exact key0 _ (can_ofOne g3_ hb e2_)
  · obtain ⟨M1_, e1_, e2_⟩ := fl_pair M g1_ x1 y1 (gB M 4 (ra a)) (gB M 3 (ra c)) hb hc
    show Sim w B S M (Option.bind (some (two64 ((c >>> (4 &&& 31)) &&& 7) x1 y1 (gB M 4 (ra a)) (gB M 3 (ra c)), S)) (fun c189 => Option.bind (fX11_giveMeasure c189.2 a c189.1) (fun c192 => some (c192.1, c192.2)))) (if inb (a &&& 15) (mlB 4) = true then (if inb (c &&& 15) (mlB 3) = true then (Option.bind (fX12_paired M ((c >>> (4 &&& 31)) &&& 7) x1 y1 (gB M 4 (ra a)) (gB M 3 (ra c))) (fun c239 => if inb (a &&& 15) (mlB 4) = true then some (0, pB c239.2 4 (ix (a &&& 15)) c239.1) else none)) else none) else none)
    rw [if_pos (inb4 a), if_pos (inb3 c), g2_, e1_, Option.bind_some, Option.bind_some, c_giveMea, Option.bind_some]
    exact key _ _ (can_two g1_ hb hc ha) e2_
  · show Sim w B S M (if (fX11_holds ((c >>> (4 &&& 31)) &&& 7) x1 y1) = 0 then fX11_onMeasures_220 S a 0 else fX11_onMeasures_220 S a 1) (if (fX12_test ((c >>> (4 &&& 31)) &&& 7) x1 y1) = 0 then fX12_measures_268 M 3 (a &&& 15) 0 else fX12_measures_268 M 3 (a &&& 15) 1)
    rw [g2_, fl_test g1_]
    have g : ∀ v : Int64, Sim w B S M (fX11_onMeasures_220 S a v) (fX12_measures_268 M 3 (a &&& 15) v) := by
      intro v
      unfold fX11_onMeasures_220 fX12_measures_268 fX12_measures_269 fX12_measures_356
      rw [c_giveNum, Option.bind_some, if_pos (inb3 a)]
      exact sim_num R _ _
    split
    · exact g 0
    · exact g 1
  · have ht := sim_toNum R a c hb
    show Sim w B S M (Option.bind (fX11_toNumber S a x1 (c &&& 7)) (fun c233 => some (c233.1, c233.2))) (Option.bind (fX12_toNumber M (a &&& 15) (c &&& 7) x1) (fun c281 => some (c281.1, c281.2)))
    obtain ⟨q1_, S1_, M1_, p1_, p2_, p3_, p4_⟩ := ht
    rw [p2_, p3_, Option.bind_some, Option.bind_some]
    exact ⟨q1_, S1_, M1_, p1_, rfl, rfl, p4_⟩
  · have ht := sim_toM R a c (gB M 3 (ra b))
    show Sim w B S M (Option.bind (some (gB M 3 (ra b), S)) (fun c244 => Option.bind (fX11_giveMeasure c244.2 a (fX11_toMeasure c244.1 (c &&& 3))) (fun c254 => some (c254.1, c254.2)))) (if inb (b &&& 15) (mlB 3) = true then fX12_measures_296 M (a &&& 15) c (gB M 3 (ra b)) else none)
    rw [Option.bind_some, c_giveMea, Option.bind_some, if_pos (inb3 b)]
    exact ht
end N
