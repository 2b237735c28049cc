/-! the orders that make things -/
section N
variable {w : Nat → Nat → Nat} {B : Nat} {S : CS} {M : MS}
theorem o_int {o : Int32} (k : Int) (h : o.toInt = k) : o = Int32.ofInt k := by rw [← h, Int32.ofInt_toInt]
theorem o_40_47 {o : Int32} (h1 : 40 ≤ o) (h2 : o ≤ 47) : o = 40 ∨ o = 41 ∨ o = 42 ∨ o = 43 ∨ o = 44 ∨ o = 45 ∨ o = 46 ∨ o = 47 := by
  rw [Int32.le_iff_toInt_le] at h1 h2
  have e0 : (40 : Int32).toInt = 40 := by decide
  have e1 : (47 : Int32).toInt = 47 := by decide
  have h : o.toInt = 40 ∨ o.toInt = 41 ∨ o.toInt = 42 ∨ o.toInt = 43 ∨ o.toInt = 44 ∨ o.toInt = 45 ∨ o.toInt = 46 ∨ o.toInt = 47 := by omega
  rcases h with h9 | h9 | h9 | h9 | h9 | h9 | h9 | h9 <;> have h8 := o_int _ h9 <;> rw [h8] <;> decide
theorem o_80_84 {o : Int32} (h1 : 80 ≤ o) (h2 : o ≤ 84) : o = 80 ∨ o = 81 ∨ o = 82 ∨ o = 83 ∨ o = 84 := by
  rw [Int32.le_iff_toInt_le] at h1 h2
  have e0 : (80 : Int32).toInt = 80 := by decide
  have e1 : (84 : Int32).toInt = 84 := by decide
  have h : o.toInt = 80 ∨ o.toInt = 81 ∨ o.toInt = 82 ∨ o.toInt = 83 ∨ o.toInt = 84 := by omega
  rcases h with h9 | h9 | h9 | h9 | h9 <;> have h8 := o_int _ h9 <;> rw [h8] <;> decide
theorem o_88_92 {o : Int32} (h1 : 88 ≤ o) (h2 : o ≤ 92) : o = 88 ∨ o = 89 ∨ o = 90 ∨ o = 91 ∨ o = 92 := by
  rw [Int32.le_iff_toInt_le] at h1 h2
  have e0 : (88 : Int32).toInt = 88 := by decide
  have e1 : (92 : Int32).toInt = 92 := by decide
  have h : o.toInt = 88 ∨ o.toInt = 89 ∨ o.toInt = 90 ∨ o.toInt = 91 ∨ o.toInt = 92 := by omega
  rcases h with h9 | h9 | h9 | h9 | h9 <;> have h8 := o_int _ h9 <;> rw [h8] <;> decide
theorem sim_things (R : Rel w B S M) {o : Int32} (h1 : 40 ≤ o) (h2 : o ≤ 47) (a b c : Int32) : SimA B S M (fX11_onThings S o a b c) (fX12_rows M o a b c) := by
  have h4 := rl_4000 R
  unfold fX11_onThings fX12_rows
  rw [c_thgAt, Option.bind_some]
  unfold fX11_onThings_10
  simp only [c_numAt, c_thgAt, Option.bind_some, rl_num R b, rl_num R c]
  rcases o_40_47 h1 h2 with h9 | h9 | h9 | h9 | h9 | h9 | h9 | h9 <;> subst h9
  · rw [if_pos (show (40 : Int32) = 40 from rfl), if_pos (show (40 : Int32) = 40 from rfl)]
    unfold fX12_rows_44 fX12_rows_56
    rw [if_neg (show ¬ (40 : Int32) = 41 by decide), if_pos (inb3 b)]
    exact sima_wrap (sim_make R a c _)
  · rw [if_neg (show ¬ (41 : Int32) = 40 by decide), if_pos (show (41 : Int32) = 41 from rfl), if_neg (show ¬ (41 : Int32) = 40 by decide), if_pos (show (41 : Int32) = 41 from rfl)]
    unfold fX12_rows_44 fX12_rows_56 fX12_makes
    rw [if_pos (show (41 : Int32) = 41 from rfl), if_pos (inb3 b), if_neg (show ¬ (1 : Int32) = 0 by decide), if_pos (inb3 c)]
    exact sima_wrap (sim_grid R a _ _)
  · rw [if_neg (show ¬ (42 : Int32) = 40 by decide), if_neg (show ¬ (42 : Int32) = 41 by decide), if_pos (show (42 : Int32) = 42 from rfl), if_neg (show ¬ (42 : Int32) = 40 by decide), if_neg (show ¬ (42 : Int32) = 41 by decide), if_pos (show (42 : Int32) = 42 from rfl)]
    exact sim_lift (sim_length R a b)
  · rw [if_neg (show ¬ (43 : Int32) = 40 by decide), if_neg (show ¬ (43 : Int32) = 41 by decide), if_neg (show ¬ (43 : Int32) = 42 by decide), if_pos (show (43 : Int32) = 43 from rfl), if_neg (show ¬ (43 : Int32) = 40 by decide), if_neg (show ¬ (43 : Int32) = 41 by decide), if_neg (show ¬ (43 : Int32) = 42 by decide), if_pos (show (43 : Int32) = 43 from rfl), if_pos (inb5 a), if_pos (inb5 b), if_pos (inb3 c), if_pos (inb3 (c + 1)), if_pos (inb3 (c + 2))]
    exact sima_mw (sim_lift (sim_copy R a b c))
  · rw [if_neg (show ¬ (44 : Int32) = 40 by decide), if_neg (show ¬ (44 : Int32) = 41 by decide), if_neg (show ¬ (44 : Int32) = 42 by decide), if_neg (show ¬ (44 : Int32) = 43 by decide), if_pos (show (44 : Int32) = 44 from rfl), if_neg (show ¬ (44 : Int32) = 40 by decide), if_neg (show ¬ (44 : Int32) = 41 by decide), if_neg (show ¬ (44 : Int32) = 42 by decide), if_neg (show ¬ (44 : Int32) = 43 by decide), if_pos (show (44 : Int32) = 44 from rfl)]
    exact sima_wrapC (sim_clone R a b)
  · rw [if_neg (show ¬ (45 : Int32) = 40 by decide), if_neg (show ¬ (45 : Int32) = 41 by decide), if_neg (show ¬ (45 : Int32) = 42 by decide), if_neg (show ¬ (45 : Int32) = 43 by decide), if_neg (show ¬ (45 : Int32) = 44 by decide), if_pos (show (45 : Int32) = 45 from rfl), if_neg (show ¬ (45 : Int32) = 40 by decide), if_neg (show ¬ (45 : Int32) = 41 by decide), if_neg (show ¬ (45 : Int32) = 42 by decide), if_neg (show ¬ (45 : Int32) = 43 by decide), if_neg (show ¬ (45 : Int32) = 44 by decide), if_pos (show (45 : Int32) = 45 from rfl)]
    exact sim_sort R a b
  · rw [if_neg (show ¬ (46 : Int32) = 40 by decide), if_neg (show ¬ (46 : Int32) = 41 by decide), if_neg (show ¬ (46 : Int32) = 42 by decide), if_neg (show ¬ (46 : Int32) = 43 by decide), if_neg (show ¬ (46 : Int32) = 44 by decide), if_neg (show ¬ (46 : Int32) = 45 by decide), if_pos (show (46 : Int32) = 46 from rfl), if_neg (show ¬ (46 : Int32) = 40 by decide), if_neg (show ¬ (46 : Int32) = 41 by decide), if_neg (show ¬ (46 : Int32) = 42 by decide), if_neg (show ¬ (46 : Int32) = 43 by decide), if_neg (show ¬ (46 : Int32) = 44 by decide), if_neg (show ¬ (46 : Int32) = 45 by decide), if_pos (show (46 : Int32) = 46 from rfl), if_pos (inb5 b), if_pos (inb5 a)]
    obtain ⟨t, t2, e1_, e2_⟩ := rl_slot R b
    have e5 : gA M 5 (ix (b &&& 15)) = nI t := e1_
    unfold fX12_rows_360
    rw [e2_, e5, c_giveThg S a _ (c_stK R t2)]
    exact sim_lift (sim_slt R (ra a) t2)
  · rw [if_neg (show ¬ (47 : Int32) = 40 by decide), if_neg (show ¬ (47 : Int32) = 41 by decide), if_neg (show ¬ (47 : Int32) = 42 by decide), if_neg (show ¬ (47 : Int32) = 43 by decide), if_neg (show ¬ (47 : Int32) = 44 by decide), if_neg (show ¬ (47 : Int32) = 45 by decide), if_neg (show ¬ (47 : Int32) = 46 by decide), if_pos (show (47 : Int32) = 47 from rfl), if_neg (show ¬ (47 : Int32) = 40 by decide), if_neg (show ¬ (47 : Int32) = 41 by decide), if_neg (show ¬ (47 : Int32) = 42 by decide), if_neg (show ¬ (47 : Int32) = 43 by decide), if_neg (show ¬ (47 : Int32) = 44 by decide), if_neg (show ¬ (47 : Int32) = 45 by decide), if_neg (show ¬ (47 : Int32) = 46 by decide), if_pos (inb5 a)]
    unfold fX12_rows_372
    rw [c_giveThg S a none rfl]
    exact sim_lift (sim_slt R (ra a) (t := 0) (Nat.zero_le _))
theorem sim_poses (R : Rel w B S M) {o : Int32} (h1 : 80 ≤ o) (h2 : o ≤ 84) (a b c : Int32) : SimA B S M (fX11_onPoses S o a b c) (fX12_poses M o a b c) := by
  unfold fX11_onPoses fX12_poses
  simp only [c_thgAt, c_meaAt, Option.bind_some]
  obtain ⟨k7, g1_, g2_⟩ := and_7 c
  obtain ⟨k1, g3_, g4_⟩ := and_1 c
  rcases o_80_84 h1 h2 with h9 | h9 | h9 | h9 | h9 <;> subst h9
  · rw [if_pos (show (80 : Int32) = 80 from rfl), if_pos (show (80 : Int32) = 80 from rfl), g4_]
    unfold fX11_onPoses_50
    have hq : k1 = 0 ∨ k1 = 1 := by omega
    rcases hq with q | q <;> subst q
    · have e : ∀ X Y : Option (Int32 × MS), (if nI 0 = 1 then X else Y) = Y := fun X Y => if_neg (by decide)
      rw [if_pos (show nI 0 = 0 from rfl)]
      simp only [e]
      exact sima_wrapC (sim_pose R a (g := false))
    · have e : ∀ X Y : Option (Int32 × MS), (if nI 1 = 1 then X else Y) = X := fun X Y => if_pos rfl
      rw [if_neg (show ¬ nI 1 = 0 by decide)]
      simp only [e]
      exact sima_wrapC (sim_pose R a (g := true))
  · rw [if_neg (show ¬ (81 : Int32) = 80 by decide), if_pos (show (81 : Int32) = 81 from rfl), if_neg (show ¬ (81 : Int32) = 80 by decide), if_pos (show (81 : Int32) = 81 from rfl)]
    unfold fX12_poses_111 fX12_poses_123
    rw [if_neg (show ¬ (81 : Int32) = 82 by decide), g2_]
    exact sima_mw (sim_lift (sim_read R a b g1_))
  · rw [if_neg (show ¬ (82 : Int32) = 80 by decide), if_neg (show ¬ (82 : Int32) = 81 by decide), if_pos (show (82 : Int32) = 82 from rfl), if_neg (show ¬ (82 : Int32) = 80 by decide), if_neg (show ¬ (82 : Int32) = 81 by decide), if_pos (show (82 : Int32) = 82 from rfl)]
    unfold fX12_poses_111 fX12_poses_123
    rw [if_pos (show (82 : Int32) = 82 from rfl), g2_]
    exact sima_mw (sim_lift (sim_write R a b g1_))
  · rw [if_neg (show ¬ (83 : Int32) = 80 by decide), if_neg (show ¬ (83 : Int32) = 81 by decide), if_neg (show ¬ (83 : Int32) = 82 by decide), if_pos (show (83 : Int32) = 83 from rfl), if_neg (show ¬ (83 : Int32) = 80 by decide), if_neg (show ¬ (83 : Int32) = 81 by decide), if_neg (show ¬ (83 : Int32) = 82 by decide), if_pos (show (83 : Int32) = 83 from rfl)]
    exact sim_lift (sim_shift R a b c)
  · rw [if_neg (show ¬ (84 : Int32) = 80 by decide), if_neg (show ¬ (84 : Int32) = 81 by decide), if_neg (show ¬ (84 : Int32) = 82 by decide), if_neg (show ¬ (84 : Int32) = 83 by decide), if_pos (show (84 : Int32) = 84 from rfl), if_neg (show ¬ (84 : Int32) = 80 by decide), if_neg (show ¬ (84 : Int32) = 81 by decide), if_neg (show ¬ (84 : Int32) = 82 by decide), if_neg (show ¬ (84 : Int32) = 83 by decide)]
    exact sim_lift (sim_apart R a b c)
theorem sim_devs (R : Rel w B S M) (hB : B < 2147483647) {o : Int32} (h1 : 88 ≤ o) (h2 : o ≤ 92) (a b c : Int32) : SimA B S M (fX11_onDevices S o a b c) (fX12_devices M o a b c) := by
  unfold fX11_onDevices fX12_devices
  simp only [c_thgAt, c_meaAt, Option.bind_some]
  rcases o_88_92 h1 h2 with h9 | h9 | h9 | h9 | h9 <;> subst h9
  · rw [if_pos (show (88 : Int32) = 88 from rfl), if_pos (show (88 : Int32) = 88 from rfl)]
    exact sima_wrapC (sim_device R a c)
  · rw [if_neg (show ¬ (89 : Int32) = 88 by decide), if_pos (show (89 : Int32) = 89 from rfl), if_neg (show ¬ (89 : Int32) = 88 by decide), if_neg (show ¬ (89 : Int32) = 91 by decide), if_neg (show ¬ (89 : Int32) = 92 by decide)]
    exact sim_lift (sim_go R hB a b c)
  · rw [if_neg (show ¬ (90 : Int32) = 88 by decide), if_neg (show ¬ (90 : Int32) = 89 by decide), if_pos (show (90 : Int32) = 90 from rfl), if_neg (show ¬ (90 : Int32) = 88 by decide), if_neg (show ¬ (90 : Int32) = 91 by decide), if_neg (show ¬ (90 : Int32) = 92 by decide)]
    exact sim_lift (sim_tell R hB a b c)
  · rw [if_neg (show ¬ (91 : Int32) = 88 by decide), if_neg (show ¬ (91 : Int32) = 89 by decide), if_neg (show ¬ (91 : Int32) = 90 by decide), if_pos (show (91 : Int32) = 91 from rfl), if_neg (show ¬ (91 : Int32) = 88 by decide), if_pos (show (91 : Int32) = 91 from rfl)]
    exact sim_lift (sim_restO R hB a b c)
  · rw [if_neg (show ¬ (92 : Int32) = 88 by decide), if_neg (show ¬ (92 : Int32) = 89 by decide), if_neg (show ¬ (92 : Int32) = 90 by decide), if_neg (show ¬ (92 : Int32) = 91 by decide), if_pos (show (92 : Int32) = 92 from rfl), if_neg (show ¬ (92 : Int32) = 88 by decide), if_neg (show ¬ (92 : Int32) = 91 by decide), if_pos (show (92 : Int32) = 92 from rfl)]
    exact sim_lift (sim_senseO R hB a b c)
end N
