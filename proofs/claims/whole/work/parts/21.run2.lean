/-! their runs come to them: by wip/gen/dec.py -/
set_option maxRecDepth 20000 in
set_option maxHeartbeats 1000000 in
theorem e_f_X5_tableWays_L17 (l0 : Nat) (l1 : Nat) (l2 : Int32) (l4 : Int32) (k63 : Int32 × mx_Hp → Option (mx_Hp)) (Hk63 : ∀ (s5 : Int32) (hh : mx_Hp) res, k63 (s5, hh) = some res → mx_Ev mx_k_X5_tableWays mx_noS (mx_b_X5_tableWays 63, [some (.ref l0), some (.ref l1), some (.int l2), none, some (.int l4), none, none], [], hh, 0, 0) (none, res)) : ∀ (n : Nat) (s5 : Int32) (hh : mx_Hp) res, mx_fix (f_X5_tableWays_L17 l0 l1 l2 l4 k63) n (s5, hh) = some res → mx_Ev mx_k_X5_tableWays mx_noS (mx_b_X5_tableWays 17, [some (.ref l0), some (.ref l1), some (.int l2), none, some (.int l4), some (.int s5), none], [], hh, 0, 0) (none, res) := by
  intro n
  induction n with
  | zero => intro s5 hh res hq; cases hq
  | succ n ih =>
    intro s5 hh res hq
    unfold mx_fix at hq
    generalize mx_fix (f_X5_tableWays_L17 l0 l1 l2 l4 k63) n = S at hq ih
    unfold f_X5_tableWays_L17 at hq
    try dsimp only at hq
    refine mx_p_il rfl ?_
    refine mx_p_aln rfl ?_
    obtain ⟨x14, hx14, hq⟩ := mx_bS hq
    refine mx_e_gi hx14 (by decide) ?_
    by_cases hc15 : x14 ≤ s5
    · rw [if_pos hc15] at hq
      refine mx_e_it (decide_eq_true hc15) ?_
      have HB := Hk63 s5 hh _ hq
      exact mx_Ev.weak (mx_le.same _ (mx_le.same _ (mx_le.same _ (mx_le.same _ (mx_le.same _ (mx_le.drop _ (mx_le.same _ (mx_le.nil)))))))) HB
    · rw [if_neg hc15] at hq
      refine mx_e_if (fun z => hc15 (of_decide_eq_true z)) ?_
      refine mx_p_il rfl ?_
      refine mx_p_bp ?_
      by_cases hc16 : 10 ≤ s5
      · rw [if_pos hc16] at hq
        refine mx_e_it (decide_eq_true hc16) ?_
        have HB := Hk63 s5 hh _ hq
        exact mx_Ev.weak (mx_le.same _ (mx_le.same _ (mx_le.same _ (mx_le.same _ (mx_le.same _ (mx_le.drop _ (mx_le.same _ (mx_le.nil)))))))) HB
      · rw [if_neg hc16] at hq
        refine mx_e_if (fun z => hc16 (of_decide_eq_true z)) ?_
        refine mx_p_aln rfl ?_
        obtain ⟨x17, hx17, hq⟩ := mx_bS hq
        refine mx_e_gr hx17 rfl ?_
        refine mx_p_ic ?_
        obtain ⟨x18, hx18, hq⟩ := mx_bS hq
        refine mx_e_rl hx18 ?_
        refine mx_p_il rfl ?_
        refine mx_p_aln rfl ?_
        refine mx_p_il rfl ?_
        have ho20 : l1 < hh.1 ∧ (mx_lay l1).1 = 3 := by
          by_cases hh : l1 < hh.1 ∧ (mx_lay l1).1 = 3
          · exact hh
          · rw [if_neg hh] at hq; cases hq
        rw [if_pos ho20] at hq
        obtain ⟨x19, hx19, hq⟩ := mx_bS hq
        refine mx_e_cv mx_t_X0_kindOf ho20 rfl rfl rfl ⟨Nat.le_of_ble_eq_true rfl, Nat.le_of_ble_eq_true rfl, Nat.le_of_ble_eq_true rfl⟩ (Nat.le_of_ble_eq_true rfl) rfl rfl rfl ⟨Nat.zero_le _, Nat.zero_le _⟩ (t_X0_kindOf hx19) ?_
        refine mx_p_ic ?_
        obtain ⟨v22, hE, hK⟩ := mx_bS hq
        have HJ : mx_Ev mx_k_X5_tableWays mx_noS (mx_b_X5_tableWays 56, [some (.ref l0), some (.ref l1), some (.int l2), none, some (.int l4), some (.int s5), none], [.int v22, .int s5, .ref x18], hh, 0, 0) (none, res) := by
          replace hq := hK
          obtain ⟨h23, hh23, hq⟩ := mx_bS hq
          refine mx_e_as hh23 ?_
          refine mx_p_inc (loc' := [some (.ref l0), some (.ref l1), some (.int l2), none, some (.int l4), some (.int (s5 + 1)), none]) rfl rfl ?_
          refine mx_p_gt ?_
          have HB := ih (s5 + 1) h23 _ hq
          exact mx_Ev.weak (mx_le.same _ (mx_le.same _ (mx_le.same _ (mx_le.same _ (mx_le.same _ (mx_le.same _ (mx_le.same _ (mx_le.nil)))))))) HB
        clear hK
        replace hq := hE
        by_cases hc21 : ¬ x19 = 2
        · rw [if_pos hc21] at hq
          refine mx_e_it (decide_eq_true hc21) ?_
          refine mx_p_ic ?_
          refine mx_p_np ?_
          cases hq; exact mx_Ev.weak (mx_le.same _ (mx_le.same _ (mx_le.same _ (mx_le.same _ (mx_le.same _ (mx_le.same _ (mx_le.same _ (mx_le.nil)))))))) HJ
        · rw [if_neg hc21] at hq
          refine mx_e_if (fun z => hc21 (of_decide_eq_true z)) ?_
          refine mx_p_ic ?_
          refine mx_p_gt ?_
          cases hq; exact mx_Ev.weak (mx_le.same _ (mx_le.same _ (mx_le.same _ (mx_le.same _ (mx_le.same _ (mx_le.same _ (mx_le.same _ (mx_le.nil)))))))) HJ
set_option maxRecDepth 20000 in
set_option maxHeartbeats 1000000 in
theorem e_f_X5_tableWays_L82 (l0 : Nat) (l1 : Nat) (l2 : Int32) (l4 : Int32) (l5 : Int32) (k140 : Int32 × mx_Hp → Option (mx_Hp)) (Hk140 : ∀ (s6 : Int32) (hh : mx_Hp) res, k140 (s6, hh) = some res → mx_Ev mx_k_X5_tableWays mx_noS (mx_b_X5_tableWays 140, [some (.ref l0), some (.ref l1), some (.int l2), none, some (.int l4), some (.int l5), none], [], hh, 0, 0) (none, res)) : ∀ (n : Nat) (s6 : Int32) (hh : mx_Hp) res, mx_fix (f_X5_tableWays_L82 l0 l1 l2 l4 l5 k140) n (s6, hh) = some res → mx_Ev mx_k_X5_tableWays mx_noS (mx_b_X5_tableWays 82, [some (.ref l0), some (.ref l1), some (.int l2), none, some (.int l4), some (.int l5), some (.int s6)], [], hh, 0, 0) (none, res) := by
  intro n
  induction n with
  | zero => intro s6 hh res hq; cases hq
  | succ n ih =>
    intro s6 hh res hq
    unfold mx_fix at hq
    generalize mx_fix (f_X5_tableWays_L82 l0 l1 l2 l4 l5 k140) n = S at hq ih
    unfold f_X5_tableWays_L82 at hq
    try dsimp only at hq
    refine mx_p_il rfl ?_
    refine mx_p_aln rfl ?_
    obtain ⟨x38, hx38, hq⟩ := mx_bS hq
    refine mx_e_gi hx38 (by decide) ?_
    by_cases hc39 : x38 ≤ s6
    · rw [if_pos hc39] at hq
      refine mx_e_it (decide_eq_true hc39) ?_
      have HB := Hk140 s6 hh _ hq
      exact mx_Ev.weak (mx_le.same _ (mx_le.same _ (mx_le.same _ (mx_le.same _ (mx_le.same _ (mx_le.same _ (mx_le.drop _ (mx_le.nil)))))))) HB
    · rw [if_neg hc39] at hq
      refine mx_e_if (fun z => hc39 (of_decide_eq_true z)) ?_
      refine mx_p_il rfl ?_
      refine mx_p_bp ?_
      by_cases hc40 : 10 ≤ s6
      · rw [if_pos hc40] at hq
        refine mx_e_it (decide_eq_true hc40) ?_
        have HB := Hk140 s6 hh _ hq
        exact mx_Ev.weak (mx_le.same _ (mx_le.same _ (mx_le.same _ (mx_le.same _ (mx_le.same _ (mx_le.same _ (mx_le.drop _ (mx_le.nil)))))))) HB
      · rw [if_neg hc40] at hq
        refine mx_e_if (fun z => hc40 (of_decide_eq_true z)) ?_
        refine mx_p_aln rfl ?_
        obtain ⟨x41, hx41, hq⟩ := mx_bS hq
        refine mx_e_gr hx41 rfl ?_
        refine mx_p_il rfl ?_
        obtain ⟨x42, hx42, hq⟩ := mx_bS hq
        refine mx_e_rl hx42 ?_
        refine mx_p_il rfl ?_
        refine mx_p_il rfl ?_
        refine mx_p_il rfl ?_
        obtain ⟨x43, hx43, hq⟩ := mx_bS hq
        refine mx_e_cs mx_t_X11_bit rfl rfl rfl ⟨Nat.le_of_ble_eq_true rfl, Nat.le_of_ble_eq_true rfl, Nat.le_of_ble_eq_true rfl⟩ (Nat.le_of_ble_eq_true rfl) rfl rfl ⟨Nat.zero_le _, Nat.zero_le _⟩ (t_X11_bit hx43) ?_
        refine mx_p_iand ?_
        obtain ⟨v47, hE, hK⟩ := mx_bS hq
        have HJ : mx_Ev mx_k_X5_tableWays mx_noS (mx_b_X5_tableWays 133, [some (.ref l0), some (.ref l1), some (.int l2), none, some (.int l4), some (.int l5), some (.int s6)], [.int v47, .int s6, .ref x42], hh, 0, 0) (none, res) := by
          replace hq := hK
          obtain ⟨h48, hh48, hq⟩ := mx_bS hq
          refine mx_e_as hh48 ?_
          refine mx_p_inc (loc' := [some (.ref l0), some (.ref l1), some (.int l2), none, some (.int l4), some (.int l5), some (.int (s6 + 1))]) rfl rfl ?_
          refine mx_p_gt ?_
          have HB := ih (s6 + 1) h48 _ hq
          exact mx_Ev.weak (mx_le.same _ (mx_le.same _ (mx_le.same _ (mx_le.same _ (mx_le.same _ (mx_le.same _ (mx_le.same _ (mx_le.nil)))))))) HB
        clear hK
        replace hq := hE
        by_cases hc44 : (l4 &&& x43) = 0
        · rw [if_pos hc44] at hq
          refine mx_e_zt (decide_eq_true hc44) ?_
          refine mx_p_aln rfl ?_
          refine mx_p_aln rfl ?_
          refine mx_p_il rfl ?_
          refine mx_p_il rfl ?_
          refine mx_p_ic ?_
          refine mx_p_isub ?_
          have ho46 : l0 < hh.1 ∧ (mx_lay l0).1 = 8 := by
            by_cases hh : l0 < hh.1 ∧ (mx_lay l0).1 = 8
            · exact hh
            · rw [if_neg hh] at hq; cases hq
          rw [if_pos ho46] at hq
          obtain ⟨x45, hx45, hq⟩ := mx_bS hq
          refine mx_e_cv mx_t_X5_sumBehind ho46 rfl rfl rfl ⟨Nat.le_of_ble_eq_true rfl, Nat.le_of_ble_eq_true rfl, Nat.le_of_ble_eq_true rfl⟩ (Nat.le_of_ble_eq_true rfl) rfl rfl rfl ⟨Nat.zero_le _, Nat.zero_le _⟩ (t_X5_sumBehind hx45) ?_
          refine mx_p_np ?_
          cases hq; exact mx_Ev.weak (mx_le.same _ (mx_le.same _ (mx_le.same _ (mx_le.same _ (mx_le.same _ (mx_le.same _ (mx_le.same _ (mx_le.nil)))))))) HJ
        · rw [if_neg hc44] at hq
          refine mx_e_zf (fun z => hc44 (of_decide_eq_true z)) ?_
          refine mx_p_ic ?_
          refine mx_p_gt ?_
          cases hq; exact mx_Ev.weak (mx_le.same _ (mx_le.same _ (mx_le.same _ (mx_le.same _ (mx_le.same _ (mx_le.same _ (mx_le.same _ (mx_le.nil)))))))) HJ
set_option maxRecDepth 20000 in
set_option maxHeartbeats 1000000 in
theorem e_f_X5_tableWays_L66 (l0 : Nat) (l1 : Nat) (l2 : Int32) (l4 : Int32)   : ∀ (n : Nat) (s5 : Int32) (hh : mx_Hp) res, mx_fix (f_X5_tableWays_L66 l0 l1 l2 l4 ) n (s5, hh) = some res → mx_Ev mx_k_X5_tableWays mx_noS (mx_b_X5_tableWays 66, [some (.ref l0), some (.ref l1), some (.int l2), none, some (.int l4), some (.int s5), none], [], hh, 0, 0) (none, res) := by
  intro n
  induction n with
  | zero => intro s5 hh res hq; cases hq
  | succ n ih =>
    intro s5 hh res hq
    unfold mx_fix at hq
    generalize mx_fix (f_X5_tableWays_L66 l0 l1 l2 l4 ) n = S at hq ih
    unfold f_X5_tableWays_L66 at hq
    try dsimp only at hq
    refine mx_p_il rfl ?_
    refine mx_p_iln rfl ?_
    by_cases hc50 : l2 ≤ s5
    · rw [if_pos hc50] at hq
      refine mx_e_it (decide_eq_true hc50) ?_
      cases hq; exact mx_p_rv
    · rw [if_neg hc50] at hq
      refine mx_e_if (fun z => hc50 (of_decide_eq_true z)) ?_
      refine mx_p_il rfl ?_
      refine mx_p_bp ?_
      by_cases hc51 : 10 ≤ s5
      · rw [if_pos hc51] at hq
        refine mx_e_it (decide_eq_true hc51) ?_
        cases hq; exact mx_p_rv
      · rw [if_neg hc51] at hq
        refine mx_e_if (fun z => hc51 (of_decide_eq_true z)) ?_
        refine mx_p_ic ?_
        refine mx_p_is (loc' := [some (.ref l0), some (.ref l1), some (.int l2), none, some (.int l4), some (.int s5), some (.int 0)]) rfl ?_
        refine mx_p_np ?_
        refine mx_Ev.weak (mx_le.same _ (mx_le.same _ (mx_le.same _ (mx_le.same _ (mx_le.same _ (mx_le.same _ (mx_le.same _ (mx_le.nil)))))))) (e_f_X5_tableWays_L82 _ _ _ _ _ _ ?_ _ _ _ _ hq)
        · intro c52 c53 res hq
          try dsimp only at hq
          refine mx_p_inc (loc' := [some (.ref l0), some (.ref l1), some (.int l2), none, some (.int l4), some (.int (s5 + 1)), none]) rfl rfl ?_
          refine mx_p_gt ?_
          have HB := ih (s5 + 1) c53 _ hq
          exact mx_Ev.weak (mx_le.same _ (mx_le.same _ (mx_le.same _ (mx_le.same _ (mx_le.same _ (mx_le.same _ (mx_le.same _ (mx_le.nil)))))))) HB
set_option maxRecDepth 20000 in
set_option maxHeartbeats 1000000 in
theorem t_X5_tableWays {a0 : Nat} {a1 : Nat} {a2 : Int32} {a3 : Int32} {h : mx_Hp} {res} (hq : f_X5_tableWays a0 a1 a2 a3 h = some res) : mx_Ms mx_k_X5_tableWays [.ref a0, .ref a1, .int a2, .int a3] h (none, res) := by
  unfold f_X5_tableWays at hq
  show mx_Ev mx_k_X5_tableWays mx_noS (mx_b_X5_tableWays 0, [some (.ref a0), some (.ref a1), some (.int a2), some (.int a3), none, none, none], [], h, 0, 0) _
  refine mx_p_iln rfl ?_
  obtain ⟨v56, hE, hK⟩ := mx_bS hq
  have HJ : mx_Ev mx_k_X5_tableWays mx_noS (mx_b_X5_tableWays 12, [some (.ref a0), some (.ref a1), some (.int a2), none, none, none, none], [.int v56], h, 0, 0) (none, res) := by
    replace hq := hK
    refine mx_p_is (loc' := [some (.ref a0), some (.ref a1), some (.int a2), none, some (.int v56), none, none]) rfl ?_
    refine mx_p_ic ?_
    refine mx_p_is (loc' := [some (.ref a0), some (.ref a1), some (.int a2), none, some (.int v56), some (.int 0), none]) rfl ?_
    refine mx_p_np ?_
    refine mx_Ev.weak (mx_le.same _ (mx_le.same _ (mx_le.same _ (mx_le.same _ (mx_le.same _ (mx_le.same _ (mx_le.same _ (mx_le.nil)))))))) (e_f_X5_tableWays_L17 _ _ _ _ _ ?_ _ _ _ _ hq)
    · intro c57 c58 res hq
      try dsimp only at hq
      refine mx_p_ic ?_
      refine mx_p_is (loc' := [some (.ref a0), some (.ref a1), some (.int a2), none, some (.int v56), some (.int 1), none]) rfl ?_
      refine mx_p_np ?_
      refine mx_Ev.weak (mx_le.same _ (mx_le.same _ (mx_le.same _ (mx_le.same _ (mx_le.same _ (mx_le.same _ (mx_le.same _ (mx_le.nil)))))))) (e_f_X5_tableWays_L66 _ _ _ _  _ _ _ _ hq)
  clear hK
  replace hq := hE
  by_cases hc54 : a3 = 0
  · rw [if_pos hc54] at hq
    refine mx_e_zt (decide_eq_true hc54) ?_
    refine mx_p_ic ?_
    refine mx_p_np ?_
    cases hq; exact mx_Ev.weak (mx_le.same _ (mx_le.same _ (mx_le.same _ (mx_le.drop _ (mx_le.same _ (mx_le.same _ (mx_le.same _ (mx_le.nil)))))))) HJ
  · rw [if_neg hc54] at hq
    refine mx_e_zf (fun z => hc54 (of_decide_eq_true z)) ?_
    refine mx_p_aln rfl ?_
    obtain ⟨x55, hx55, hq⟩ := mx_bS hq
    refine mx_e_gi hx55 (by decide) ?_
    refine mx_p_gt ?_
    cases hq; exact mx_Ev.weak (mx_le.same _ (mx_le.same _ (mx_le.same _ (mx_le.drop _ (mx_le.same _ (mx_le.same _ (mx_le.same _ (mx_le.nil)))))))) HJ
set_option maxRecDepth 20000 in
set_option maxHeartbeats 1000000 in
theorem t_X6_clear {a0 : Nat} {h : mx_Hp} {res} (hq : f_X6_clear a0 h = some res) : mx_Ms mx_k_X6_clear [.ref a0] h (none, res) := by
  unfold f_X6_clear at hq
  show mx_Ev mx_k_X6_clear mx_noS (mx_b_X6_clear 0, [some (.ref a0)], [], h, 0, 0) _
  refine mx_p_aln rfl ?_
  refine mx_p_ic ?_
  obtain ⟨h2, hh2, hq⟩ := mx_bS hq
  refine mx_e_pi hh2 ?_
  cases hq; exact mx_p_rv
set_option maxRecDepth 20000 in
set_option maxHeartbeats 1000000 in
theorem t_X6_placeAt {a0 : Nat} {a1 : Int32} {h : mx_Hp} {res} (hq : f_X6_placeAt a0 a1 h = some res) : mx_Ms mx_k_X6_placeAt [.ref a0, .int a1] h (some (mx_nv res), h) := by
  unfold f_X6_placeAt at hq
  show mx_Ev mx_k_X6_placeAt mx_noS (mx_b_X6_placeAt 0, [some (.ref a0), some (.int a1)], [], h, 0, 0) _
  refine mx_p_iln rfl ?_
  obtain ⟨v14, hE, hK⟩ := mx_bS hq
  have HJ : mx_Ev mx_k_X6_placeAt mx_noS (mx_b_X6_placeAt 23, [none, none], [mx_nv v14], h, 0, 0) (some (mx_nv res), h) := by
    replace hq := hK
    cases hq; exact mx_p_rn
  clear hK
  replace hq := hE
  by_cases hc8 : a1 < 0
  · rw [if_pos hc8] at hq
    refine mx_e_zt (decide_eq_true hc8) ?_
    refine mx_p_nl ?_
    refine mx_p_np ?_
    cases hq; exact mx_Ev.weak (mx_le.drop _ (mx_le.drop _ (mx_le.nil))) HJ
  · rw [if_neg hc8] at hq
    refine mx_e_zf (fun z => hc8 (of_decide_eq_true z)) ?_
    refine mx_p_iln rfl ?_
    refine mx_p_aln rfl ?_
    obtain ⟨x9, hx9, hq⟩ := mx_bS hq
    refine mx_e_gr hx9 rfl ?_
    obtain ⟨x10, hx10, hq⟩ := mx_bS hq
    refine mx_e_ln hx10 ?_
    by_cases hc11 : x10 ≤ a1
    · rw [if_pos hc11] at hq
      refine mx_e_it (decide_eq_true hc11) ?_
      refine mx_p_nl ?_
      refine mx_p_np ?_
      cases hq; exact mx_Ev.weak (mx_le.drop _ (mx_le.drop _ (mx_le.nil))) HJ
    · rw [if_neg hc11] at hq
      refine mx_e_if (fun z => hc11 (of_decide_eq_true z)) ?_
      refine mx_p_aln rfl ?_
      obtain ⟨x12, hx12, hq⟩ := mx_bS hq
      refine mx_e_gr hx12 rfl ?_
      refine mx_p_iln rfl ?_
      obtain ⟨x13, hx13, hq⟩ := mx_bS hq
      refine mx_e_rl hx13 ?_
      refine mx_p_gt ?_
      cases hq; exact mx_Ev.weak (mx_le.drop _ (mx_le.drop _ (mx_le.nil))) HJ
set_option maxRecDepth 20000 in
set_option maxHeartbeats 1000000 in
theorem e_f_X6_giveOldestToNewest_L8 (l0 : Nat) (l1 : Option Nat) (k37 : Int32 × mx_Hp → Option (mx_Hp)) (Hk37 : ∀ (s2 : Int32) (hh : mx_Hp) res, k37 (s2, hh) = some res → mx_Ev mx_k_X6_giveOldestToNewest mx_noS (mx_b_X6_giveOldestToNewest 37, [some (.ref l0), some (mx_nv l1), none], [], hh, 0, 0) (none, res)) : ∀ (n : Nat) (s2 : Int32) (hh : mx_Hp) res, mx_fix (f_X6_giveOldestToNewest_L8 l0 l1 k37) n (s2, hh) = some res → mx_Ev mx_k_X6_giveOldestToNewest mx_noS (mx_b_X6_giveOldestToNewest 8, [some (.ref l0), some (mx_nv l1), some (.int s2)], [], hh, 0, 0) (none, res) := by
  intro n
  induction n with
  | zero => intro s2 hh res hq; cases hq
  | succ n ih =>
    intro s2 hh res hq
    unfold mx_fix at hq
    generalize mx_fix (f_X6_giveOldestToNewest_L8 l0 l1 k37) n = S at hq ih
    unfold f_X6_giveOldestToNewest_L8 at hq
    try dsimp only at hq
    refine mx_p_iln rfl ?_
    refine mx_p_aln rfl ?_
    obtain ⟨x10, hx10, hq⟩ := mx_bS hq
    refine mx_e_gr hx10 rfl ?_
    obtain ⟨x11, hx11, hq⟩ := mx_bS hq
    refine mx_e_ln hx11 ?_
    by_cases hc12 : x11 ≤ s2
    · rw [if_pos hc12] at hq
      refine mx_e_it (decide_eq_true hc12) ?_
      have HB := Hk37 s2 hh _ hq
      exact mx_Ev.weak (mx_le.same _ (mx_le.same _ (mx_le.drop _ (mx_le.nil)))) HB
    · rw [if_neg hc12] at hq
      refine mx_e_if (fun z => hc12 (of_decide_eq_true z)) ?_
      refine mx_p_aln rfl ?_
      obtain ⟨x13, hx13, hq⟩ := mx_bS hq
      refine mx_e_gr hx13 rfl ?_
      refine mx_p_iln rfl ?_
      refine mx_p_ic ?_
      refine mx_p_isub ?_
      refine mx_p_aln rfl ?_
      obtain ⟨x14, hx14, hq⟩ := mx_bS hq
      refine mx_e_gr hx14 rfl ?_
      refine mx_p_iln rfl ?_
      obtain ⟨x15, hx15, hq⟩ := mx_bS hq
      refine mx_e_rl hx15 ?_
      obtain ⟨h16, hh16, hq⟩ := mx_bS hq
      refine mx_e_rs hh16 ?_
      refine mx_p_inc (loc' := [some (.ref l0), some (mx_nv l1), some (.int (s2 + 1))]) rfl (by cases l1 <;> rfl) ?_
      refine mx_p_gt ?_
      have HB := ih (s2 + 1) h16 _ hq
      exact mx_Ev.weak (mx_le.same _ (mx_le.same _ (mx_le.same _ (mx_le.nil)))) HB
set_option maxRecDepth 20000 in
set_option maxHeartbeats 1000000 in
theorem t_X6_giveOldestToNewest {a0 : Nat} {h : mx_Hp} {res} (hq : f_X6_giveOldestToNewest a0 h = some res) : mx_Ms mx_k_X6_giveOldestToNewest [.ref a0] h (none, res) := by
  unfold f_X6_giveOldestToNewest at hq
  show mx_Ev mx_k_X6_giveOldestToNewest mx_noS (mx_b_X6_giveOldestToNewest 0, [some (.ref a0), none, none], [], h, 0, 0) _
  refine mx_p_aln rfl ?_
  refine mx_p_ic ?_
  have ho29 : a0 < h.1 ∧ (mx_lay a0).1 = 9 := by
    by_cases hh : a0 < h.1 ∧ (mx_lay a0).1 = 9
    · exact hh
    · rw [if_neg hh] at hq; cases hq
  rw [if_pos ho29] at hq
  obtain ⟨x28, hx28, hq⟩ := mx_bS hq
  refine mx_e_cv mx_t_X6_placeAt ho29 rfl rfl rfl ⟨Nat.le_of_ble_eq_true rfl, Nat.le_of_ble_eq_true rfl, Nat.le_of_ble_eq_true rfl⟩ (Nat.le_of_ble_eq_true rfl) rfl rfl rfl ⟨Nat.zero_le _, Nat.zero_le _⟩ (t_X6_placeAt hx28) ?_
  refine mx_p_asnN (loc' := [some (.ref a0), some (mx_nv x28), none]) (by cases x28 <;> rfl) ?_
  refine mx_p_ic ?_
  refine mx_p_isn (loc' := [some (.ref a0), some (mx_nv x28), some (.int 1)]) (by cases x28 <;> rfl) ?_
  refine mx_p_np ?_
  refine mx_Ev.weak (mx_le.same _ (mx_le.same _ (mx_le.same _ (mx_le.nil)))) (e_f_X6_giveOldestToNewest_L8 _ _ _ ?_ _ _ _ _ hq)
  · intro c30 c31 res hq
    try dsimp only at hq
    refine mx_p_aln rfl ?_
    refine mx_p_aln rfl ?_
    obtain ⟨x32, hx32, hq⟩ := mx_bS hq
    refine mx_e_gr hx32 rfl ?_
    obtain ⟨x33, hx33, hq⟩ := mx_bS hq
    refine mx_e_ln hx33 ?_
    refine mx_p_ic ?_
    refine mx_p_isub ?_
    obtain ⟨h34, hh34, hq⟩ := mx_bS hq
    refine mx_e_pi hh34 ?_
    refine mx_p_aln rfl ?_
    obtain ⟨x35, hx35, hq⟩ := mx_bS hq
    refine mx_e_gi hx35 (by decide) ?_
    obtain ⟨v41, hE, hK⟩ := mx_bS hq
    have HJ : mx_Ev mx_k_X6_giveOldestToNewest mx_noS (mx_b_X6_giveOldestToNewest 69, [none, none, none], [], v41, 0, 0) (none, res) := by
      replace hq := hK
      cases hq; exact mx_p_rv
    clear hK
    replace hq := hE
    by_cases hc36 : x35 < 0
    · rw [if_pos hc36] at hq
      refine mx_e_zt (decide_eq_true hc36) ?_
      cases hq; exact mx_Ev.weak (mx_le.drop _ (mx_le.drop _ (mx_le.same _ (mx_le.nil)))) HJ
    · rw [if_neg hc36] at hq
      refine mx_e_zf (fun z => hc36 (of_decide_eq_true z)) ?_
      refine mx_p_anN rfl ?_
      cases hvy37 : x28 with
      | none =>
        rw [hvy37] at hq
        dsimp only at hq
        simp only [mx_nv, hvy37]
        refine mx_p_nuN ?_
        cases hq; exact mx_Ev.weak (mx_le.drop _ (mx_le.drop _ (mx_le.same _ (mx_le.nil)))) HJ
      | some y37 =>
        rw [hvy37] at hq
        dsimp only at hq
        simp only [mx_nv, hvy37]
        refine mx_p_nuR ?_
        refine mx_p_aln rfl ?_
        obtain ⟨x38, hx38, hq⟩ := mx_bS hq
        refine mx_e_gr hx38 rfl ?_
        refine mx_p_aln rfl ?_
        obtain ⟨x39, hx39, hq⟩ := mx_bS hq
        refine mx_e_gi hx39 (by decide) ?_
        refine mx_p_aln rfl ?_
        obtain ⟨h40, hh40, hq⟩ := mx_bS hq
        refine mx_e_rs hh40 ?_
        refine mx_p_np ?_
        cases hq; exact mx_Ev.weak (mx_le.drop _ (mx_le.drop _ (mx_le.same _ (mx_le.nil)))) HJ
set_option maxRecDepth 20000 in
set_option maxHeartbeats 1000000 in
theorem t_X6_put {a0 : Nat} {a1 : Nat} {h : mx_Hp} {res} (hq : f_X6_put a0 a1 h = some res) : mx_Ms mx_k_X6_put [.ref a0, .ref a1] h (none, res) := by
  unfold f_X6_put at hq
  show mx_Ev mx_k_X6_put mx_noS (mx_b_X6_put 0, [some (.ref a0), some (.ref a1), none], [], h, 0, 0) _
  refine mx_p_aln rfl ?_
  obtain ⟨x16, hx16, hq⟩ := mx_bS hq
  refine mx_e_gi hx16 (by decide) ?_
  refine mx_p_aln rfl ?_
  obtain ⟨x17, hx17, hq⟩ := mx_bS hq
  refine mx_e_gr hx17 rfl ?_
  obtain ⟨x18, hx18, hq⟩ := mx_bS hq
  refine mx_e_ln hx18 ?_
  obtain ⟨v22, hE, hK⟩ := mx_bS hq
  have HJ : mx_Ev mx_k_X6_put mx_noS (mx_b_X6_put 16, [some (.ref a0), some (.ref a1), none], [], v22, 0, 0) (none, res) := by
    replace hq := hK
    refine mx_p_aln rfl ?_
    refine mx_p_aln rfl ?_
    obtain ⟨x23, hx23, hq⟩ := mx_bS hq
    refine mx_e_gi hx23 (by decide) ?_
    have ho25 : a0 < v22.1 ∧ (mx_lay a0).1 = 9 := by
      by_cases hh : a0 < v22.1 ∧ (mx_lay a0).1 = 9
      · exact hh
      · rw [if_neg hh] at hq; cases hq
    rw [if_pos ho25] at hq
    obtain ⟨x24, hx24, hq⟩ := mx_bS hq
    refine mx_e_cv mx_t_X6_placeAt ho25 rfl rfl rfl ⟨Nat.le_of_ble_eq_true rfl, Nat.le_of_ble_eq_true rfl, Nat.le_of_ble_eq_true rfl⟩ (Nat.le_of_ble_eq_true rfl) rfl rfl rfl ⟨Nat.zero_le _, Nat.zero_le _⟩ (t_X6_placeAt hx24) ?_
    refine mx_p_asnN (loc' := [some (.ref a0), some (.ref a1), some (mx_nv x24)]) (by cases x24 <;> rfl) ?_
    refine mx_p_anN rfl ?_
    cases hvy26 : x24 with
    | none =>
      rw [hvy26] at hq
      dsimp only at hq
      simp only [mx_nv, hvy26]
      refine mx_p_nuN ?_
      cases hq; exact mx_p_rv
    | some y26 =>
      rw [hvy26] at hq
      dsimp only at hq
      simp only [mx_nv, hvy26]
      refine mx_p_nuR ?_
      refine mx_p_aln rfl ?_
      refine mx_p_aln rfl ?_
      have ho28 : y26 < v22.1 ∧ (mx_lay y26).1 = 12 := by
        by_cases hh : y26 < v22.1 ∧ (mx_lay y26).1 = 12
        · exact hh
        · rw [if_neg hh] at hq; cases hq
      rw [if_pos ho28] at hq
      obtain ⟨x27, hx27, hq⟩ := mx_bS hq
      refine mx_e_cv mx_t_X9_copyFrom ho28 rfl rfl rfl ⟨Nat.le_of_ble_eq_true rfl, Nat.le_of_ble_eq_true rfl, Nat.le_of_ble_eq_true rfl⟩ (Nat.le_of_ble_eq_true rfl) rfl rfl rfl ⟨Nat.zero_le _, Nat.zero_le _⟩ (t_X9_copyFrom hx27) ?_
      refine mx_p_aln rfl ?_
      refine mx_p_dup rfl ?_
      obtain ⟨x29, hx29, hq⟩ := mx_bS hq
      refine mx_e_gi hx29 (by decide) ?_
      refine mx_p_ic ?_
      refine mx_p_iadd ?_
      obtain ⟨h30, hh30, hq⟩ := mx_bS hq
      refine mx_e_pi hh30 ?_
      refine mx_p_np ?_
      cases hq; exact mx_p_rv
  clear hK
  replace hq := hE
  by_cases hc19 : x16 < x18
  · rw [if_pos hc19] at hq
    refine mx_e_it (decide_eq_true hc19) ?_
    cases hq; exact mx_Ev.weak (mx_le.same _ (mx_le.same _ (mx_le.same _ (mx_le.nil)))) HJ
  · rw [if_neg hc19] at hq
    refine mx_e_if (fun z => hc19 (of_decide_eq_true z)) ?_
    refine mx_p_aln rfl ?_
    have ho21 : a0 < h.1 ∧ (mx_lay a0).1 = 9 := by
      by_cases hh : a0 < h.1 ∧ (mx_lay a0).1 = 9
      · exact hh
      · rw [if_neg hh] at hq; cases hq
    rw [if_pos ho21] at hq
    obtain ⟨x20, hx20, hq⟩ := mx_bS hq
    refine mx_e_cv mx_t_X6_giveOldestToNewest ho21 rfl rfl rfl ⟨Nat.le_of_ble_eq_true rfl, Nat.le_of_ble_eq_true rfl, Nat.le_of_ble_eq_true rfl⟩ (Nat.le_of_ble_eq_true rfl) rfl rfl rfl ⟨Nat.zero_le _, Nat.zero_le _⟩ (t_X6_giveOldestToNewest hx20) ?_
    refine mx_p_np ?_
    cases hq; exact mx_Ev.weak (mx_le.same _ (mx_le.same _ (mx_le.same _ (mx_le.nil)))) HJ
set_option maxRecDepth 20000 in
set_option maxHeartbeats 1000000 in
theorem t_X6_takeInto {a0 : Nat} {a1 : Nat} {h : mx_Hp} {res} (hq : f_X6_takeInto a0 a1 h = some res) : mx_Ms mx_k_X6_takeInto [.ref a0, .ref a1] h (some (.int res.1), res.2) := by
  unfold f_X6_takeInto at hq
  show mx_Ev mx_k_X6_takeInto mx_noS (mx_b_X6_takeInto 0, [some (.ref a0), some (.ref a1), none], [], h, 0, 0) _
  refine mx_p_aln rfl ?_
  refine mx_p_aln rfl ?_
  obtain ⟨x9, hx9, hq⟩ := mx_bS hq
  refine mx_e_gi hx9 (by decide) ?_
  refine mx_p_ic ?_
  refine mx_p_isub ?_
  have ho11 : a0 < h.1 ∧ (mx_lay a0).1 = 9 := by
    by_cases hh : a0 < h.1 ∧ (mx_lay a0).1 = 9
    · exact hh
    · rw [if_neg hh] at hq; cases hq
  rw [if_pos ho11] at hq
  obtain ⟨x10, hx10, hq⟩ := mx_bS hq
  refine mx_e_cv mx_t_X6_placeAt ho11 rfl rfl rfl ⟨Nat.le_of_ble_eq_true rfl, Nat.le_of_ble_eq_true rfl, Nat.le_of_ble_eq_true rfl⟩ (Nat.le_of_ble_eq_true rfl) rfl rfl rfl ⟨Nat.zero_le _, Nat.zero_le _⟩ (t_X6_placeAt hx10) ?_
  refine mx_p_asnN (loc' := [some (.ref a0), some (.ref a1), some (mx_nv x10)]) (by cases x10 <;> rfl) ?_
  refine mx_p_anN rfl ?_
  cases hvy12 : x10 with
  | none =>
    rw [hvy12] at hq
    dsimp only at hq
    simp only [mx_nv, hvy12]
    refine mx_p_nnN ?_
    refine mx_p_ic ?_
    cases hq; exact mx_e_rb rfl (by decide)
  | some y12 =>
    rw [hvy12] at hq
    dsimp only at hq
    simp only [mx_nv, hvy12]
    refine mx_p_nnR ?_
    refine mx_p_aln rfl ?_
    refine mx_p_aln rfl ?_
    have ho14 : a1 < h.1 ∧ (mx_lay a1).1 = 12 := by
      by_cases hh : a1 < h.1 ∧ (mx_lay a1).1 = 12
      · exact hh
      · rw [if_neg hh] at hq; cases hq
    rw [if_pos ho14] at hq
    obtain ⟨x13, hx13, hq⟩ := mx_bS hq
    refine mx_e_cv mx_t_X9_copyFrom ho14 rfl rfl rfl ⟨Nat.le_of_ble_eq_true rfl, Nat.le_of_ble_eq_true rfl, Nat.le_of_ble_eq_true rfl⟩ (Nat.le_of_ble_eq_true rfl) rfl rfl rfl ⟨Nat.zero_le _, Nat.zero_le _⟩ (t_X9_copyFrom hx13) ?_
    refine mx_p_aln rfl ?_
    refine mx_p_dup rfl ?_
    obtain ⟨x15, hx15, hq⟩ := mx_bS hq
    refine mx_e_gi hx15 (by decide) ?_
    refine mx_p_ic ?_
    refine mx_p_isub ?_
    obtain ⟨h16, hh16, hq⟩ := mx_bS hq
    refine mx_e_pi hh16 ?_
    refine mx_p_ic ?_
    cases hq; exact mx_e_rb rfl (by decide)
set_option maxRecDepth 20000 in
set_option maxHeartbeats 1000000 in
theorem t_X8_prepare {a0 : Nat} {a1 : Nat} {a2 : Nat} {h : mx_Hp} {res} (hq : f_X8_prepare a0 a1 a2 h = some res) : mx_Ms mx_k_X8_prepare [.ref a0, .ref a1, .ref a2] h (none, res) := by
  unfold f_X8_prepare at hq
  show mx_Ev mx_k_X8_prepare mx_noS (mx_b_X8_prepare 0, [some (.ref a0), some (.ref a1), some (.ref a2)], [], h, 0, 0) _
  refine mx_p_aln rfl ?_
  obtain ⟨x21, hx21, hq⟩ := mx_bS hq
  refine mx_e_gr hx21 rfl ?_
  have ho23 : x21 < h.1 ∧ (mx_lay x21).1 = 10 := by
    by_cases hh : x21 < h.1 ∧ (mx_lay x21).1 = 10
    · exact hh
    · rw [if_neg hh] at hq; cases hq
  rw [if_pos ho23] at hq
  obtain ⟨x22, hx22, hq⟩ := mx_bS hq
  refine mx_e_cv mx_t_X7_clear ho23 rfl rfl rfl ⟨Nat.le_of_ble_eq_true rfl, Nat.le_of_ble_eq_true rfl, Nat.le_of_ble_eq_true rfl⟩ (Nat.le_of_ble_eq_true rfl) rfl rfl rfl ⟨Nat.zero_le _, Nat.zero_le _⟩ (t_X7_clear hx22) ?_
  refine mx_p_aln rfl ?_
  obtain ⟨x24, hx24, hq⟩ := mx_bS hq
  refine mx_e_gr hx24 rfl ?_
  refine mx_p_aln rfl ?_
  refine mx_p_aln rfl ?_
  obtain ⟨x25, hx25, hq⟩ := mx_bS hq
  refine mx_e_gr hx25 rfl ?_
  refine mx_p_aln rfl ?_
  obtain ⟨x26, hx26, hq⟩ := mx_bS hq
  refine mx_e_gi hx26 (by decide) ?_
  refine mx_p_aln rfl ?_
  have ho28 : a1 < x22.1 ∧ (mx_lay a1).1 = 3 := by
    by_cases hh : a1 < x22.1 ∧ (mx_lay a1).1 = 3
    · exact hh
    · rw [if_neg hh] at hq; cases hq
  rw [if_pos ho28] at hq
  obtain ⟨x27, hx27, hq⟩ := mx_bS hq
  refine mx_e_cv mx_t_X0_allWords ho28 rfl rfl rfl ⟨Nat.le_of_ble_eq_true rfl, Nat.le_of_ble_eq_true rfl, Nat.le_of_ble_eq_true rfl⟩ (Nat.le_of_ble_eq_true rfl) rfl rfl rfl ⟨Nat.zero_le _, Nat.zero_le _⟩ (t_X0_allWords hx27) ?_
  have ho30 : x24 < x22.1 ∧ (mx_lay x24).1 = 8 := by
    by_cases hh : x24 < x22.1 ∧ (mx_lay x24).1 = 8
    · exact hh
    · rw [if_neg hh] at hq; cases hq
  rw [if_pos ho30] at hq
  obtain ⟨x29, hx29, hq⟩ := mx_bS hq
  refine mx_e_cv mx_t_X5_prepare ho30 rfl rfl rfl ⟨Nat.le_of_ble_eq_true rfl, Nat.le_of_ble_eq_true rfl, Nat.le_of_ble_eq_true rfl⟩ (Nat.le_of_ble_eq_true rfl) rfl rfl rfl ⟨Nat.zero_le _, Nat.zero_le _⟩ (t_X5_prepare hx29) ?_
  refine mx_p_aln rfl ?_
  obtain ⟨x31, hx31, hq⟩ := mx_bS hq
  refine mx_e_gr hx31 rfl ?_
  refine mx_p_aln rfl ?_
  refine mx_p_aln rfl ?_
  obtain ⟨x32, hx32, hq⟩ := mx_bS hq
  refine mx_e_gr hx32 rfl ?_
  refine mx_p_aln rfl ?_
  have ho34 : a1 < x29.1 ∧ (mx_lay a1).1 = 3 := by
    by_cases hh : a1 < x29.1 ∧ (mx_lay a1).1 = 3
    · exact hh
    · rw [if_neg hh] at hq; cases hq
  rw [if_pos ho34] at hq
  obtain ⟨x33, hx33, hq⟩ := mx_bS hq
  refine mx_e_cv mx_t_X0_allWords ho34 rfl rfl rfl ⟨Nat.le_of_ble_eq_true rfl, Nat.le_of_ble_eq_true rfl, Nat.le_of_ble_eq_true rfl⟩ (Nat.le_of_ble_eq_true rfl) rfl rfl rfl ⟨Nat.zero_le _, Nat.zero_le _⟩ (t_X0_allWords hx33) ?_
  refine mx_p_aln rfl ?_
  obtain ⟨x35, hx35, hq⟩ := mx_bS hq
  refine mx_e_gi hx35 (by decide) ?_
  refine mx_p_ic ?_
  refine mx_p_ixor ?_
  refine mx_p_iand ?_
  refine mx_p_aln rfl ?_
  have ho37 : a2 < x29.1 ∧ (mx_lay a2).1 = 12 := by
    by_cases hh : a2 < x29.1 ∧ (mx_lay a2).1 = 12
    · exact hh
    · rw [if_neg hh] at hq; cases hq
  rw [if_pos ho37] at hq
  obtain ⟨x36, hx36, hq⟩ := mx_bS hq
  refine mx_e_cv mx_t_X9_otherMayor ho37 rfl rfl rfl ⟨Nat.le_of_ble_eq_true rfl, Nat.le_of_ble_eq_true rfl, Nat.le_of_ble_eq_true rfl⟩ (Nat.le_of_ble_eq_true rfl) rfl rfl rfl ⟨Nat.zero_le _, Nat.zero_le _⟩ (t_X9_otherMayor hx36) ?_
  obtain ⟨x38, hx38, hq⟩ := mx_bS hq
  refine mx_e_gi hx38 (by decide) ?_
  have ho40 : x31 < x29.1 ∧ (mx_lay x31).1 = 8 := by
    by_cases hh : x31 < x29.1 ∧ (mx_lay x31).1 = 8
    · exact hh
    · rw [if_neg hh] at hq; cases hq
  rw [if_pos ho40] at hq
  obtain ⟨x39, hx39, hq⟩ := mx_bS hq
  refine mx_e_cv mx_t_X5_prepare ho40 rfl rfl rfl ⟨Nat.le_of_ble_eq_true rfl, Nat.le_of_ble_eq_true rfl, Nat.le_of_ble_eq_true rfl⟩ (Nat.le_of_ble_eq_true rfl) rfl rfl rfl ⟨Nat.zero_le _, Nat.zero_le _⟩ (t_X5_prepare hx39) ?_
  cases hq; exact mx_p_rv
set_option maxRecDepth 20000 in
set_option maxHeartbeats 1000000 in
theorem t_X8_openingBy {a0 : Nat} {a1 : Nat} {a2 : Int32} {h : mx_Hp} {res} (hq : f_X8_openingBy a0 a1 a2 h = some res) : mx_Ms mx_k_X8_openingBy [.ref a0, .ref a1, .int a2] h (some (.ref res), h) := by
  unfold f_X8_openingBy at hq
  show mx_Ev mx_k_X8_openingBy mx_noS (mx_b_X8_openingBy 0, [some (.ref a0), some (.ref a1), some (.int a2)], [], h, 0, 0) _
  refine mx_p_aln rfl ?_
  refine mx_p_iln rfl ?_
  have ho8 : a1 < h.1 ∧ (mx_lay a1).1 = 3 := by
    by_cases hh : a1 < h.1 ∧ (mx_lay a1).1 = 3
    · exact hh
    · rw [if_neg hh] at hq; cases hq
  rw [if_pos ho8] at hq
  obtain ⟨x7, hx7, hq⟩ := mx_bS hq
  refine mx_e_cv mx_t_X0_kindOf ho8 rfl rfl rfl ⟨Nat.le_of_ble_eq_true rfl, Nat.le_of_ble_eq_true rfl, Nat.le_of_ble_eq_true rfl⟩ (Nat.le_of_ble_eq_true rfl) rfl rfl rfl ⟨Nat.zero_le _, Nat.zero_le _⟩ (t_X0_kindOf hx7) ?_
  refine mx_p_ic ?_
  obtain ⟨v12, hE, hK⟩ := mx_bS hq
  have HJ : mx_Ev mx_k_X8_openingBy mx_noS (mx_b_X8_openingBy 20, [none, none, none], [.ref v12], h, 0, 0) (some (.ref res), h) := by
    replace hq := hK
    cases hq; exact mx_p_ra
  clear hK
  replace hq := hE
  by_cases hc9 : ¬ x7 = 3
  · rw [if_pos hc9] at hq
    refine mx_e_it (decide_eq_true hc9) ?_
    refine mx_p_aln rfl ?_
    obtain ⟨x10, hx10, hq⟩ := mx_bS hq
    refine mx_e_gr hx10 rfl ?_
    refine mx_p_np ?_
    cases hq; exact mx_Ev.weak (mx_le.drop _ (mx_le.drop _ (mx_le.drop _ (mx_le.nil)))) HJ
  · rw [if_neg hc9] at hq
    refine mx_e_if (fun z => hc9 (of_decide_eq_true z)) ?_
    refine mx_p_aln rfl ?_
    obtain ⟨x11, hx11, hq⟩ := mx_bS hq
    refine mx_e_gr hx11 rfl ?_
    refine mx_p_gt ?_
    cases hq; exact mx_Ev.weak (mx_le.drop _ (mx_le.drop _ (mx_le.drop _ (mx_le.nil)))) HJ
set_option maxRecDepth 20000 in
set_option maxHeartbeats 1000000 in
theorem e_f_X8_follow_L39 (l0 : Nat) (l1 : Nat) (l4 : Int32) (l5 : Nat)   : ∀ (n : Nat) (s6 : Int32) (s7 : Int32) (s8 : Int32) (hh : mx_Hp) res, mx_fix (f_X8_follow_L39 l0 l1 l4 l5 ) n (s6, s7, s8, hh) = some res → mx_Ev mx_k_X8_follow mx_noS (mx_b_X8_follow 39, [some (.ref l0), some (.ref l1), none, none, some (.int l4), some (.ref l5), some (.int s6), some (.int s7), some (.int s8)], [], hh, 0, 0) (none, res) := by
  intro n
  induction n with
  | zero => intro s6 s7 s8 hh res hq; cases hq
  | succ n ih =>
    intro s6 s7 s8 hh res hq
    unfold mx_fix at hq
    generalize mx_fix (f_X8_follow_L39 l0 l1 l4 l5 ) n = S at hq ih
    unfold f_X8_follow_L39 at hq
    try dsimp only at hq
    refine mx_p_il rfl ?_
    by_cases hc21 : s8 < 0
    · rw [if_pos hc21] at hq
      refine mx_e_zt (decide_eq_true hc21) ?_
      cases hq; exact mx_p_rv
    · rw [if_neg hc21] at hq
      refine mx_e_zf (fun z => hc21 (of_decide_eq_true z)) ?_
      refine mx_p_aln rfl ?_
      refine mx_p_aln rfl ?_
      refine mx_p_il rfl ?_
      have ho23 : l1 < hh.1 ∧ (mx_lay l1).1 = 3 := by
        by_cases hh : l1 < hh.1 ∧ (mx_lay l1).1 = 3
        · exact hh
        · rw [if_neg hh] at hq; cases hq
      rw [if_pos ho23] at hq
      obtain ⟨x22, hx22, hq⟩ := mx_bS hq
      refine mx_e_cv mx_t_X0_behindOf ho23 rfl rfl rfl ⟨Nat.le_of_ble_eq_true rfl, Nat.le_of_ble_eq_true rfl, Nat.le_of_ble_eq_true rfl⟩ (Nat.le_of_ble_eq_true rfl) rfl rfl rfl ⟨Nat.zero_le _, Nat.zero_le _⟩ (t_X0_behindOf hx22) ?_
      refine mx_p_al rfl ?_
      refine mx_p_il rfl ?_
      refine mx_p_il rfl ?_
      have ho25 : l5 < hh.1 ∧ (mx_lay l5).1 = 8 := by
        by_cases hh : l5 < hh.1 ∧ (mx_lay l5).1 = 8
        · exact hh
        · rw [if_neg hh] at hq; cases hq
      rw [if_pos ho25] at hq
      obtain ⟨x24, hx24, hq⟩ := mx_bS hq
      refine mx_e_cv mx_t_X5_leadingWith ho25 rfl rfl rfl ⟨Nat.le_of_ble_eq_true rfl, Nat.le_of_ble_eq_true rfl, Nat.le_of_ble_eq_true rfl⟩ (Nat.le_of_ble_eq_true rfl) rfl rfl rfl ⟨Nat.zero_le _, Nat.zero_le _⟩ (t_X5_leadingWith hx24) ?_
      refine mx_p_iand ?_
      have ho27 : l1 < hh.1 ∧ (mx_lay l1).1 = 3 := by
        by_cases hh : l1 < hh.1 ∧ (mx_lay l1).1 = 3
        · exact hh
        · rw [if_neg hh] at hq; cases hq
      rw [if_pos ho27] at hq
      obtain ⟨x26, hx26, hq⟩ := mx_bS hq
      refine mx_e_cv mx_t_X0_firstOf ho27 rfl rfl rfl ⟨Nat.le_of_ble_eq_true rfl, Nat.le_of_ble_eq_true rfl, Nat.le_of_ble_eq_true rfl⟩ (Nat.le_of_ble_eq_true rfl) rfl rfl rfl ⟨Nat.zero_le _, Nat.zero_le _⟩ (t_X0_firstOf hx26) ?_
      refine mx_p_is (loc' := [some (.ref l0), some (.ref l1), none, none, some (.int l4), some (.ref l5), some (.int x26), some (.int s7), some (.int s8)]) rfl ?_
      refine mx_p_aln rfl ?_
      obtain ⟨x28, hx28, hq⟩ := mx_bS hq
      refine mx_e_gr hx28 rfl ?_
      refine mx_p_il rfl ?_
      have ho30 : x28 < hh.1 ∧ (mx_lay x28).1 = 10 := by
        by_cases hh : x28 < hh.1 ∧ (mx_lay x28).1 = 10
        · exact hh
        · rw [if_neg hh] at hq; cases hq
      rw [if_pos ho30] at hq
      obtain ⟨x29, hx29, hq⟩ := mx_bS hq
      refine mx_e_cv mx_t_X7_add ho30 rfl rfl rfl ⟨Nat.le_of_ble_eq_true rfl, Nat.le_of_ble_eq_true rfl, Nat.le_of_ble_eq_true rfl⟩ (Nat.le_of_ble_eq_true rfl) rfl rfl rfl ⟨Nat.zero_le _, Nat.zero_le _⟩ (t_X7_add hx29) ?_
      refine mx_p_il rfl ?_
      obtain ⟨v33, hE, hK⟩ := mx_bS hq
      have HJ : mx_Ev mx_k_X8_follow mx_noS (mx_b_X8_follow 92, [some (.ref l0), some (.ref l1), none, none, some (.int l4), some (.ref l5), some (.int x26), none, some (.int s8)], [.int v33], x29, 0, 0) (none, res) := by
        replace hq := hK
        refine mx_p_is (loc' := [some (.ref l0), some (.ref l1), none, none, some (.int l4), some (.ref l5), some (.int x26), some (.int v33), some (.int s8)]) rfl ?_
        refine mx_p_inc (loc' := [some (.ref l0), some (.ref l1), none, none, some (.int l4), some (.ref l5), some (.int x26), some (.int v33), some (.int (s8 + (-1)))]) rfl rfl ?_
        refine mx_p_gt ?_
        have HB := ih x26 v33 (s8 + (-1)) x29 _ hq
        exact mx_Ev.weak (mx_le.same _ (mx_le.same _ (mx_le.same _ (mx_le.same _ (mx_le.same _ (mx_le.same _ (mx_le.same _ (mx_le.same _ (mx_le.same _ (mx_le.nil)))))))))) HB
      clear hK
      replace hq := hE
      by_cases hc31 : ¬ s7 = 0
      · rw [if_pos hc31] at hq
        refine mx_e_zt (decide_eq_true hc31) ?_
        refine mx_p_ic ?_
        refine mx_p_gt ?_
        cases hq; exact mx_Ev.weak (mx_le.same _ (mx_le.same _ (mx_le.same _ (mx_le.same _ (mx_le.same _ (mx_le.same _ (mx_le.same _ (mx_le.drop _ (mx_le.same _ (mx_le.nil)))))))))) HJ
      · rw [if_neg hc31] at hq
        refine mx_e_zf (fun z => hc31 (of_decide_eq_true z)) ?_
        refine mx_p_il rfl ?_
        refine mx_p_il rfl ?_
        by_cases hc32 : ¬ x26 = l4
        · rw [if_pos hc32] at hq
          refine mx_e_it (decide_eq_true hc32) ?_
          refine mx_p_ic ?_
          refine mx_p_np ?_
          cases hq; exact mx_Ev.weak (mx_le.same _ (mx_le.same _ (mx_le.same _ (mx_le.same _ (mx_le.same _ (mx_le.same _ (mx_le.same _ (mx_le.drop _ (mx_le.same _ (mx_le.nil)))))))))) HJ
        · rw [if_neg hc32] at hq
          refine mx_e_if (fun z => hc32 (of_decide_eq_true z)) ?_
          refine mx_p_np ?_
          refine mx_p_ic ?_
          refine mx_p_gt ?_
          cases hq; exact mx_Ev.weak (mx_le.same _ (mx_le.same _ (mx_le.same _ (mx_le.same _ (mx_le.same _ (mx_le.same _ (mx_le.same _ (mx_le.drop _ (mx_le.same _ (mx_le.nil)))))))))) HJ
set_option maxRecDepth 20000 in
set_option maxHeartbeats 1000000 in
theorem t_X8_follow {a0 : Nat} {a1 : Nat} {a2 : Int32} {a3 : Int32} {a4 : Int32} {h : mx_Hp} {res} (hq : f_X8_follow a0 a1 a2 a3 a4 h = some res) : mx_Ms mx_k_X8_follow [.ref a0, .ref a1, .int a2, .int a3, .int a4] h (none, res) := by
  unfold f_X8_follow at hq
  show mx_Ev mx_k_X8_follow mx_noS (mx_b_X8_follow 0, [some (.ref a0), some (.ref a1), some (.int a2), some (.int a3), some (.int a4), none, none, none, none], [], h, 0, 0) _
  refine mx_p_aln rfl ?_
  refine mx_p_aln rfl ?_
  refine mx_p_iln rfl ?_
  have ho35 : a0 < h.1 ∧ (mx_lay a0).1 = 11 := by
    by_cases hh : a0 < h.1 ∧ (mx_lay a0).1 = 11
    · exact hh
    · rw [if_neg hh] at hq; cases hq
  rw [if_pos ho35] at hq
  obtain ⟨x34, hx34, hq⟩ := mx_bS hq
  refine mx_e_cv mx_t_X8_openingBy ho35 rfl rfl rfl ⟨Nat.le_of_ble_eq_true rfl, Nat.le_of_ble_eq_true rfl, Nat.le_of_ble_eq_true rfl⟩ (Nat.le_of_ble_eq_true rfl) rfl rfl rfl ⟨Nat.zero_le _, Nat.zero_le _⟩ (t_X8_openingBy hx34) ?_
  refine mx_p_as (loc' := [some (.ref a0), some (.ref a1), some (.int a2), some (.int a3), some (.int a4), some (.ref x34), none, none, none]) rfl ?_
  refine mx_p_iln rfl ?_
  refine mx_p_is (loc' := [some (.ref a0), some (.ref a1), some (.int a2), some (.int a3), some (.int a4), some (.ref x34), some (.int a2), none, none]) rfl ?_
  refine mx_p_aln rfl ?_
  obtain ⟨x36, hx36, hq⟩ := mx_bS hq
  refine mx_e_gr hx36 rfl ?_
  refine mx_p_il rfl ?_
  have ho38 : x36 < h.1 ∧ (mx_lay x36).1 = 10 := by
    by_cases hh : x36 < h.1 ∧ (mx_lay x36).1 = 10
    · exact hh
    · rw [if_neg hh] at hq; cases hq
  rw [if_pos ho38] at hq
  obtain ⟨x37, hx37, hq⟩ := mx_bS hq
  refine mx_e_cv mx_t_X7_add ho38 rfl rfl rfl ⟨Nat.le_of_ble_eq_true rfl, Nat.le_of_ble_eq_true rfl, Nat.le_of_ble_eq_true rfl⟩ (Nat.le_of_ble_eq_true rfl) rfl rfl rfl ⟨Nat.zero_le _, Nat.zero_le _⟩ (t_X7_add hx37) ?_
  refine mx_p_il rfl ?_
  refine mx_p_il rfl ?_
  obtain ⟨v40, hE, hK⟩ := mx_bS hq
  have HJ : mx_Ev mx_k_X8_follow mx_noS (mx_b_X8_follow 32, [some (.ref a0), some (.ref a1), none, some (.int a3), some (.int a4), some (.ref x34), some (.int a2), none, none], [.int v40], x37, 0, 0) (none, res) := by
    replace hq := hK
    refine mx_p_is (loc' := [some (.ref a0), some (.ref a1), none, some (.int a3), some (.int a4), some (.ref x34), some (.int a2), some (.int v40), none]) rfl ?_
    refine mx_p_iln rfl ?_
    refine mx_p_ic ?_
    refine mx_p_isub ?_
    refine mx_p_is (loc' := [some (.ref a0), some (.ref a1), none, some (.int a3), some (.int a4), some (.ref x34), some (.int a2), some (.int v40), some (.int (a3 - 1))]) rfl ?_
    refine mx_p_np ?_
    refine mx_Ev.weak (mx_le.same _ (mx_le.same _ (mx_le.same _ (mx_le.drop _ (mx_le.same _ (mx_le.same _ (mx_le.same _ (mx_le.same _ (mx_le.same _ (mx_le.nil)))))))))) (e_f_X8_follow_L39 _ _ _ _  _ _ _ _ _ _ hq)
  clear hK
  replace hq := hE
  by_cases hc39 : ¬ a2 = a4
  · rw [if_pos hc39] at hq
    refine mx_e_it (decide_eq_true hc39) ?_
    refine mx_p_ic ?_
    refine mx_p_np ?_
    cases hq; exact mx_Ev.weak (mx_le.same _ (mx_le.same _ (mx_le.drop _ (mx_le.same _ (mx_le.same _ (mx_le.same _ (mx_le.same _ (mx_le.same _ (mx_le.same _ (mx_le.nil)))))))))) HJ
  · rw [if_neg hc39] at hq
    refine mx_e_if (fun z => hc39 (of_decide_eq_true z)) ?_
    refine mx_p_ic ?_
    refine mx_p_gt ?_
    cases hq; exact mx_Ev.weak (mx_le.same _ (mx_le.same _ (mx_le.drop _ (mx_le.same _ (mx_le.same _ (mx_le.same _ (mx_le.same _ (mx_le.same _ (mx_le.same _ (mx_le.nil)))))))))) HJ
set_option maxRecDepth 20000 in
set_option maxHeartbeats 1000000 in
theorem e_f_X8_followShortest_L2 (l0 : Nat) (l1 : Nat) (l2 : Int32)   : ∀ (n : Nat) (s3 : Int32) (hh : mx_Hp) res, mx_fix (f_X8_followShortest_L2 l0 l1 l2 ) n (s3, hh) = some res → mx_Ev mx_k_X8_followShortest mx_noS (mx_b_X8_followShortest 2, [some (.ref l0), some (.ref l1), some (.int l2), some (.int s3), none], [], hh, 0, 0) (none, res) := by
  intro n
  induction n with
  | zero => intro s3 hh res hq; cases hq
  | succ n ih =>
    intro s3 hh res hq
    unfold mx_fix at hq
    generalize mx_fix (f_X8_followShortest_L2 l0 l1 l2 ) n = S at hq ih
    unfold f_X8_followShortest_L2 at hq
    try dsimp only at hq
    refine mx_p_iln rfl ?_
    refine mx_p_bp ?_
    by_cases hc13 : 10 ≤ s3
    · rw [if_pos hc13] at hq
      refine mx_e_it (decide_eq_true hc13) ?_
      cases hq; exact mx_p_rv
    · rw [if_neg hc13] at hq
      refine mx_e_if (fun z => hc13 (of_decide_eq_true z)) ?_
      refine mx_p_aln rfl ?_
      refine mx_p_aln rfl ?_
      obtain ⟨x14, hx14, hq⟩ := mx_bS hq
      refine mx_e_gr hx14 rfl ?_
      refine mx_p_iln rfl ?_
      have ho16 : x14 < hh.1 ∧ (mx_lay x14).1 = 8 := by
        by_cases hh : x14 < hh.1 ∧ (mx_lay x14).1 = 8
        · exact hh
        · rw [if_neg hh] at hq; cases hq
      rw [if_pos ho16] at hq
      obtain ⟨x15, hx15, hq⟩ := mx_bS hq
      refine mx_e_cv mx_t_X5_firstsWith ho16 rfl rfl rfl ⟨Nat.le_of_ble_eq_true rfl, Nat.le_of_ble_eq_true rfl, Nat.le_of_ble_eq_true rfl⟩ (Nat.le_of_ble_eq_true rfl) rfl rfl rfl ⟨Nat.zero_le _, Nat.zero_le _⟩ (t_X5_firstsWith hx15) ?_
      refine mx_p_aln rfl ?_
      obtain ⟨x17, hx17, hq⟩ := mx_bS hq
      refine mx_e_gr hx17 rfl ?_
      refine mx_p_iln rfl ?_
      have ho19 : x17 < hh.1 ∧ (mx_lay x17).1 = 8 := by
        by_cases hh : x17 < hh.1 ∧ (mx_lay x17).1 = 8
        · exact hh
        · rw [if_neg hh] at hq; cases hq
      rw [if_pos ho19] at hq
      obtain ⟨x18, hx18, hq⟩ := mx_bS hq
      refine mx_e_cv mx_t_X5_firstsWith ho19 rfl rfl rfl ⟨Nat.le_of_ble_eq_true rfl, Nat.le_of_ble_eq_true rfl, Nat.le_of_ble_eq_true rfl⟩ (Nat.le_of_ble_eq_true rfl) rfl rfl rfl ⟨Nat.zero_le _, Nat.zero_le _⟩ (t_X5_firstsWith hx18) ?_
      refine mx_p_ior ?_
      have ho21 : l1 < hh.1 ∧ (mx_lay l1).1 = 3 := by
        by_cases hh : l1 < hh.1 ∧ (mx_lay l1).1 = 3
        · exact hh
        · rw [if_neg hh] at hq; cases hq
      rw [if_pos ho21] at hq
      obtain ⟨x20, hx20, hq⟩ := mx_bS hq
      refine mx_e_cv mx_t_X0_firstOf ho21 rfl rfl rfl ⟨Nat.le_of_ble_eq_true rfl, Nat.le_of_ble_eq_true rfl, Nat.le_of_ble_eq_true rfl⟩ (Nat.le_of_ble_eq_true rfl) rfl rfl rfl ⟨Nat.zero_le _, Nat.zero_le _⟩ (t_X0_firstOf hx20) ?_
      refine mx_p_is (loc' := [some (.ref l0), some (.ref l1), some (.int l2), some (.int s3), some (.int x20)]) rfl ?_
      refine mx_p_il rfl ?_
      refine mx_p_bp ?_
      by_cases hc22 : x20 = (-4)
      · rw [if_pos hc22] at hq
        refine mx_e_it (decide_eq_true hc22) ?_
        refine mx_p_inc (loc' := [some (.ref l0), some (.ref l1), some (.int l2), some (.int (s3 + 1)), some (.int x20)]) rfl rfl ?_
        refine mx_p_gt ?_
        have HB := ih (s3 + 1) hh _ hq
        exact mx_Ev.weak (mx_le.same _ (mx_le.same _ (mx_le.same _ (mx_le.same _ (mx_le.drop _ (mx_le.nil)))))) HB
      · rw [if_neg hc22] at hq
        refine mx_e_if (fun z => hc22 (of_decide_eq_true z)) ?_
        refine mx_p_aln rfl ?_
        refine mx_p_aln rfl ?_
        refine mx_p_il rfl ?_
        refine mx_p_iln rfl ?_
        refine mx_p_iln rfl ?_
        have ho24 : l0 < hh.1 ∧ (mx_lay l0).1 = 11 := by
          by_cases hh : l0 < hh.1 ∧ (mx_lay l0).1 = 11
          · exact hh
          · rw [if_neg hh] at hq; cases hq
        rw [if_pos ho24] at hq
        obtain ⟨x23, hx23, hq⟩ := mx_bS hq
        refine mx_e_cv mx_t_X8_follow ho24 rfl rfl rfl ⟨Nat.le_of_ble_eq_true rfl, Nat.le_of_ble_eq_true rfl, Nat.le_of_ble_eq_true rfl⟩ (Nat.le_of_ble_eq_true rfl) rfl rfl rfl ⟨Nat.zero_le _, Nat.zero_le _⟩ (t_X8_follow hx23) ?_
        cases hq; exact mx_p_rv
set_option maxRecDepth 20000 in
set_option maxHeartbeats 1000000 in
theorem t_X8_followShortest {a0 : Nat} {a1 : Nat} {a2 : Int32} {h : mx_Hp} {res} (hq : f_X8_followShortest a0 a1 a2 h = some res) : mx_Ms mx_k_X8_followShortest [.ref a0, .ref a1, .int a2] h (none, res) := by
  unfold f_X8_followShortest at hq
  show mx_Ev mx_k_X8_followShortest mx_noS (mx_b_X8_followShortest 0, [some (.ref a0), some (.ref a1), some (.int a2), none, none], [], h, 0, 0) _
  refine mx_p_ic ?_
  refine mx_p_isn (loc' := [some (.ref a0), some (.ref a1), some (.int a2), some (.int 0), none]) rfl ?_
  refine mx_p_np ?_
  refine mx_Ev.weak (mx_le.same _ (mx_le.same _ (mx_le.same _ (mx_le.same _ (mx_le.same _ (mx_le.nil)))))) (e_f_X8_followShortest_L2 _ _ _  _ _ _ _ hq)
set_option maxRecDepth 20000 in
set_option maxHeartbeats 1000000 in
theorem t_X8_findSafe {a0 : Nat} {a1 : Nat} {a2 : Nat} {a3 : Int32} {h : mx_Hp} {res} (hq : f_X8_findSafe a0 a1 a2 a3 h = some res) : mx_Ms mx_k_X8_findSafe [.ref a0, .ref a1, .ref a2, .int a3] h (none, res) := by
  unfold f_X8_findSafe at hq
  show mx_Ev mx_k_X8_findSafe mx_noS (mx_b_X8_findSafe 0, [some (.ref a0), some (.ref a1), some (.ref a2), some (.int a3)], [], h, 0, 0) _
  refine mx_p_aln rfl ?_
  refine mx_p_aln rfl ?_
  refine mx_p_aln rfl ?_
  have ho12 : a0 < h.1 ∧ (mx_lay a0).1 = 11 := by
    by_cases hh : a0 < h.1 ∧ (mx_lay a0).1 = 11
    · exact hh
    · rw [if_neg hh] at hq; cases hq
  rw [if_pos ho12] at hq
  obtain ⟨x11, hx11, hq⟩ := mx_bS hq
  refine mx_e_cv mx_t_X8_prepare ho12 rfl rfl rfl ⟨Nat.le_of_ble_eq_true rfl, Nat.le_of_ble_eq_true rfl, Nat.le_of_ble_eq_true rfl⟩ (Nat.le_of_ble_eq_true rfl) rfl rfl rfl ⟨Nat.zero_le _, Nat.zero_le _⟩ (t_X8_prepare hx11) ?_
  refine mx_p_aln rfl ?_
  obtain ⟨x13, hx13, hq⟩ := mx_bS hq
  refine mx_e_gr hx13 rfl ?_
  refine mx_p_aln rfl ?_
  refine mx_p_iln rfl ?_
  have ho15 : x13 < x11.1 ∧ (mx_lay x13).1 = 8 := by
    by_cases hh : x13 < x11.1 ∧ (mx_lay x13).1 = 8
    · exact hh
    · rw [if_neg hh] at hq; cases hq
  rw [if_pos ho15] at hq
  obtain ⟨x14, hx14, hq⟩ := mx_bS hq
  refine mx_e_cv mx_t_X5_seekSafe ho15 rfl rfl rfl ⟨Nat.le_of_ble_eq_true rfl, Nat.le_of_ble_eq_true rfl, Nat.le_of_ble_eq_true rfl⟩ (Nat.le_of_ble_eq_true rfl) rfl rfl rfl ⟨Nat.zero_le _, Nat.zero_le _⟩ (t_X5_seekSafe hx14) ?_
  refine mx_p_aln rfl ?_
  obtain ⟨x16, hx16, hq⟩ := mx_bS hq
  refine mx_e_gr hx16 rfl ?_
  refine mx_p_aln rfl ?_
  refine mx_p_iln rfl ?_
  have ho18 : x16 < x14.1 ∧ (mx_lay x16).1 = 8 := by
    by_cases hh : x16 < x14.1 ∧ (mx_lay x16).1 = 8
    · exact hh
    · rw [if_neg hh] at hq; cases hq
  rw [if_pos ho18] at hq
  obtain ⟨x17, hx17, hq⟩ := mx_bS hq
  refine mx_e_cv mx_t_X5_seekSafe ho18 rfl rfl rfl ⟨Nat.le_of_ble_eq_true rfl, Nat.le_of_ble_eq_true rfl, Nat.le_of_ble_eq_true rfl⟩ (Nat.le_of_ble_eq_true rfl) rfl rfl rfl ⟨Nat.zero_le _, Nat.zero_le _⟩ (t_X5_seekSafe hx17) ?_
  refine mx_p_aln rfl ?_
  refine mx_p_aln rfl ?_
  refine mx_p_iln rfl ?_
  have ho20 : a0 < x17.1 ∧ (mx_lay a0).1 = 11 := by
    by_cases hh : a0 < x17.1 ∧ (mx_lay a0).1 = 11
    · exact hh
    · rw [if_neg hh] at hq; cases hq
  rw [if_pos ho20] at hq
  obtain ⟨x19, hx19, hq⟩ := mx_bS hq
  refine mx_e_cv mx_t_X8_followShortest ho20 rfl rfl rfl ⟨Nat.le_of_ble_eq_true rfl, Nat.le_of_ble_eq_true rfl, Nat.le_of_ble_eq_true rfl⟩ (Nat.le_of_ble_eq_true rfl) rfl rfl rfl ⟨Nat.zero_le _, Nat.zero_le _⟩ (t_X8_followShortest hx19) ?_
  cases hq; exact mx_p_rv
set_option maxRecDepth 20000 in
set_option maxHeartbeats 1000000 in
theorem t_X8_findLure {a0 : Nat} {a1 : Nat} {a2 : Nat} {a3 : Int32} {h : mx_Hp} {res} (hq : f_X8_findLure a0 a1 a2 a3 h = some res) : mx_Ms mx_k_X8_findLure [.ref a0, .ref a1, .ref a2, .int a3] h (none, res) := by
  unfold f_X8_findLure at hq
  show mx_Ev mx_k_X8_findLure mx_noS (mx_b_X8_findLure 0, [some (.ref a0), some (.ref a1), some (.ref a2), some (.int a3)], [], h, 0, 0) _
  refine mx_p_aln rfl ?_
  refine mx_p_aln rfl ?_
  refine mx_p_aln rfl ?_
  have ho14 : a0 < h.1 ∧ (mx_lay a0).1 = 11 := by
    by_cases hh : a0 < h.1 ∧ (mx_lay a0).1 = 11
    · exact hh
    · rw [if_neg hh] at hq; cases hq
  rw [if_pos ho14] at hq
  obtain ⟨x13, hx13, hq⟩ := mx_bS hq
  refine mx_e_cv mx_t_X8_prepare ho14 rfl rfl rfl ⟨Nat.le_of_ble_eq_true rfl, Nat.le_of_ble_eq_true rfl, Nat.le_of_ble_eq_true rfl⟩ (Nat.le_of_ble_eq_true rfl) rfl rfl rfl ⟨Nat.zero_le _, Nat.zero_le _⟩ (t_X8_prepare hx13) ?_
  refine mx_p_aln rfl ?_
  obtain ⟨x15, hx15, hq⟩ := mx_bS hq
  refine mx_e_gr hx15 rfl ?_
  refine mx_p_aln rfl ?_
  refine mx_p_aln rfl ?_
  obtain ⟨x16, hx16, hq⟩ := mx_bS hq
  refine mx_e_gr hx16 rfl ?_
  refine mx_p_iln rfl ?_
  have ho18 : x15 < x13.1 ∧ (mx_lay x15).1 = 8 := by
    by_cases hh : x15 < x13.1 ∧ (mx_lay x15).1 = 8
    · exact hh
    · rw [if_neg hh] at hq; cases hq
  rw [if_pos ho18] at hq
  obtain ⟨x17, hx17, hq⟩ := mx_bS hq
  refine mx_e_cv mx_t_X5_seekLure ho18 rfl rfl rfl ⟨Nat.le_of_ble_eq_true rfl, Nat.le_of_ble_eq_true rfl, Nat.le_of_ble_eq_true rfl⟩ (Nat.le_of_ble_eq_true rfl) rfl rfl rfl ⟨Nat.zero_le _, Nat.zero_le _⟩ (t_X5_seekLure hx17) ?_
  refine mx_p_aln rfl ?_
  obtain ⟨x19, hx19, hq⟩ := mx_bS hq
  refine mx_e_gr hx19 rfl ?_
  refine mx_p_aln rfl ?_
  refine mx_p_aln rfl ?_
  obtain ⟨x20, hx20, hq⟩ := mx_bS hq
  refine mx_e_gr hx20 rfl ?_
  refine mx_p_iln rfl ?_
  have ho22 : x19 < x17.1 ∧ (mx_lay x19).1 = 8 := by
    by_cases hh : x19 < x17.1 ∧ (mx_lay x19).1 = 8
    · exact hh
    · rw [if_neg hh] at hq; cases hq
  rw [if_pos ho22] at hq
  obtain ⟨x21, hx21, hq⟩ := mx_bS hq
  refine mx_e_cv mx_t_X5_seekLure ho22 rfl rfl rfl ⟨Nat.le_of_ble_eq_true rfl, Nat.le_of_ble_eq_true rfl, Nat.le_of_ble_eq_true rfl⟩ (Nat.le_of_ble_eq_true rfl) rfl rfl rfl ⟨Nat.zero_le _, Nat.zero_le _⟩ (t_X5_seekLure hx21) ?_
  refine mx_p_aln rfl ?_
  refine mx_p_aln rfl ?_
  refine mx_p_bp ?_
  have ho24 : a0 < x21.1 ∧ (mx_lay a0).1 = 11 := by
    by_cases hh : a0 < x21.1 ∧ (mx_lay a0).1 = 11
    · exact hh
    · rw [if_neg hh] at hq; cases hq
  rw [if_pos ho24] at hq
  obtain ⟨x23, hx23, hq⟩ := mx_bS hq
  refine mx_e_cv mx_t_X8_followShortest ho24 rfl rfl rfl ⟨Nat.le_of_ble_eq_true rfl, Nat.le_of_ble_eq_true rfl, Nat.le_of_ble_eq_true rfl⟩ (Nat.le_of_ble_eq_true rfl) rfl rfl rfl ⟨Nat.zero_le _, Nat.zero_le _⟩ (t_X8_followShortest hx23) ?_
  cases hq; exact mx_p_rv
set_option maxRecDepth 20000 in
set_option maxHeartbeats 1000000 in
theorem e_f_X8_firstBehindWith_L3 (l1 : Nat) (l2 : Nat) (l3 : Int32) (l4 : Int32) (l5 : Int32) (h : mx_Hp)   : ∀ (n : Nat) (s6 : Int32) res, mx_fix (f_X8_firstBehindWith_L3 l1 l2 l3 l4 l5 h ) n s6 = some res → mx_Ev mx_k_X8_firstBehindWith mx_noS (mx_b_X8_firstBehindWith 3, [none, some (.ref l1), some (.ref l2), some (.int l3), some (.int l4), some (.int l5), some (.int s6)], [], h, 0, 0) (some (.int res), h) := by
  intro n
  induction n with
  | zero => intro s6 res hq; cases hq
  | succ n ih =>
    intro s6 res hq
    unfold mx_fix at hq
    generalize mx_fix (f_X8_firstBehindWith_L3 l1 l2 l3 l4 l5 h ) n = S at hq ih
    unfold f_X8_firstBehindWith_L3 at hq
    try dsimp only at hq
    refine mx_p_il rfl ?_
    refine mx_p_aln rfl ?_
    obtain ⟨x10, hx10, hq⟩ := mx_bS hq
    refine mx_e_gi hx10 (by decide) ?_
    by_cases hc11 : x10 ≤ s6
    · rw [if_pos hc11] at hq
      refine mx_e_it (decide_eq_true hc11) ?_
      refine mx_p_bp ?_
      cases hq; exact mx_e_ri rfl
    · rw [if_neg hc11] at hq
      refine mx_e_if (fun z => hc11 (of_decide_eq_true z)) ?_
      refine mx_p_aln rfl ?_
      refine mx_p_iln rfl ?_
      have ho13 : l1 < h.1 ∧ (mx_lay l1).1 = 3 := by
        by_cases hh : l1 < h.1 ∧ (mx_lay l1).1 = 3
        · exact hh
        · rw [if_neg hh] at hq; cases hq
      rw [if_pos ho13] at hq
      obtain ⟨x12, hx12, hq⟩ := mx_bS hq
      refine mx_e_cv mx_t_X0_behindOf ho13 rfl rfl rfl ⟨Nat.le_of_ble_eq_true rfl, Nat.le_of_ble_eq_true rfl, Nat.le_of_ble_eq_true rfl⟩ (Nat.le_of_ble_eq_true rfl) rfl rfl rfl ⟨Nat.zero_le _, Nat.zero_le _⟩ (t_X0_behindOf hx12) ?_
      refine mx_p_il rfl ?_
      obtain ⟨x14, hx14, hq⟩ := mx_bS hq
      refine mx_e_cs mx_t_X11_bit rfl rfl rfl ⟨Nat.le_of_ble_eq_true rfl, Nat.le_of_ble_eq_true rfl, Nat.le_of_ble_eq_true rfl⟩ (Nat.le_of_ble_eq_true rfl) rfl rfl ⟨Nat.zero_le _, Nat.zero_le _⟩ (t_X11_bit hx14) ?_
      refine mx_p_iand ?_
      by_cases hc15 : (x12 &&& x14) = 0
      · rw [if_pos hc15] at hq
        refine mx_e_zt (decide_eq_true hc15) ?_
        refine mx_p_inc (loc' := [none, some (.ref l1), some (.ref l2), some (.int l3), some (.int l4), some (.int l5), some (.int (s6 + 1))]) rfl rfl ?_
        refine mx_p_gt ?_
        have HB := ih (s6 + 1) _ hq
        exact mx_Ev.weak (mx_le.same _ (mx_le.same _ (mx_le.same _ (mx_le.same _ (mx_le.same _ (mx_le.same _ (mx_le.same _ (mx_le.nil)))))))) HB
      · rw [if_neg hc15] at hq
        refine mx_e_zf (fun z => hc15 (of_decide_eq_true z)) ?_
        refine mx_p_aln rfl ?_
        refine mx_p_il rfl ?_
        refine mx_p_il rfl ?_
        have ho17 : l2 < h.1 ∧ (mx_lay l2).1 = 8 := by
          by_cases hh : l2 < h.1 ∧ (mx_lay l2).1 = 8
          · exact hh
          · rw [if_neg hh] at hq; cases hq
        rw [if_pos ho17] at hq
        obtain ⟨x16, hx16, hq⟩ := mx_bS hq
        refine mx_e_cv mx_t_X5_tableAt ho17 rfl rfl rfl ⟨Nat.le_of_ble_eq_true rfl, Nat.le_of_ble_eq_true rfl, Nat.le_of_ble_eq_true rfl⟩ (Nat.le_of_ble_eq_true rfl) rfl rfl rfl ⟨Nat.zero_le _, Nat.zero_le _⟩ (t_X5_tableAt hx16) ?_
        refine mx_p_il rfl ?_
        by_cases hc18 : ¬ x16 = l5
        · rw [if_pos hc18] at hq
          refine mx_e_it (decide_eq_true hc18) ?_
          refine mx_p_inc (loc' := [none, some (.ref l1), some (.ref l2), some (.int l3), some (.int l4), some (.int l5), some (.int (s6 + 1))]) rfl rfl ?_
          refine mx_p_gt ?_
          have HB := ih (s6 + 1) _ hq
          exact mx_Ev.weak (mx_le.same _ (mx_le.same _ (mx_le.same _ (mx_le.same _ (mx_le.same _ (mx_le.same _ (mx_le.same _ (mx_le.nil)))))))) HB
        · rw [if_neg hc18] at hq
          refine mx_e_if (fun z => hc18 (of_decide_eq_true z)) ?_
          refine mx_p_il rfl ?_
          cases hq; exact mx_e_ri rfl
set_option maxRecDepth 20000 in
set_option maxHeartbeats 1000000 in
theorem t_X8_firstBehindWith {a0 : Nat} {a1 : Nat} {a2 : Nat} {a3 : Int32} {a4 : Int32} {a5 : Int32} {h : mx_Hp} {res} (hq : f_X8_firstBehindWith a0 a1 a2 a3 a4 a5 h = some res) : mx_Ms mx_k_X8_firstBehindWith [.ref a0, .ref a1, .ref a2, .int a3, .int a4, .int a5] h (some (.int res), h) := by
  unfold f_X8_firstBehindWith at hq
  show mx_Ev mx_k_X8_firstBehindWith mx_noS (mx_b_X8_firstBehindWith 0, [some (.ref a0), some (.ref a1), some (.ref a2), some (.int a3), some (.int a4), some (.int a5), none], [], h, 0, 0) _
  refine mx_p_ic ?_
  refine mx_p_is (loc' := [some (.ref a0), some (.ref a1), some (.ref a2), some (.int a3), some (.int a4), some (.int a5), some (.int 0)]) rfl ?_
  refine mx_p_np ?_
  refine mx_Ev.weak (mx_le.drop _ (mx_le.same _ (mx_le.same _ (mx_le.same _ (mx_le.same _ (mx_le.same _ (mx_le.same _ (mx_le.nil)))))))) (e_f_X8_firstBehindWith_L3 _ _ _ _ _ _  _ _ _ hq)
set_option maxRecDepth 20000 in
set_option maxHeartbeats 1000000 in
theorem e_f_X8_followWorth_L34 (l0 : Nat) (l1 : Nat) (l4 : Nat)   : ∀ (n : Nat) (s5 : Int32) (s6 : Int32) (hh : mx_Hp) res, mx_fix (f_X8_followWorth_L34 l0 l1 l4 ) n (s5, s6, hh) = some res → mx_Ev mx_k_X8_followWorth mx_noS (mx_b_X8_followWorth 34, [some (.ref l0), some (.ref l1), none, none, some (.ref l4), some (.int s5), some (.int s6), none], [], hh, 0, 0) (none, res) := by
  intro n
  induction n with
  | zero => intro s5 s6 hh res hq; cases hq
  | succ n ih =>
    intro s5 s6 hh res hq
    unfold mx_fix at hq
    generalize mx_fix (f_X8_followWorth_L34 l0 l1 l4 ) n = S at hq ih
    unfold f_X8_followWorth_L34 at hq
    try dsimp only at hq
    refine mx_p_il rfl ?_
    by_cases hc19 : s6 < 0
    · rw [if_pos hc19] at hq
      refine mx_e_zt (decide_eq_true hc19) ?_
      cases hq; exact mx_p_rv
    · rw [if_neg hc19] at hq
      refine mx_e_zf (fun z => hc19 (of_decide_eq_true z)) ?_
      refine mx_p_al rfl ?_
      refine mx_p_il rfl ?_
      refine mx_p_ic ?_
      refine mx_p_iadd ?_
      refine mx_p_il rfl ?_
      have ho21 : l4 < hh.1 ∧ (mx_lay l4).1 = 8 := by
        by_cases hh : l4 < hh.1 ∧ (mx_lay l4).1 = 8
        · exact hh
        · rw [if_neg hh] at hq; cases hq
      rw [if_pos ho21] at hq
      obtain ⟨x20, hx20, hq⟩ := mx_bS hq
      refine mx_e_cv mx_t_X5_tableAt ho21 rfl rfl rfl ⟨Nat.le_of_ble_eq_true rfl, Nat.le_of_ble_eq_true rfl, Nat.le_of_ble_eq_true rfl⟩ (Nat.le_of_ble_eq_true rfl) rfl rfl rfl ⟨Nat.zero_le _, Nat.zero_le _⟩ (t_X5_tableAt hx20) ?_
      refine mx_p_aln rfl ?_
      refine mx_p_il rfl ?_
      have ho23 : l1 < hh.1 ∧ (mx_lay l1).1 = 3 := by
        by_cases hh : l1 < hh.1 ∧ (mx_lay l1).1 = 3
        · exact hh
        · rw [if_neg hh] at hq; cases hq
      rw [if_pos ho23] at hq
      obtain ⟨x22, hx22, hq⟩ := mx_bS hq
      refine mx_e_cv mx_t_X0_worthOf ho23 rfl rfl rfl ⟨Nat.le_of_ble_eq_true rfl, Nat.le_of_ble_eq_true rfl, Nat.le_of_ble_eq_true rfl⟩ (Nat.le_of_ble_eq_true rfl) rfl rfl rfl ⟨Nat.zero_le _, Nat.zero_le _⟩ (t_X0_worthOf hx22) ?_
      refine mx_p_isub ?_
      refine mx_p_is (loc' := [some (.ref l0), some (.ref l1), none, none, some (.ref l4), some (.int s5), some (.int s6), some (.int (x20 - x22))]) rfl ?_
      refine mx_p_aln rfl ?_
      refine mx_p_aln rfl ?_
      refine mx_p_al rfl ?_
      refine mx_p_il rfl ?_
      refine mx_p_il rfl ?_
      refine mx_p_il rfl ?_
      have ho25 : l0 < hh.1 ∧ (mx_lay l0).1 = 11 := by
        by_cases hh : l0 < hh.1 ∧ (mx_lay l0).1 = 11
        · exact hh
        · rw [if_neg hh] at hq; cases hq
      rw [if_pos ho25] at hq
      obtain ⟨x24, hx24, hq⟩ := mx_bS hq
      refine mx_e_cv mx_t_X8_firstBehindWith ho25 rfl rfl rfl ⟨Nat.le_of_ble_eq_true rfl, Nat.le_of_ble_eq_true rfl, Nat.le_of_ble_eq_true rfl⟩ (Nat.le_of_ble_eq_true rfl) rfl rfl rfl ⟨Nat.zero_le _, Nat.zero_le _⟩ (t_X8_firstBehindWith hx24) ?_
      refine mx_p_is (loc' := [some (.ref l0), some (.ref l1), none, none, some (.ref l4), some (.int x24), some (.int s6), some (.int (x20 - x22))]) rfl ?_
      refine mx_p_aln rfl ?_
      obtain ⟨x26, hx26, hq⟩ := mx_bS hq
      refine mx_e_gr hx26 rfl ?_
      refine mx_p_il rfl ?_
      have ho28 : x26 < hh.1 ∧ (mx_lay x26).1 = 10 := by
        by_cases hh : x26 < hh.1 ∧ (mx_lay x26).1 = 10
        · exact hh
        · rw [if_neg hh] at hq; cases hq
      rw [if_pos ho28] at hq
      obtain ⟨x27, hx27, hq⟩ := mx_bS hq
      refine mx_e_cv mx_t_X7_add ho28 rfl rfl rfl ⟨Nat.le_of_ble_eq_true rfl, Nat.le_of_ble_eq_true rfl, Nat.le_of_ble_eq_true rfl⟩ (Nat.le_of_ble_eq_true rfl) rfl rfl rfl ⟨Nat.zero_le _, Nat.zero_le _⟩ (t_X7_add hx27) ?_
      refine mx_p_inc (loc' := [some (.ref l0), some (.ref l1), none, none, some (.ref l4), some (.int x24), some (.int (s6 + (-1))), some (.int (x20 - x22))]) rfl rfl ?_
      refine mx_p_gt ?_
      have HB := ih x24 (s6 + (-1)) x27 _ hq
      exact mx_Ev.weak (mx_le.same _ (mx_le.same _ (mx_le.same _ (mx_le.same _ (mx_le.same _ (mx_le.same _ (mx_le.same _ (mx_le.drop _ (mx_le.nil))))))))) HB
set_option maxRecDepth 20000 in
set_option maxHeartbeats 1000000 in
theorem t_X8_followWorth {a0 : Nat} {a1 : Nat} {a2 : Int32} {a3 : Int32} {h : mx_Hp} {res} (hq : f_X8_followWorth a0 a1 a2 a3 h = some res) : mx_Ms mx_k_X8_followWorth [.ref a0, .ref a1, .int a2, .int a3] h (none, res) := by
  unfold f_X8_followWorth at hq
  show mx_Ev mx_k_X8_followWorth mx_noS (mx_b_X8_followWorth 0, [some (.ref a0), some (.ref a1), some (.int a2), some (.int a3), none, none, none, none], [], h, 0, 0) _
  refine mx_p_aln rfl ?_
  refine mx_p_iln rfl ?_
  have ho30 : a1 < h.1 ∧ (mx_lay a1).1 = 3 := by
    by_cases hh : a1 < h.1 ∧ (mx_lay a1).1 = 3
    · exact hh
    · rw [if_neg hh] at hq; cases hq
  rw [if_pos ho30] at hq
  obtain ⟨x29, hx29, hq⟩ := mx_bS hq
  refine mx_e_cv mx_t_X0_has ho30 rfl rfl rfl ⟨Nat.le_of_ble_eq_true rfl, Nat.le_of_ble_eq_true rfl, Nat.le_of_ble_eq_true rfl⟩ (Nat.le_of_ble_eq_true rfl) rfl rfl rfl ⟨Nat.zero_le _, Nat.zero_le _⟩ (t_X0_has hx29) ?_
  by_cases hc31 : ¬ x29 = 0
  · rw [if_pos hc31] at hq
    refine mx_e_zt (decide_eq_true hc31) ?_
    refine mx_p_aln rfl ?_
    refine mx_p_aln rfl ?_
    refine mx_p_iln rfl ?_
    have ho33 : a0 < h.1 ∧ (mx_lay a0).1 = 11 := by
      by_cases hh : a0 < h.1 ∧ (mx_lay a0).1 = 11
      · exact hh
      · rw [if_neg hh] at hq; cases hq
    rw [if_pos ho33] at hq
    obtain ⟨x32, hx32, hq⟩ := mx_bS hq
    refine mx_e_cv mx_t_X8_openingBy ho33 rfl rfl rfl ⟨Nat.le_of_ble_eq_true rfl, Nat.le_of_ble_eq_true rfl, Nat.le_of_ble_eq_true rfl⟩ (Nat.le_of_ble_eq_true rfl) rfl rfl rfl ⟨Nat.zero_le _, Nat.zero_le _⟩ (t_X8_openingBy hx32) ?_
    refine mx_p_as (loc' := [some (.ref a0), some (.ref a1), some (.int a2), some (.int a3), some (.ref x32), none, none, none]) rfl ?_
    refine mx_p_iln rfl ?_
    refine mx_p_is (loc' := [some (.ref a0), some (.ref a1), some (.int a2), some (.int a3), some (.ref x32), some (.int a2), none, none]) rfl ?_
    refine mx_p_aln rfl ?_
    obtain ⟨x34, hx34, hq⟩ := mx_bS hq
    refine mx_e_gr hx34 rfl ?_
    refine mx_p_il rfl ?_
    have ho36 : x34 < h.1 ∧ (mx_lay x34).1 = 10 := by
      by_cases hh : x34 < h.1 ∧ (mx_lay x34).1 = 10
      · exact hh
      · rw [if_neg hh] at hq; cases hq
    rw [if_pos ho36] at hq
    obtain ⟨x35, hx35, hq⟩ := mx_bS hq
    refine mx_e_cv mx_t_X7_add ho36 rfl rfl rfl ⟨Nat.le_of_ble_eq_true rfl, Nat.le_of_ble_eq_true rfl, Nat.le_of_ble_eq_true rfl⟩ (Nat.le_of_ble_eq_true rfl) rfl rfl rfl ⟨Nat.zero_le _, Nat.zero_le _⟩ (t_X7_add hx35) ?_
    refine mx_p_iln rfl ?_
    refine mx_p_ic ?_
    refine mx_p_isub ?_
    refine mx_p_is (loc' := [some (.ref a0), some (.ref a1), some (.int a2), some (.int a3), some (.ref x32), some (.int a2), some (.int (a3 - 1)), none]) rfl ?_
    refine mx_p_np ?_
    refine mx_Ev.weak (mx_le.same _ (mx_le.same _ (mx_le.drop _ (mx_le.drop _ (mx_le.same _ (mx_le.same _ (mx_le.same _ (mx_le.same _ (mx_le.nil))))))))) (e_f_X8_followWorth_L34 _ _ _  _ _ _ _ _ hq)
  · rw [if_neg hc31] at hq
    refine mx_e_zf (fun z => hc31 (of_decide_eq_true z)) ?_
    cases hq; exact mx_p_rv
set_option maxRecDepth 20000 in
set_option maxHeartbeats 1000000 in
theorem e_f_X8_findBest_L46 (l0 : Nat) (l1 : Nat) (l3 : Int32) (l7 : Int32) (h : mx_Hp) (k96 : Int32 × Int32 × Int32 × Int32 → Option (Int32 × mx_Hp)) (Hk96 : ∀ (s4 : Int32) (s5 : Int32) (s6 : Int32) (s8 : Int32) res, k96 (s4, s5, s6, s8) = some res → mx_Ev mx_k_X8_findBest mx_noS (mx_b_X8_findBest 96, [some (.ref l0), some (.ref l1), none, some (.int l3), some (.int s4), some (.int s5), some (.int s6), some (.int l7), none, none], [], h, 0, 0) (some (.int res.1), res.2)) : ∀ (n : Nat) (s4 : Int32) (s5 : Int32) (s6 : Int32) (s8 : Int32) res, mx_fix (f_X8_findBest_L46 l0 l1 l3 l7 h k96) n (s4, s5, s6, s8) = some res → mx_Ev mx_k_X8_findBest mx_noS (mx_b_X8_findBest 46, [some (.ref l0), some (.ref l1), none, some (.int l3), some (.int s4), some (.int s5), some (.int s6), some (.int l7), some (.int s8), none], [], h, 0, 0) (some (.int res.1), res.2) := by
  intro n
  induction n with
  | zero => intro s4 s5 s6 s8 res hq; cases hq
  | succ n ih =>
    intro s4 s5 s6 s8 res hq
    unfold mx_fix at hq
    generalize mx_fix (f_X8_findBest_L46 l0 l1 l3 l7 h k96) n = S at hq ih
    unfold f_X8_findBest_L46 at hq
    try dsimp only at hq
    refine mx_p_il rfl ?_
    refine mx_p_aln rfl ?_
    obtain ⟨x18, hx18, hq⟩ := mx_bS hq
    refine mx_e_gi hx18 (by decide) ?_
    by_cases hc19 : x18 ≤ s8
    · rw [if_pos hc19] at hq
      refine mx_e_it (decide_eq_true hc19) ?_
      have HB := Hk96 s4 s5 s6 s8 _ hq
      exact mx_Ev.weak (mx_le.same _ (mx_le.same _ (mx_le.same _ (mx_le.same _ (mx_le.same _ (mx_le.same _ (mx_le.same _ (mx_le.same _ (mx_le.drop _ (mx_le.same _ (mx_le.nil))))))))))) HB
    · rw [if_neg hc19] at hq
      refine mx_e_if (fun z => hc19 (of_decide_eq_true z)) ?_
      refine mx_p_aln rfl ?_
      refine mx_p_aln rfl ?_
      refine mx_p_il rfl ?_
      have ho21 : l0 < h.1 ∧ (mx_lay l0).1 = 11 := by
        by_cases hh : l0 < h.1 ∧ (mx_lay l0).1 = 11
        · exact hh
        · rw [if_neg hh] at hq; cases hq
      rw [if_pos ho21] at hq
      obtain ⟨x20, hx20, hq⟩ := mx_bS hq
      refine mx_e_cv mx_t_X8_openingBy ho21 rfl rfl rfl ⟨Nat.le_of_ble_eq_true rfl, Nat.le_of_ble_eq_true rfl, Nat.le_of_ble_eq_true rfl⟩ (Nat.le_of_ble_eq_true rfl) rfl rfl rfl ⟨Nat.zero_le _, Nat.zero_le _⟩ (t_X8_openingBy hx20) ?_
      refine mx_p_il rfl ?_
      refine mx_p_il rfl ?_
      have ho23 : x20 < h.1 ∧ (mx_lay x20).1 = 8 := by
        by_cases hh : x20 < h.1 ∧ (mx_lay x20).1 = 8
        · exact hh
        · rw [if_neg hh] at hq; cases hq
      rw [if_pos ho23] at hq
      obtain ⟨x22, hx22, hq⟩ := mx_bS hq
      refine mx_e_cv mx_t_X5_tableAt ho23 rfl rfl rfl ⟨Nat.le_of_ble_eq_true rfl, Nat.le_of_ble_eq_true rfl, Nat.le_of_ble_eq_true rfl⟩ (Nat.le_of_ble_eq_true rfl) rfl rfl rfl ⟨Nat.zero_le _, Nat.zero_le _⟩ (t_X5_tableAt hx22) ?_
      refine mx_p_is (loc' := [some (.ref l0), some (.ref l1), none, some (.int l3), some (.int s4), some (.int s5), some (.int s6), some (.int l7), some (.int s8), some (.int x22)]) rfl ?_
      refine mx_p_il rfl ?_
      refine mx_p_il rfl ?_
      obtain ⟨v25, hE, hK⟩ := mx_bS hq
      have HJ : mx_Ev mx_k_X8_findBest mx_noS (mx_b_X8_findBest 90, [some (.ref l0), some (.ref l1), none, some (.int l3), some (.int v25.1), some (.int v25.2.1), some (.int v25.2.2), some (.int l7), some (.int s8), none], [], h, 0, 0) (some (.int res.1), res.2) := by
        replace hq := hK
        refine mx_p_inc (loc' := [some (.ref l0), some (.ref l1), none, some (.int l3), some (.int v25.1), some (.int v25.2.1), some (.int v25.2.2), some (.int l7), some (.int (s8 + 1)), none]) rfl rfl ?_
        refine mx_p_gt ?_
        have HB := ih v25.1 v25.2.1 v25.2.2 (s8 + 1) _ hq
        exact mx_Ev.weak (mx_le.same _ (mx_le.same _ (mx_le.same _ (mx_le.same _ (mx_le.same _ (mx_le.same _ (mx_le.same _ (mx_le.same _ (mx_le.same _ (mx_le.same _ (mx_le.nil))))))))))) HB
      clear hK
      replace hq := hE
      by_cases hc24 : x22 ≤ s4
      · rw [if_pos hc24] at hq
        refine mx_e_it (decide_eq_true hc24) ?_
        cases hq; exact mx_Ev.weak (mx_le.same _ (mx_le.same _ (mx_le.same _ (mx_le.same _ (mx_le.same _ (mx_le.same _ (mx_le.same _ (mx_le.same _ (mx_le.same _ (mx_le.drop _ (mx_le.nil))))))))))) HJ
      · rw [if_neg hc24] at hq
        refine mx_e_if (fun z => hc24 (of_decide_eq_true z)) ?_
        refine mx_p_il rfl ?_
        refine mx_p_is (loc' := [some (.ref l0), some (.ref l1), none, some (.int l3), some (.int x22), some (.int s5), some (.int s6), some (.int l7), some (.int s8), some (.int x22)]) rfl ?_
        refine mx_p_il rfl ?_
        refine mx_p_is (loc' := [some (.ref l0), some (.ref l1), none, some (.int l3), some (.int x22), some (.int s8), some (.int s6), some (.int l7), some (.int s8), some (.int x22)]) rfl ?_
        refine mx_p_il rfl ?_
        refine mx_p_is (loc' := [some (.ref l0), some (.ref l1), none, some (.int l3), some (.int x22), some (.int s8), some (.int l7), some (.int l7), some (.int s8), some (.int x22)]) rfl ?_
        refine mx_p_np ?_
        cases hq; exact mx_Ev.weak (mx_le.same _ (mx_le.same _ (mx_le.same _ (mx_le.same _ (mx_le.same _ (mx_le.same _ (mx_le.same _ (mx_le.same _ (mx_le.same _ (mx_le.drop _ (mx_le.nil))))))))))) HJ
set_option maxRecDepth 20000 in
set_option maxHeartbeats 1000000 in
theorem e_f_X8_findBest_L37 (l0 : Nat) (l1 : Nat) (l3 : Int32) (h : mx_Hp) (k102 : Int32 × Int32 × Int32 × Int32 → Option (Int32 × mx_Hp)) (Hk102 : ∀ (s4 : Int32) (s5 : Int32) (s6 : Int32) (s7 : Int32) res, k102 (s4, s5, s6, s7) = some res → mx_Ev mx_k_X8_findBest mx_noS (mx_b_X8_findBest 102, [some (.ref l0), some (.ref l1), none, none, some (.int s4), some (.int s5), some (.int s6), none, none, none], [], h, 0, 0) (some (.int res.1), res.2)) : ∀ (n : Nat) (s4 : Int32) (s5 : Int32) (s6 : Int32) (s7 : Int32) res, mx_fix (f_X8_findBest_L37 l0 l1 l3 h k102) n (s4, s5, s6, s7) = some res → mx_Ev mx_k_X8_findBest mx_noS (mx_b_X8_findBest 37, [some (.ref l0), some (.ref l1), none, some (.int l3), some (.int s4), some (.int s5), some (.int s6), some (.int s7), none, none], [], h, 0, 0) (some (.int res.1), res.2) := by
  intro n
  induction n with
  | zero => intro s4 s5 s6 s7 res hq; cases hq
  | succ n ih =>
    intro s4 s5 s6 s7 res hq
    unfold mx_fix at hq
    generalize mx_fix (f_X8_findBest_L37 l0 l1 l3 h k102) n = S at hq ih
    unfold f_X8_findBest_L37 at hq
    try dsimp only at hq
    refine mx_p_il rfl ?_
    refine mx_p_iln rfl ?_
    by_cases hc27 : l3 ≤ s7
    · rw [if_pos hc27] at hq
      refine mx_e_it (decide_eq_true hc27) ?_
      have HB := Hk102 s4 s5 s6 s7 _ hq
      exact mx_Ev.weak (mx_le.same _ (mx_le.same _ (mx_le.same _ (mx_le.drop _ (mx_le.same _ (mx_le.same _ (mx_le.same _ (mx_le.drop _ (mx_le.same _ (mx_le.same _ (mx_le.nil))))))))))) HB
    · rw [if_neg hc27] at hq
      refine mx_e_if (fun z => hc27 (of_decide_eq_true z)) ?_
      refine mx_p_ic ?_
      refine mx_p_is (loc' := [some (.ref l0), some (.ref l1), none, some (.int l3), some (.int s4), some (.int s5), some (.int s6), some (.int s7), some (.int 0), none]) rfl ?_
      refine mx_p_np ?_
      refine mx_Ev.weak (mx_le.same _ (mx_le.same _ (mx_le.same _ (mx_le.same _ (mx_le.same _ (mx_le.same _ (mx_le.same _ (mx_le.same _ (mx_le.same _ (mx_le.same _ (mx_le.nil))))))))))) (e_f_X8_findBest_L46 _ _ _ _ _ _ ?_ _ _ _ _ _ _ hq)
      · intro c28 c29 c30 c31 res hq
        try dsimp only at hq
        refine mx_p_inc (loc' := [some (.ref l0), some (.ref l1), none, some (.int l3), some (.int c28), some (.int c29), some (.int c30), some (.int (s7 + 1)), none, none]) rfl rfl ?_
        refine mx_p_gt ?_
        have HB := ih c28 c29 c30 (s7 + 1) _ hq
        exact mx_Ev.weak (mx_le.same _ (mx_le.same _ (mx_le.same _ (mx_le.same _ (mx_le.same _ (mx_le.same _ (mx_le.same _ (mx_le.same _ (mx_le.same _ (mx_le.same _ (mx_le.nil))))))))))) HB
set_option maxRecDepth 20000 in
set_option maxHeartbeats 1000000 in
theorem t_X8_findBest {a0 : Nat} {a1 : Nat} {a2 : Nat} {a3 : Int32} {h : mx_Hp} {res} (hq : f_X8_findBest a0 a1 a2 a3 h = some res) : mx_Ms mx_k_X8_findBest [.ref a0, .ref a1, .ref a2, .int a3] h (some (.int res.1), res.2) := by
  unfold f_X8_findBest at hq
  show mx_Ev mx_k_X8_findBest mx_noS (mx_b_X8_findBest 0, [some (.ref a0), some (.ref a1), some (.ref a2), some (.int a3), none, none, none, none, none, none], [], h, 0, 0) _
  refine mx_p_aln rfl ?_
  refine mx_p_aln rfl ?_
  refine mx_p_aln rfl ?_
  have ho36 : a0 < h.1 ∧ (mx_lay a0).1 = 11 := by
    by_cases hh : a0 < h.1 ∧ (mx_lay a0).1 = 11
    · exact hh
    · rw [if_neg hh] at hq; cases hq
  rw [if_pos ho36] at hq
  obtain ⟨x35, hx35, hq⟩ := mx_bS hq
  refine mx_e_cv mx_t_X8_prepare ho36 rfl rfl rfl ⟨Nat.le_of_ble_eq_true rfl, Nat.le_of_ble_eq_true rfl, Nat.le_of_ble_eq_true rfl⟩ (Nat.le_of_ble_eq_true rfl) rfl rfl rfl ⟨Nat.zero_le _, Nat.zero_le _⟩ (t_X8_prepare hx35) ?_
  refine mx_p_aln rfl ?_
  obtain ⟨x37, hx37, hq⟩ := mx_bS hq
  refine mx_e_gr hx37 rfl ?_
  refine mx_p_aln rfl ?_
  refine mx_p_iln rfl ?_
  have ho39 : x37 < x35.1 ∧ (mx_lay x37).1 = 8 := by
    by_cases hh : x37 < x35.1 ∧ (mx_lay x37).1 = 8
    · exact hh
    · rw [if_neg hh] at hq; cases hq
  rw [if_pos ho39] at hq
  obtain ⟨x38, hx38, hq⟩ := mx_bS hq
  refine mx_e_cv mx_t_X5_tableWorths ho39 rfl rfl rfl ⟨Nat.le_of_ble_eq_true rfl, Nat.le_of_ble_eq_true rfl, Nat.le_of_ble_eq_true rfl⟩ (Nat.le_of_ble_eq_true rfl) rfl rfl rfl ⟨Nat.zero_le _, Nat.zero_le _⟩ (t_X5_tableWorths hx38) ?_
  refine mx_p_aln rfl ?_
  obtain ⟨x40, hx40, hq⟩ := mx_bS hq
  refine mx_e_gr hx40 rfl ?_
  refine mx_p_aln rfl ?_
  refine mx_p_iln rfl ?_
  have ho42 : x40 < x38.1 ∧ (mx_lay x40).1 = 8 := by
    by_cases hh : x40 < x38.1 ∧ (mx_lay x40).1 = 8
    · exact hh
    · rw [if_neg hh] at hq; cases hq
  rw [if_pos ho42] at hq
  obtain ⟨x41, hx41, hq⟩ := mx_bS hq
  refine mx_e_cv mx_t_X5_tableWorths ho42 rfl rfl rfl ⟨Nat.le_of_ble_eq_true rfl, Nat.le_of_ble_eq_true rfl, Nat.le_of_ble_eq_true rfl⟩ (Nat.le_of_ble_eq_true rfl) rfl rfl rfl ⟨Nat.zero_le _, Nat.zero_le _⟩ (t_X5_tableWorths hx41) ?_
  refine mx_p_ic ?_
  refine mx_p_is (loc' := [some (.ref a0), some (.ref a1), some (.ref a2), some (.int a3), some (.int (-1)), none, none, none, none, none]) rfl ?_
  refine mx_p_bp ?_
  refine mx_p_is (loc' := [some (.ref a0), some (.ref a1), some (.ref a2), some (.int a3), some (.int (-1)), some (.int (-4)), none, none, none, none]) rfl ?_
  refine mx_p_ic ?_
  refine mx_p_is (loc' := [some (.ref a0), some (.ref a1), some (.ref a2), some (.int a3), some (.int (-1)), some (.int (-4)), some (.int 0), none, none, none]) rfl ?_
  refine mx_p_ic ?_
  refine mx_p_is (loc' := [some (.ref a0), some (.ref a1), some (.ref a2), some (.int a3), some (.int (-1)), some (.int (-4)), some (.int 0), some (.int 0), none, none]) rfl ?_
  refine mx_p_np ?_
  refine mx_Ev.weak (mx_le.same _ (mx_le.same _ (mx_le.drop _ (mx_le.same _ (mx_le.same _ (mx_le.same _ (mx_le.same _ (mx_le.same _ (mx_le.same _ (mx_le.same _ (mx_le.nil))))))))))) (e_f_X8_findBest_L37 _ _ _ _ _ ?_ _ _ _ _ _ _ hq)
  · intro c43 c44 c45 c46 res hq
    try dsimp only at hq
    refine mx_p_aln rfl ?_
    refine mx_p_aln rfl ?_
    refine mx_p_il rfl ?_
    refine mx_p_il rfl ?_
    have ho48 : a0 < x41.1 ∧ (mx_lay a0).1 = 11 := by
      by_cases hh : a0 < x41.1 ∧ (mx_lay a0).1 = 11
      · exact hh
      · rw [if_neg hh] at hq; cases hq
    rw [if_pos ho48] at hq
    obtain ⟨x47, hx47, hq⟩ := mx_bS hq
    refine mx_e_cv mx_t_X8_followWorth ho48 rfl rfl rfl ⟨Nat.le_of_ble_eq_true rfl, Nat.le_of_ble_eq_true rfl, Nat.le_of_ble_eq_true rfl⟩ (Nat.le_of_ble_eq_true rfl) rfl rfl rfl ⟨Nat.zero_le _, Nat.zero_le _⟩ (t_X8_followWorth hx47) ?_
    refine mx_p_il rfl ?_
    cases hq; exact mx_e_ri rfl
set_option maxRecDepth 20000 in
set_option maxHeartbeats 1000000 in
theorem e_f_X8_countWays_L34 (l0 : Nat) (l1 : Nat) (l3 : Int32) (h : mx_Hp)   : ∀ (n : Nat) (s5 : Int32) (s6 : Int32) res, mx_fix (f_X8_countWays_L34 l0 l1 l3 h ) n (s5, s6) = some res → mx_Ev mx_k_X8_countWays mx_noS (mx_b_X8_countWays 34, [some (.ref l0), some (.ref l1), none, some (.int l3), none, some (.int s5), some (.int s6)], [], h, 0, 0) (some (.int res.1), res.2) := by
  intro n
  induction n with
  | zero => intro s5 s6 res hq; cases hq
  | succ n ih =>
    intro s5 s6 res hq
    unfold mx_fix at hq
    generalize mx_fix (f_X8_countWays_L34 l0 l1 l3 h ) n = S at hq ih
    unfold f_X8_countWays_L34 at hq
    try dsimp only at hq
    refine mx_p_il rfl ?_
    refine mx_p_aln rfl ?_
    obtain ⟨x15, hx15, hq⟩ := mx_bS hq
    refine mx_e_gi hx15 (by decide) ?_
    by_cases hc16 : x15 ≤ s6
    · rw [if_pos hc16] at hq
      refine mx_e_it (decide_eq_true hc16) ?_
      refine mx_p_il rfl ?_
      cases hq; exact mx_e_ri rfl
    · rw [if_neg hc16] at hq
      refine mx_e_if (fun z => hc16 (of_decide_eq_true z)) ?_
      refine mx_p_il rfl ?_
      refine mx_p_aln rfl ?_
      refine mx_p_aln rfl ?_
      refine mx_p_il rfl ?_
      have ho18 : l0 < h.1 ∧ (mx_lay l0).1 = 11 := by
        by_cases hh : l0 < h.1 ∧ (mx_lay l0).1 = 11
        · exact hh
        · rw [if_neg hh] at hq; cases hq
      rw [if_pos ho18] at hq
      obtain ⟨x17, hx17, hq⟩ := mx_bS hq
      refine mx_e_cv mx_t_X8_openingBy ho18 rfl rfl rfl ⟨Nat.le_of_ble_eq_true rfl, Nat.le_of_ble_eq_true rfl, Nat.le_of_ble_eq_true rfl⟩ (Nat.le_of_ble_eq_true rfl) rfl rfl rfl ⟨Nat.zero_le _, Nat.zero_le _⟩ (t_X8_openingBy hx17) ?_
      refine mx_p_iln rfl ?_
      refine mx_p_ic ?_
      refine mx_p_isub ?_
      refine mx_p_il rfl ?_
      have ho20 : x17 < h.1 ∧ (mx_lay x17).1 = 8 := by
        by_cases hh : x17 < h.1 ∧ (mx_lay x17).1 = 8
        · exact hh
        · rw [if_neg hh] at hq; cases hq
      rw [if_pos ho20] at hq
      obtain ⟨x19, hx19, hq⟩ := mx_bS hq
      refine mx_e_cv mx_t_X5_tableAt ho20 rfl rfl rfl ⟨Nat.le_of_ble_eq_true rfl, Nat.le_of_ble_eq_true rfl, Nat.le_of_ble_eq_true rfl⟩ (Nat.le_of_ble_eq_true rfl) rfl rfl rfl ⟨Nat.zero_le _, Nat.zero_le _⟩ (t_X5_tableAt hx19) ?_
      refine mx_p_iadd ?_
      refine mx_p_is (loc' := [some (.ref l0), some (.ref l1), none, some (.int l3), none, some (.int (s5 + x19)), some (.int s6)]) rfl ?_
      refine mx_p_inc (loc' := [some (.ref l0), some (.ref l1), none, some (.int l3), none, some (.int (s5 + x19)), some (.int (s6 + 1))]) rfl rfl ?_
      refine mx_p_gt ?_
      have HB := ih (s5 + x19) (s6 + 1) _ hq
      exact mx_Ev.weak (mx_le.same _ (mx_le.same _ (mx_le.same _ (mx_le.same _ (mx_le.same _ (mx_le.same _ (mx_le.same _ (mx_le.nil)))))))) HB
set_option maxRecDepth 20000 in
set_option maxHeartbeats 1000000 in
theorem t_X8_countWays {a0 : Nat} {a1 : Nat} {a2 : Nat} {a3 : Int32} {a4 : Int32} {h : mx_Hp} {res} (hq : f_X8_countWays a0 a1 a2 a3 a4 h = some res) : mx_Ms mx_k_X8_countWays [.ref a0, .ref a1, .ref a2, .int a3, .int a4] h (some (.int res.1), res.2) := by
  unfold f_X8_countWays at hq
  show mx_Ev mx_k_X8_countWays mx_noS (mx_b_X8_countWays 0, [some (.ref a0), some (.ref a1), some (.ref a2), some (.int a3), some (.int a4), none, none], [], h, 0, 0) _
  refine mx_p_aln rfl ?_
  refine mx_p_aln rfl ?_
  refine mx_p_aln rfl ?_
  have ho22 : a0 < h.1 ∧ (mx_lay a0).1 = 11 := by
    by_cases hh : a0 < h.1 ∧ (mx_lay a0).1 = 11
    · exact hh
    · rw [if_neg hh] at hq; cases hq
  rw [if_pos ho22] at hq
  obtain ⟨x21, hx21, hq⟩ := mx_bS hq
  refine mx_e_cv mx_t_X8_prepare ho22 rfl rfl rfl ⟨Nat.le_of_ble_eq_true rfl, Nat.le_of_ble_eq_true rfl, Nat.le_of_ble_eq_true rfl⟩ (Nat.le_of_ble_eq_true rfl) rfl rfl rfl ⟨Nat.zero_le _, Nat.zero_le _⟩ (t_X8_prepare hx21) ?_
  refine mx_p_aln rfl ?_
  obtain ⟨x23, hx23, hq⟩ := mx_bS hq
  refine mx_e_gr hx23 rfl ?_
  refine mx_p_aln rfl ?_
  refine mx_p_iln rfl ?_
  refine mx_p_il rfl ?_
  have ho25 : x23 < x21.1 ∧ (mx_lay x23).1 = 8 := by
    by_cases hh : x23 < x21.1 ∧ (mx_lay x23).1 = 8
    · exact hh
    · rw [if_neg hh] at hq; cases hq
  rw [if_pos ho25] at hq
  obtain ⟨x24, hx24, hq⟩ := mx_bS hq
  refine mx_e_cv mx_t_X5_tableWays ho25 rfl rfl rfl ⟨Nat.le_of_ble_eq_true rfl, Nat.le_of_ble_eq_true rfl, Nat.le_of_ble_eq_true rfl⟩ (Nat.le_of_ble_eq_true rfl) rfl rfl rfl ⟨Nat.zero_le _, Nat.zero_le _⟩ (t_X5_tableWays hx24) ?_
  refine mx_p_aln rfl ?_
  obtain ⟨x26, hx26, hq⟩ := mx_bS hq
  refine mx_e_gr hx26 rfl ?_
  refine mx_p_aln rfl ?_
  refine mx_p_iln rfl ?_
  refine mx_p_il rfl ?_
  have ho28 : x26 < x24.1 ∧ (mx_lay x26).1 = 8 := by
    by_cases hh : x26 < x24.1 ∧ (mx_lay x26).1 = 8
    · exact hh
    · rw [if_neg hh] at hq; cases hq
  rw [if_pos ho28] at hq
  obtain ⟨x27, hx27, hq⟩ := mx_bS hq
  refine mx_e_cv mx_t_X5_tableWays ho28 rfl rfl rfl ⟨Nat.le_of_ble_eq_true rfl, Nat.le_of_ble_eq_true rfl, Nat.le_of_ble_eq_true rfl⟩ (Nat.le_of_ble_eq_true rfl) rfl rfl rfl ⟨Nat.zero_le _, Nat.zero_le _⟩ (t_X5_tableWays hx27) ?_
  refine mx_p_ic ?_
  refine mx_p_is (loc' := [some (.ref a0), some (.ref a1), some (.ref a2), some (.int a3), some (.int a4), some (.int 0), none]) rfl ?_
  refine mx_p_ic ?_
  refine mx_p_is (loc' := [some (.ref a0), some (.ref a1), some (.ref a2), some (.int a3), some (.int a4), some (.int 0), some (.int 0)]) rfl ?_
  refine mx_p_np ?_
  refine mx_Ev.weak (mx_le.same _ (mx_le.same _ (mx_le.drop _ (mx_le.same _ (mx_le.drop _ (mx_le.same _ (mx_le.same _ (mx_le.nil)))))))) (e_f_X8_countWays_L34 _ _ _ _  _ _ _ _ hq)
set_option maxRecDepth 20000 in
set_option maxHeartbeats 1000000 in
theorem e_f_X8_winnerBehind_L15 (l1 : Nat) (l2 : Int32) (h : mx_Hp) (k62 : Int32 × Int32 × Int32 → Option (Int32)) (Hk62 : ∀ (s3 : Int32) (s4 : Int32) (s5 : Int32) res, k62 (s3, s4, s5) = some res → mx_Ev mx_k_X8_winnerBehind mx_noS (mx_b_X8_winnerBehind 62, [none, none, some (.int l2), some (.int s3), some (.int s4), none], [], h, 0, 0) (some (.int res), h)) : ∀ (n : Nat) (s3 : Int32) (s4 : Int32) (s5 : Int32) res, mx_fix (f_X8_winnerBehind_L15 l1 l2 h k62) n (s3, s4, s5) = some res → mx_Ev mx_k_X8_winnerBehind mx_noS (mx_b_X8_winnerBehind 15, [none, some (.ref l1), some (.int l2), some (.int s3), some (.int s4), some (.int s5)], [], h, 0, 0) (some (.int res), h) := by
  intro n
  induction n with
  | zero => intro s3 s4 s5 res hq; cases hq
  | succ n ih =>
    intro s3 s4 s5 res hq
    unfold mx_fix at hq
    generalize mx_fix (f_X8_winnerBehind_L15 l1 l2 h k62) n = S at hq ih
    unfold f_X8_winnerBehind_L15 at hq
    try dsimp only at hq
    refine mx_p_il rfl ?_
    refine mx_p_bp ?_
    by_cases hc13 : 10 ≤ s5
    · rw [if_pos hc13] at hq
      refine mx_e_it (decide_eq_true hc13) ?_
      have HB := Hk62 s3 s4 s5 _ hq
      exact mx_Ev.weak (mx_le.same _ (mx_le.drop _ (mx_le.same _ (mx_le.same _ (mx_le.same _ (mx_le.drop _ (mx_le.nil))))))) HB
    · rw [if_neg hc13] at hq
      refine mx_e_if (fun z => hc13 (of_decide_eq_true z)) ?_
      refine mx_p_aln rfl ?_
      have ho15 : l1 < h.1 ∧ (mx_lay l1).1 = 3 := by
        by_cases hh : l1 < h.1 ∧ (mx_lay l1).1 = 3
        · exact hh
        · rw [if_neg hh] at hq; cases hq
      rw [if_pos ho15] at hq
      obtain ⟨x14, hx14, hq⟩ := mx_bS hq
      refine mx_e_cv mx_t_X0_allWords ho15 rfl rfl rfl ⟨Nat.le_of_ble_eq_true rfl, Nat.le_of_ble_eq_true rfl, Nat.le_of_ble_eq_true rfl⟩ (Nat.le_of_ble_eq_true rfl) rfl rfl rfl ⟨Nat.zero_le _, Nat.zero_le _⟩ (t_X0_allWords hx14) ?_
      refine mx_p_iln rfl ?_
      refine mx_p_ic ?_
      refine mx_p_ixor ?_
      refine mx_p_iand ?_
      refine mx_p_aln rfl ?_
      refine mx_p_aln rfl ?_
      have ho17 : l1 < h.1 ∧ (mx_lay l1).1 = 3 := by
        by_cases hh : l1 < h.1 ∧ (mx_lay l1).1 = 3
        · exact hh
        · rw [if_neg hh] at hq; cases hq
      rw [if_pos ho17] at hq
      obtain ⟨x16, hx16, hq⟩ := mx_bS hq
      refine mx_e_cv mx_t_X0_allWords ho17 rfl rfl rfl ⟨Nat.le_of_ble_eq_true rfl, Nat.le_of_ble_eq_true rfl, Nat.le_of_ble_eq_true rfl⟩ (Nat.le_of_ble_eq_true rfl) rfl rfl rfl ⟨Nat.zero_le _, Nat.zero_le _⟩ (t_X0_allWords hx16) ?_
      refine mx_p_iln rfl ?_
      refine mx_p_ic ?_
      refine mx_p_ixor ?_
      refine mx_p_iand ?_
      have ho19 : l1 < h.1 ∧ (mx_lay l1).1 = 3 := by
        by_cases hh : l1 < h.1 ∧ (mx_lay l1).1 = 3
        · exact hh
        · rw [if_neg hh] at hq; cases hq
      rw [if_pos ho19] at hq
      obtain ⟨x18, hx18, hq⟩ := mx_bS hq
      refine mx_e_cv mx_t_X0_aheadOf ho19 rfl rfl rfl ⟨Nat.le_of_ble_eq_true rfl, Nat.le_of_ble_eq_true rfl, Nat.le_of_ble_eq_true rfl⟩ (Nat.le_of_ble_eq_true rfl) rfl rfl rfl ⟨Nat.zero_le _, Nat.zero_le _⟩ (t_X0_aheadOf hx18) ?_
      refine mx_p_ic ?_
      refine mx_p_ixor ?_
      refine mx_p_iand ?_
      refine mx_p_is (loc' := [none, some (.ref l1), some (.int l2), some (.int s3), some (.int ((x14 &&& (s3 ^^^ (-1))) &&& (x18 ^^^ (-1)))), some (.int s5)]) rfl ?_
      refine mx_p_iln rfl ?_
      refine mx_p_aln rfl ?_
      refine mx_p_il rfl ?_
      have ho21 : l1 < h.1 ∧ (mx_lay l1).1 = 3 := by
        by_cases hh : l1 < h.1 ∧ (mx_lay l1).1 = 3
        · exact hh
        · rw [if_neg hh] at hq; cases hq
      rw [if_pos ho21] at hq
      obtain ⟨x20, hx20, hq⟩ := mx_bS hq
      refine mx_e_cv mx_t_X0_aheadOf ho21 rfl rfl rfl ⟨Nat.le_of_ble_eq_true rfl, Nat.le_of_ble_eq_true rfl, Nat.le_of_ble_eq_true rfl⟩ (Nat.le_of_ble_eq_true rfl) rfl rfl rfl ⟨Nat.zero_le _, Nat.zero_le _⟩ (t_X0_aheadOf hx20) ?_
      refine mx_p_ior ?_
      refine mx_p_isn (loc' := [none, some (.ref l1), some (.int l2), some (.int (s3 ||| x20)), some (.int ((x14 &&& (s3 ^^^ (-1))) &&& (x18 ^^^ (-1)))), some (.int s5)]) rfl ?_
      refine mx_p_inc (loc' := [none, some (.ref l1), some (.int l2), some (.int (s3 ||| x20)), some (.int ((x14 &&& (s3 ^^^ (-1))) &&& (x18 ^^^ (-1)))), some (.int (s5 + 1))]) rfl rfl ?_
      refine mx_p_gt ?_
      have HB := ih (s3 ||| x20) ((x14 &&& (s3 ^^^ (-1))) &&& (x18 ^^^ (-1))) (s5 + 1) _ hq
      exact mx_Ev.weak (mx_le.same _ (mx_le.same _ (mx_le.same _ (mx_le.same _ (mx_le.same _ (mx_le.same _ (mx_le.nil))))))) HB
set_option maxRecDepth 20000 in
set_option maxHeartbeats 1000000 in
theorem t_X8_winnerBehind {a0 : Nat} {a1 : Nat} {a2 : Int32} {h : mx_Hp} {res} (hq : f_X8_winnerBehind a0 a1 a2 h = some res) : mx_Ms mx_k_X8_winnerBehind [.ref a0, .ref a1, .int a2] h (some (.int res), h) := by
  unfold f_X8_winnerBehind at hq
  show mx_Ev mx_k_X8_winnerBehind mx_noS (mx_b_X8_winnerBehind 0, [some (.ref a0), some (.ref a1), some (.int a2), none, none, none], [], h, 0, 0) _
  refine mx_p_aln rfl ?_
  refine mx_p_aln rfl ?_
  obtain ⟨x28, hx28, hq⟩ := mx_bS hq
  refine mx_e_gi hx28 (by decide) ?_
  have ho30 : a1 < h.1 ∧ (mx_lay a1).1 = 3 := by
    by_cases hh : a1 < h.1 ∧ (mx_lay a1).1 = 3
    · exact hh
    · rw [if_neg hh] at hq; cases hq
  rw [if_pos ho30] at hq
  obtain ⟨x29, hx29, hq⟩ := mx_bS hq
  refine mx_e_cv mx_t_X0_aheadOf ho30 rfl rfl rfl ⟨Nat.le_of_ble_eq_true rfl, Nat.le_of_ble_eq_true rfl, Nat.le_of_ble_eq_true rfl⟩ (Nat.le_of_ble_eq_true rfl) rfl rfl rfl ⟨Nat.zero_le _, Nat.zero_le _⟩ (t_X0_aheadOf hx29) ?_
  refine mx_p_isn (loc' := [some (.ref a0), some (.ref a1), some (.int a2), some (.int x29), none, none]) rfl ?_
  refine mx_p_ic ?_
  refine mx_p_is (loc' := [some (.ref a0), some (.ref a1), some (.int a2), some (.int x29), some (.int 0), none]) rfl ?_
  refine mx_p_ic ?_
  refine mx_p_is (loc' := [some (.ref a0), some (.ref a1), some (.int a2), some (.int x29), some (.int 0), some (.int 0)]) rfl ?_
  refine mx_p_np ?_
  refine mx_Ev.weak (mx_le.drop _ (mx_le.same _ (mx_le.same _ (mx_le.same _ (mx_le.same _ (mx_le.same _ (mx_le.nil))))))) (e_f_X8_winnerBehind_L15 _ _ _ _ ?_ _ _ _ _ _ hq)
  · intro c31 c32 c33 res hq
    try dsimp only at hq
    refine mx_p_iln rfl ?_
    refine mx_p_iln rfl ?_
    obtain ⟨x34, hx34, hq⟩ := mx_bS hq
    refine mx_e_cs mx_t_X11_bit rfl rfl rfl ⟨Nat.le_of_ble_eq_true rfl, Nat.le_of_ble_eq_true rfl, Nat.le_of_ble_eq_true rfl⟩ (Nat.le_of_ble_eq_true rfl) rfl rfl ⟨Nat.zero_le _, Nat.zero_le _⟩ (t_X11_bit hx34) ?_
    refine mx_p_iand ?_
    by_cases hc35 : (c31 &&& x34) = 0
    · rw [if_pos hc35] at hq
      refine mx_e_zt (decide_eq_true hc35) ?_
      refine mx_p_il rfl ?_
      refine mx_p_iln rfl ?_
      obtain ⟨x36, hx36, hq⟩ := mx_bS hq
      refine mx_e_cs mx_t_X11_bit rfl rfl rfl ⟨Nat.le_of_ble_eq_true rfl, Nat.le_of_ble_eq_true rfl, Nat.le_of_ble_eq_true rfl⟩ (Nat.le_of_ble_eq_true rfl) rfl rfl ⟨Nat.zero_le _, Nat.zero_le _⟩ (t_X11_bit hx36) ?_
      refine mx_p_iand ?_
      obtain ⟨v38, hE, hK⟩ := mx_bS hq
      have HJ : mx_Ev mx_k_X8_winnerBehind mx_noS (mx_b_X8_winnerBehind 88, [none, none, none, none, none, none], [.int v38], h, 0, 0) (some (.int res), h) := by
        replace hq := hK
        cases hq; exact mx_e_ri rfl
      clear hK
      replace hq := hE
      by_cases hc37 : (c32 &&& x36) = 0
      · rw [if_pos hc37] at hq
        refine mx_e_zt (decide_eq_true hc37) ?_
        refine mx_p_ic ?_
        refine mx_p_np ?_
        cases hq; exact mx_Ev.weak (mx_le.same _ (mx_le.same _ (mx_le.drop _ (mx_le.drop _ (mx_le.drop _ (mx_le.same _ (mx_le.nil))))))) HJ
      · rw [if_neg hc37] at hq
        refine mx_e_zf (fun z => hc37 (of_decide_eq_true z)) ?_
        refine mx_p_ic ?_
        refine mx_p_gt ?_
        cases hq; exact mx_Ev.weak (mx_le.same _ (mx_le.same _ (mx_le.drop _ (mx_le.drop _ (mx_le.drop _ (mx_le.same _ (mx_le.nil))))))) HJ
    · rw [if_neg hc35] at hq
      refine mx_e_zf (fun z => hc35 (of_decide_eq_true z)) ?_
      refine mx_p_ic ?_
      cases hq; exact mx_e_ri rfl
set_option maxRecDepth 20000 in
set_option maxHeartbeats 1000000 in
theorem t_X9_startIn {a0 : Nat} {a1 : Nat} {h : mx_Hp} {res} (hq : f_X9_startIn a0 a1 h = some res) : mx_Ms mx_k_X9_startIn [.ref a0, .ref a1] h (none, res) := by
  unfold f_X9_startIn at hq
  show mx_Ev mx_k_X9_startIn mx_noS (mx_b_X9_startIn 0, [some (.ref a0), some (.ref a1)], [], h, 0, 0) _
  refine mx_p_aln rfl ?_
  obtain ⟨x16, hx16, hq⟩ := mx_bS hq
  refine mx_e_gr hx16 rfl ?_
  have ho18 : x16 < h.1 ∧ (mx_lay x16).1 = 10 := by
    by_cases hh : x16 < h.1 ∧ (mx_lay x16).1 = 10
    · exact hh
    · rw [if_neg hh] at hq; cases hq
  rw [if_pos ho18] at hq
  obtain ⟨x17, hx17, hq⟩ := mx_bS hq
  refine mx_e_cv mx_t_X7_clear ho18 rfl rfl rfl ⟨Nat.le_of_ble_eq_true rfl, Nat.le_of_ble_eq_true rfl, Nat.le_of_ble_eq_true rfl⟩ (Nat.le_of_ble_eq_true rfl) rfl rfl rfl ⟨Nat.zero_le _, Nat.zero_le _⟩ (t_X7_clear hx17) ?_
  refine mx_p_aln rfl ?_
  obtain ⟨x19, hx19, hq⟩ := mx_bS hq
  refine mx_e_gr hx19 rfl ?_
  refine mx_p_aln rfl ?_
  obtain ⟨x20, hx20, hq⟩ := mx_bS hq
  refine mx_e_gi hx20 (by decide) ?_
  have ho22 : x19 < x17.1 ∧ (mx_lay x19).1 = 7 := by
    by_cases hh : x19 < x17.1 ∧ (mx_lay x19).1 = 7
    · exact hh
    · rw [if_neg hh] at hq; cases hq
  rw [if_pos ho22] at hq
  obtain ⟨x21, hx21, hq⟩ := mx_bS hq
  refine mx_e_cv mx_t_X4_startWith ho22 rfl rfl rfl ⟨Nat.le_of_ble_eq_true rfl, Nat.le_of_ble_eq_true rfl, Nat.le_of_ble_eq_true rfl⟩ (Nat.le_of_ble_eq_true rfl) rfl rfl rfl ⟨Nat.zero_le _, Nat.zero_le _⟩ (t_X4_startWith hx21) ?_
  refine mx_p_aln rfl ?_
  obtain ⟨x23, hx23, hq⟩ := mx_bS hq
  refine mx_e_gr hx23 rfl ?_
  refine mx_p_aln rfl ?_
  obtain ⟨x24, hx24, hq⟩ := mx_bS hq
  refine mx_e_gi hx24 (by decide) ?_
  have ho26 : x23 < x21.1 ∧ (mx_lay x23).1 = 7 := by
    by_cases hh : x23 < x21.1 ∧ (mx_lay x23).1 = 7
    · exact hh
    · rw [if_neg hh] at hq; cases hq
  rw [if_pos ho26] at hq
  obtain ⟨x25, hx25, hq⟩ := mx_bS hq
  refine mx_e_cv mx_t_X4_startWith ho26 rfl rfl rfl ⟨Nat.le_of_ble_eq_true rfl, Nat.le_of_ble_eq_true rfl, Nat.le_of_ble_eq_true rfl⟩ (Nat.le_of_ble_eq_true rfl) rfl rfl rfl ⟨Nat.zero_le _, Nat.zero_le _⟩ (t_X4_startWith hx25) ?_
  refine mx_p_aln rfl ?_
  refine mx_p_aln rfl ?_
  obtain ⟨x27, hx27, hq⟩ := mx_bS hq
  refine mx_e_gi hx27 (by decide) ?_
  obtain ⟨h28, hh28, hq⟩ := mx_bS hq
  refine mx_e_pi hh28 ?_
  refine mx_p_aln rfl ?_
  refine mx_p_ic ?_
  obtain ⟨h29, hh29, hq⟩ := mx_bS hq
  refine mx_e_pi hh29 ?_
  refine mx_p_aln rfl ?_
  refine mx_p_ic ?_
  obtain ⟨h30, hh30, hq⟩ := mx_bS hq
  refine mx_e_pi hh30 ?_
  cases hq; exact mx_p_rv
set_option maxRecDepth 20000 in
set_option maxHeartbeats 1000000 in
theorem t_X9_knowersOf {a0 : Nat} {a1 : Int32} {h : mx_Hp} {res} (hq : f_X9_knowersOf a0 a1 h = some res) : mx_Ms mx_k_X9_knowersOf [.ref a0, .int a1] h (some (.int res), h) := by
  unfold f_X9_knowersOf at hq
  show mx_Ev mx_k_X9_knowersOf mx_noS (mx_b_X9_knowersOf 0, [some (.ref a0), some (.int a1)], [], h, 0, 0) _
  refine mx_p_aln rfl ?_
  obtain ⟨x11, hx11, hq⟩ := mx_bS hq
  refine mx_e_gr hx11 rfl ?_
  obtain ⟨x12, hx12, hq⟩ := mx_bS hq
  refine mx_e_gi hx12 (by decide) ?_
  refine mx_p_iln rfl ?_
  obtain ⟨x13, hx13, hq⟩ := mx_bS hq
  refine mx_e_cs mx_t_X11_bit rfl rfl rfl ⟨Nat.le_of_ble_eq_true rfl, Nat.le_of_ble_eq_true rfl, Nat.le_of_ble_eq_true rfl⟩ (Nat.le_of_ble_eq_true rfl) rfl rfl ⟨Nat.zero_le _, Nat.zero_le _⟩ (t_X11_bit hx13) ?_
  refine mx_p_iand ?_
  obtain ⟨v15, hE, hK⟩ := mx_bS hq
  have HJ : mx_Ev mx_k_X9_knowersOf mx_noS (mx_b_X9_knowersOf 20, [some (.ref a0), some (.int a1)], [.int v15], h, 0, 0) (some (.int res), h) := by
    replace hq := hK
    refine mx_p_aln rfl ?_
    obtain ⟨x16, hx16, hq⟩ := mx_bS hq
    refine mx_e_gr hx16 rfl ?_
    obtain ⟨x17, hx17, hq⟩ := mx_bS hq
    refine mx_e_gi hx17 (by decide) ?_
    refine mx_p_iln rfl ?_
    obtain ⟨x18, hx18, hq⟩ := mx_bS hq
    refine mx_e_cs mx_t_X11_bit rfl rfl rfl ⟨Nat.le_of_ble_eq_true rfl, Nat.le_of_ble_eq_true rfl, Nat.le_of_ble_eq_true rfl⟩ (Nat.le_of_ble_eq_true rfl) rfl rfl ⟨Nat.zero_le _, Nat.zero_le _⟩ (t_X11_bit hx18) ?_
    refine mx_p_iand ?_
    obtain ⟨v20, hE, hK⟩ := mx_bS hq
    have HJ : mx_Ev mx_k_X9_knowersOf mx_noS (mx_b_X9_knowersOf 40, [none, none], [.int v20, .int v15], h, 0, 0) (some (.int res), h) := by
      replace hq := hK
      refine mx_p_iadd ?_
      cases hq; exact mx_e_ri rfl
    clear hK
    replace hq := hE
    by_cases hc19 : (x17 &&& x18) = 0
    · rw [if_pos hc19] at hq
      refine mx_e_zt (decide_eq_true hc19) ?_
      refine mx_p_ic ?_
      refine mx_p_np ?_
      cases hq; exact mx_Ev.weak (mx_le.drop _ (mx_le.drop _ (mx_le.nil))) HJ
    · rw [if_neg hc19] at hq
      refine mx_e_zf (fun z => hc19 (of_decide_eq_true z)) ?_
      refine mx_p_ic ?_
      refine mx_p_gt ?_
      cases hq; exact mx_Ev.weak (mx_le.drop _ (mx_le.drop _ (mx_le.nil))) HJ
  clear hK
  replace hq := hE
  by_cases hc14 : (x12 &&& x13) = 0
  · rw [if_pos hc14] at hq
    refine mx_e_zt (decide_eq_true hc14) ?_
    refine mx_p_ic ?_
    refine mx_p_np ?_
    cases hq; exact mx_Ev.weak (mx_le.same _ (mx_le.same _ (mx_le.nil))) HJ
  · rw [if_neg hc14] at hq
    refine mx_e_zf (fun z => hc14 (of_decide_eq_true z)) ?_
    refine mx_p_ic ?_
    refine mx_p_gt ?_
    cases hq; exact mx_Ev.weak (mx_le.same _ (mx_le.same _ (mx_le.nil))) HJ
set_option maxRecDepth 20000 in
set_option maxHeartbeats 1000000 in
theorem t_X9_decreesOfBoth {a0 : Nat} {h : mx_Hp} {res} (hq : f_X9_decreesOfBoth a0 h = some res) : mx_Ms mx_k_X9_decreesOfBoth [.ref a0] h (some (.int res), h) := by
  unfold f_X9_decreesOfBoth at hq
  show mx_Ev mx_k_X9_decreesOfBoth mx_noS (mx_b_X9_decreesOfBoth 0, [some (.ref a0)], [], h, 0, 0) _
  refine mx_p_aln rfl ?_
  obtain ⟨x5, hx5, hq⟩ := mx_bS hq
  refine mx_e_gr hx5 rfl ?_
  obtain ⟨x6, hx6, hq⟩ := mx_bS hq
  refine mx_e_gi hx6 (by decide) ?_
  refine mx_p_aln rfl ?_
  obtain ⟨x7, hx7, hq⟩ := mx_bS hq
  refine mx_e_gr hx7 rfl ?_
  obtain ⟨x8, hx8, hq⟩ := mx_bS hq
  refine mx_e_gi hx8 (by decide) ?_
  refine mx_p_iadd ?_
  cases hq; exact mx_e_ri rfl
set_option maxRecDepth 20000 in
set_option maxHeartbeats 1000000 in
theorem t_X10_add {a0 : Nat} {a1 : Int32} {h : mx_Hp} {res} (hq : f_X10_add a0 a1 h = some res) : mx_Ms mx_k_X10_add [.ref a0, .int a1] h (some (.int res.1), res.2) := by
  unfold f_X10_add at hq
  show mx_Ev mx_k_X10_add mx_noS (mx_b_X10_add 0, [some (.ref a0), some (.int a1)], [], h, 0, 0) _
  refine mx_p_aln rfl ?_
  obtain ⟨x12, hx12, hq⟩ := mx_bS hq
  refine mx_e_gi hx12 (by decide) ?_
  by_cases hc13 : x12 < 0
  · rw [if_pos hc13] at hq
    refine mx_e_zt (decide_eq_true hc13) ?_
    refine mx_p_ic ?_
    cases hq; exact mx_e_rb rfl (by decide)
  · rw [if_neg hc13] at hq
    refine mx_e_zf (fun z => hc13 (of_decide_eq_true z)) ?_
    refine mx_p_aln rfl ?_
    obtain ⟨x14, hx14, hq⟩ := mx_bS hq
    refine mx_e_gi hx14 (by decide) ?_
    refine mx_p_aln rfl ?_
    obtain ⟨x15, hx15, hq⟩ := mx_bS hq
    refine mx_e_gr hx15 rfl ?_
    obtain ⟨x16, hx16, hq⟩ := mx_bS hq
    refine mx_e_ln hx16 ?_
    by_cases hc17 : x14 < x16
    · rw [if_pos hc17] at hq
      refine mx_e_it (decide_eq_true hc17) ?_
      refine mx_p_aln rfl ?_
      obtain ⟨x18, hx18, hq⟩ := mx_bS hq
      refine mx_e_gr hx18 rfl ?_
      refine mx_p_aln rfl ?_
      obtain ⟨x19, hx19, hq⟩ := mx_bS hq
      refine mx_e_gi hx19 (by decide) ?_
      refine mx_p_iln rfl ?_
      obtain ⟨h20, hh20, hq⟩ := mx_bS hq
      refine mx_e_as hh20 ?_
      refine mx_p_aln rfl ?_
      refine mx_p_dup rfl ?_
      obtain ⟨x21, hx21, hq⟩ := mx_bS hq
      refine mx_e_gi hx21 (by decide) ?_
      refine mx_p_ic ?_
      refine mx_p_iadd ?_
      obtain ⟨h22, hh22, hq⟩ := mx_bS hq
      refine mx_e_pi hh22 ?_
      refine mx_p_ic ?_
      cases hq; exact mx_e_rb rfl (by decide)
    · rw [if_neg hc17] at hq
      refine mx_e_if (fun z => hc17 (of_decide_eq_true z)) ?_
      refine mx_p_np ?_
      refine mx_p_ic ?_
      cases hq; exact mx_e_rb rfl (by decide)
set_option maxRecDepth 20000 in
set_option maxHeartbeats 1000000 in
theorem t_X10_clear {a0 : Nat} {h : mx_Hp} {res} (hq : f_X10_clear a0 h = some res) : mx_Ms mx_k_X10_clear [.ref a0] h (none, res) := by
  unfold f_X10_clear at hq
  show mx_Ev mx_k_X10_clear mx_noS (mx_b_X10_clear 0, [some (.ref a0)], [], h, 0, 0) _
  refine mx_p_aln rfl ?_
  refine mx_p_ic ?_
  obtain ⟨h2, hh2, hq⟩ := mx_bS hq
  refine mx_e_pi hh2 ?_
  cases hq; exact mx_p_rv
set_option maxRecDepth 20000 in
set_option maxHeartbeats 1000000 in
theorem t_X10_letterAt {a0 : Nat} {a1 : Int32} {h : mx_Hp} {res} (hq : f_X10_letterAt a0 a1 h = some res) : mx_Ms mx_k_X10_letterAt [.ref a0, .int a1] h (some (.int res), h) := by
  unfold f_X10_letterAt at hq
  show mx_Ev mx_k_X10_letterAt mx_noS (mx_b_X10_letterAt 0, [some (.ref a0), some (.int a1)], [], h, 0, 0) _
  refine mx_p_iln rfl ?_
  obtain ⟨v18, hE, hK⟩ := mx_bS hq
  have HJ : mx_Ev mx_k_X10_letterAt mx_noS (mx_b_X10_letterAt 32, [none, none], [.int v18], h, 0, 0) (some (.int res), h) := by
    replace hq := hK
    cases hq; exact mx_e_ri rfl
  clear hK
  replace hq := hE
  by_cases hc10 : a1 < 0
  · rw [if_pos hc10] at hq
    refine mx_e_zt (decide_eq_true hc10) ?_
    refine mx_p_bp ?_
    refine mx_p_np ?_
    cases hq; exact mx_Ev.weak (mx_le.drop _ (mx_le.drop _ (mx_le.nil))) HJ
  · rw [if_neg hc10] at hq
    refine mx_e_zf (fun z => hc10 (of_decide_eq_true z)) ?_
    refine mx_p_iln rfl ?_
    refine mx_p_aln rfl ?_
    obtain ⟨x11, hx11, hq⟩ := mx_bS hq
    refine mx_e_gi hx11 (by decide) ?_
    by_cases hc12 : x11 ≤ a1
    · rw [if_pos hc12] at hq
      refine mx_e_it (decide_eq_true hc12) ?_
      refine mx_p_bp ?_
      refine mx_p_np ?_
      cases hq; exact mx_Ev.weak (mx_le.drop _ (mx_le.drop _ (mx_le.nil))) HJ
    · rw [if_neg hc12] at hq
      refine mx_e_if (fun z => hc12 (of_decide_eq_true z)) ?_
      refine mx_p_iln rfl ?_
      refine mx_p_aln rfl ?_
      obtain ⟨x13, hx13, hq⟩ := mx_bS hq
      refine mx_e_gr hx13 rfl ?_
      obtain ⟨x14, hx14, hq⟩ := mx_bS hq
      refine mx_e_ln hx14 ?_
      by_cases hc15 : x14 ≤ a1
      · rw [if_pos hc15] at hq
        refine mx_e_it (decide_eq_true hc15) ?_
        refine mx_p_bp ?_
        refine mx_p_np ?_
        cases hq; exact mx_Ev.weak (mx_le.drop _ (mx_le.drop _ (mx_le.nil))) HJ
      · rw [if_neg hc15] at hq
        refine mx_e_if (fun z => hc15 (of_decide_eq_true z)) ?_
        refine mx_p_aln rfl ?_
        obtain ⟨x16, hx16, hq⟩ := mx_bS hq
        refine mx_e_gr hx16 rfl ?_
        refine mx_p_iln rfl ?_
        obtain ⟨x17, hx17, hq⟩ := mx_bS hq
        refine mx_e_al hx17 ?_
        refine mx_p_gt ?_
        cases hq; exact mx_Ev.weak (mx_le.drop _ (mx_le.drop _ (mx_le.nil))) HJ
set_option maxRecDepth 20000 in
set_option maxHeartbeats 1000000 in
theorem t_X10_isFigure {a0 : Int32} {h : mx_Hp} {res} (hq : f_X10_isFigure a0 h = some res) : mx_Ms mx_k_X10_isFigure [.int a0] h (some (.int res), h) := by
  unfold f_X10_isFigure at hq
  show mx_Ev mx_k_X10_isFigure mx_noS (mx_b_X10_isFigure 0, [some (.int a0)], [], h, 0, 0) _
  refine mx_p_iln rfl ?_
  refine mx_p_bp ?_
  obtain ⟨v7, hE, hK⟩ := mx_bS hq
  have HJ : mx_Ev mx_k_X10_isFigure mx_noS (mx_b_X10_isFigure 17, [none], [.int v7], h, 0, 0) (some (.int res), h) := by
    replace hq := hK
    by_cases hb8 : v7 = 0 ∨ v7 = 1
    · rw [if_pos hb8] at hq; cases hq; exact mx_e_rb rfl hb8
    · rw [if_neg hb8] at hq; cases hq
  clear hK
  replace hq := hE
  by_cases hc5 : a0 < 48
  · rw [if_pos hc5] at hq
    refine mx_e_it (decide_eq_true hc5) ?_
    refine mx_p_ic ?_
    refine mx_p_np ?_
    cases hq; exact mx_Ev.weak (mx_le.drop _ (mx_le.nil)) HJ
  · rw [if_neg hc5] at hq
    refine mx_e_if (fun z => hc5 (of_decide_eq_true z)) ?_
    refine mx_p_iln rfl ?_
    refine mx_p_bp ?_
    by_cases hc6 : 57 < a0
    · rw [if_pos hc6] at hq
      refine mx_e_it (decide_eq_true hc6) ?_
      refine mx_p_ic ?_
      refine mx_p_np ?_
      cases hq; exact mx_Ev.weak (mx_le.drop _ (mx_le.nil)) HJ
    · rw [if_neg hc6] at hq
      refine mx_e_if (fun z => hc6 (of_decide_eq_true z)) ?_
      refine mx_p_ic ?_
      refine mx_p_gt ?_
      cases hq; exact mx_Ev.weak (mx_le.drop _ (mx_le.nil)) HJ
set_option maxRecDepth 20000 in
set_option maxHeartbeats 1000000 in
theorem t_X10_figuresAt {a0 : Nat} {a1 : Int32} {h : mx_Hp} {res} (hq : f_X10_figuresAt a0 a1 h = some res) : mx_Ms mx_k_X10_figuresAt [.ref a0, .int a1] h (some (.int res), h) := by
  unfold f_X10_figuresAt at hq
  show mx_Ev mx_k_X10_figuresAt mx_noS (mx_b_X10_figuresAt 0, [some (.ref a0), some (.int a1)], [], h, 0, 0) _
  refine mx_p_aln rfl ?_
  refine mx_p_iln rfl ?_
  have ho11 : a0 < h.1 ∧ (mx_lay a0).1 = 13 := by
    by_cases hh : a0 < h.1 ∧ (mx_lay a0).1 = 13
    · exact hh
    · rw [if_neg hh] at hq; cases hq
  rw [if_pos ho11] at hq
  obtain ⟨x10, hx10, hq⟩ := mx_bS hq
  refine mx_e_cv mx_t_X10_letterAt ho11 rfl rfl rfl ⟨Nat.le_of_ble_eq_true rfl, Nat.le_of_ble_eq_true rfl, Nat.le_of_ble_eq_true rfl⟩ (Nat.le_of_ble_eq_true rfl) rfl rfl rfl ⟨Nat.zero_le _, Nat.zero_le _⟩ (t_X10_letterAt hx10) ?_
  obtain ⟨x12, hx12, hq⟩ := mx_bS hq
  refine mx_e_cs mx_t_X10_isFigure rfl rfl rfl ⟨Nat.le_of_ble_eq_true rfl, Nat.le_of_ble_eq_true rfl, Nat.le_of_ble_eq_true rfl⟩ (Nat.le_of_ble_eq_true rfl) rfl rfl ⟨Nat.zero_le _, Nat.zero_le _⟩ (t_X10_isFigure hx12) ?_
  by_cases hc13 : ¬ x12 = 0
  · rw [if_pos hc13] at hq
    refine mx_e_zt (decide_eq_true hc13) ?_
    refine mx_p_aln rfl ?_
    refine mx_p_iln rfl ?_
    refine mx_p_ic ?_
    refine mx_p_iadd ?_
    have ho15 : a0 < h.1 ∧ (mx_lay a0).1 = 13 := by
      by_cases hh : a0 < h.1 ∧ (mx_lay a0).1 = 13
      · exact hh
      · rw [if_neg hh] at hq; cases hq
    rw [if_pos ho15] at hq
    obtain ⟨x14, hx14, hq⟩ := mx_bS hq
    refine mx_e_cv mx_t_X10_letterAt ho15 rfl rfl rfl ⟨Nat.le_of_ble_eq_true rfl, Nat.le_of_ble_eq_true rfl, Nat.le_of_ble_eq_true rfl⟩ (Nat.le_of_ble_eq_true rfl) rfl rfl rfl ⟨Nat.zero_le _, Nat.zero_le _⟩ (t_X10_letterAt hx14) ?_
    obtain ⟨x16, hx16, hq⟩ := mx_bS hq
    refine mx_e_cs mx_t_X10_isFigure rfl rfl rfl ⟨Nat.le_of_ble_eq_true rfl, Nat.le_of_ble_eq_true rfl, Nat.le_of_ble_eq_true rfl⟩ (Nat.le_of_ble_eq_true rfl) rfl rfl ⟨Nat.zero_le _, Nat.zero_le _⟩ (t_X10_isFigure hx16) ?_
    obtain ⟨v18, hE, hK⟩ := mx_bS hq
    have HJ : mx_Ev mx_k_X10_figuresAt mx_noS (mx_b_X10_figuresAt 31, [none, none], [.int v18], h, 0, 0) (some (.int res), h) := by
      replace hq := hK
      cases hq; exact mx_e_ri rfl
    clear hK
    replace hq := hE
    by_cases hc17 : x16 = 0
    · rw [if_pos hc17] at hq
      refine mx_e_zt (decide_eq_true hc17) ?_
      refine mx_p_ic ?_
      refine mx_p_np ?_
      cases hq; exact mx_Ev.weak (mx_le.drop _ (mx_le.drop _ (mx_le.nil))) HJ
    · rw [if_neg hc17] at hq
      refine mx_e_zf (fun z => hc17 (of_decide_eq_true z)) ?_
      refine mx_p_ic ?_
      refine mx_p_gt ?_
      cases hq; exact mx_Ev.weak (mx_le.drop _ (mx_le.drop _ (mx_le.nil))) HJ
  · rw [if_neg hc13] at hq
    refine mx_e_zf (fun z => hc13 (of_decide_eq_true z)) ?_
    refine mx_p_ic ?_
    cases hq; exact mx_e_ri rfl
set_option maxRecDepth 20000 in
set_option maxHeartbeats 1000000 in
theorem t_X10_valueAt {a0 : Nat} {a1 : Int32} {a2 : Int32} {h : mx_Hp} {res} (hq : f_X10_valueAt a0 a1 a2 h = some res) : mx_Ms mx_k_X10_valueAt [.ref a0, .int a1, .int a2] h (some (.int res), h) := by
  unfold f_X10_valueAt at hq
  show mx_Ev mx_k_X10_valueAt mx_noS (mx_b_X10_valueAt 0, [some (.ref a0), some (.int a1), some (.int a2), none], [], h, 0, 0) _
  refine mx_p_aln rfl ?_
  refine mx_p_iln rfl ?_
  have ho8 : a0 < h.1 ∧ (mx_lay a0).1 = 13 := by
    by_cases hh : a0 < h.1 ∧ (mx_lay a0).1 = 13
    · exact hh
    · rw [if_neg hh] at hq; cases hq
  rw [if_pos ho8] at hq
  obtain ⟨x7, hx7, hq⟩ := mx_bS hq
  refine mx_e_cv mx_t_X10_letterAt ho8 rfl rfl rfl ⟨Nat.le_of_ble_eq_true rfl, Nat.le_of_ble_eq_true rfl, Nat.le_of_ble_eq_true rfl⟩ (Nat.le_of_ble_eq_true rfl) rfl rfl rfl ⟨Nat.zero_le _, Nat.zero_le _⟩ (t_X10_letterAt hx7) ?_
  refine mx_p_bp ?_
  refine mx_p_isub ?_
  refine mx_p_isn (loc' := [some (.ref a0), some (.int a1), some (.int a2), some (.int (x7 - 48))]) rfl ?_
  refine mx_p_iln rfl ?_
  refine mx_p_ic ?_
  obtain ⟨v12, hE, hK⟩ := mx_bS hq
  have HJ : mx_Ev mx_k_X10_valueAt mx_noS (mx_b_X10_valueAt 33, [none, none, none, none], [.int v12], h, 0, 0) (some (.int res), h) := by
    replace hq := hK
    cases hq; exact mx_e_ri rfl
  clear hK
  replace hq := hE
  by_cases hc9 : ¬ a2 = 2
  · rw [if_pos hc9] at hq
    refine mx_e_it (decide_eq_true hc9) ?_
    refine mx_p_iln rfl ?_
    refine mx_p_np ?_
    cases hq; exact mx_Ev.weak (mx_le.drop _ (mx_le.drop _ (mx_le.drop _ (mx_le.drop _ (mx_le.nil))))) HJ
  · rw [if_neg hc9] at hq
    refine mx_e_if (fun z => hc9 (of_decide_eq_true z)) ?_
    refine mx_p_iln rfl ?_
    refine mx_p_bp ?_
    refine mx_p_imul ?_
    refine mx_p_aln rfl ?_
    refine mx_p_iln rfl ?_
    refine mx_p_ic ?_
    refine mx_p_iadd ?_
    have ho11 : a0 < h.1 ∧ (mx_lay a0).1 = 13 := by
      by_cases hh : a0 < h.1 ∧ (mx_lay a0).1 = 13
      · exact hh
      · rw [if_neg hh] at hq; cases hq
    rw [if_pos ho11] at hq
    obtain ⟨x10, hx10, hq⟩ := mx_bS hq
    refine mx_e_cv mx_t_X10_letterAt ho11 rfl rfl rfl ⟨Nat.le_of_ble_eq_true rfl, Nat.le_of_ble_eq_true rfl, Nat.le_of_ble_eq_true rfl⟩ (Nat.le_of_ble_eq_true rfl) rfl rfl rfl ⟨Nat.zero_le _, Nat.zero_le _⟩ (t_X10_letterAt hx10) ?_
    refine mx_p_iadd ?_
    refine mx_p_bp ?_
    refine mx_p_isub ?_
    refine mx_p_gt ?_
    cases hq; exact mx_Ev.weak (mx_le.drop _ (mx_le.drop _ (mx_le.drop _ (mx_le.drop _ (mx_le.nil))))) HJ
set_option maxRecDepth 20000 in
set_option maxHeartbeats 1000000 in
theorem e_f_X10_readItem_L11 (l0 : Nat)   : ∀ (n : Nat) (s2 : Int32) (s3 : Int32) (hh : mx_Hp) res, mx_fix (f_X10_readItem_L11 l0 ) n (s2, s3, hh) = some res → mx_Ev mx_k_X10_readItem mx_noS (mx_b_X10_readItem 11, [some (.ref l0), none, some (.int s2), some (.int s3), none], [], hh, 0, 0) (some (.int res.1), res.2) := by
  intro n
  induction n with
  | zero => intro s2 s3 hh res hq; cases hq
  | succ n ih =>
    intro s2 s3 hh res hq
    unfold mx_fix at hq
    generalize mx_fix (f_X10_readItem_L11 l0 ) n = S at hq ih
    unfold f_X10_readItem_L11 at hq
    try dsimp only at hq
    refine mx_p_iln rfl ?_
    refine mx_p_aln rfl ?_
    obtain ⟨x19, hx19, hq⟩ := mx_bS hq
    refine mx_e_gr hx19 rfl ?_
    obtain ⟨x20, hx20, hq⟩ := mx_bS hq
    refine mx_e_ln hx20 ?_
    by_cases hc21 : x20 ≤ s3
    · rw [if_pos hc21] at hq
      refine mx_e_it (decide_eq_true hc21) ?_
      refine mx_p_ic ?_
      cases hq; exact mx_e_ri rfl
    · rw [if_neg hc21] at hq
      refine mx_e_if (fun z => hc21 (of_decide_eq_true z)) ?_
      refine mx_p_aln rfl ?_
      refine mx_p_iln rfl ?_
      have ho23 : l0 < hh.1 ∧ (mx_lay l0).1 = 13 := by
        by_cases hh : l0 < hh.1 ∧ (mx_lay l0).1 = 13
        · exact hh
        · rw [if_neg hh] at hq; cases hq
      rw [if_pos ho23] at hq
      obtain ⟨x22, hx22, hq⟩ := mx_bS hq
      refine mx_e_cv mx_t_X10_figuresAt ho23 rfl rfl rfl ⟨Nat.le_of_ble_eq_true rfl, Nat.le_of_ble_eq_true rfl, Nat.le_of_ble_eq_true rfl⟩ (Nat.le_of_ble_eq_true rfl) rfl rfl rfl ⟨Nat.zero_le _, Nat.zero_le _⟩ (t_X10_figuresAt hx22) ?_
      refine mx_p_is (loc' := [some (.ref l0), none, some (.int s2), some (.int s3), some (.int x22)]) rfl ?_
      refine mx_p_il rfl ?_
      by_cases hc24 : ¬ x22 = 0
      · rw [if_pos hc24] at hq
        refine mx_e_zt (decide_eq_true hc24) ?_
        refine mx_p_aln rfl ?_
        obtain ⟨x25, hx25, hq⟩ := mx_bS hq
        refine mx_e_gr hx25 rfl ?_
        refine mx_p_iln rfl ?_
        refine mx_p_aln rfl ?_
        refine mx_p_iln rfl ?_
        refine mx_p_il rfl ?_
        have ho27 : l0 < hh.1 ∧ (mx_lay l0).1 = 13 := by
          by_cases hh : l0 < hh.1 ∧ (mx_lay l0).1 = 13
          · exact hh
          · rw [if_neg hh] at hq; cases hq
        rw [if_pos ho27] at hq
        obtain ⟨x26, hx26, hq⟩ := mx_bS hq
        refine mx_e_cv mx_t_X10_valueAt ho27 rfl rfl rfl ⟨Nat.le_of_ble_eq_true rfl, Nat.le_of_ble_eq_true rfl, Nat.le_of_ble_eq_true rfl⟩ (Nat.le_of_ble_eq_true rfl) rfl rfl rfl ⟨Nat.zero_le _, Nat.zero_le _⟩ (t_X10_valueAt hx26) ?_
        obtain ⟨h28, hh28, hq⟩ := mx_bS hq
        refine mx_e_as hh28 ?_
        refine mx_p_aln rfl ?_
        refine mx_p_iln rfl ?_
        refine mx_p_ic ?_
        refine mx_p_iadd ?_
        obtain ⟨h29, hh29, hq⟩ := mx_bS hq
        refine mx_e_pi hh29 ?_
        refine mx_p_iln rfl ?_
        refine mx_p_il rfl ?_
        refine mx_p_iadd ?_
        refine mx_p_isn (loc' := [some (.ref l0), none, some (.int (s2 + x22)), some (.int s3), some (.int x22)]) rfl ?_
        refine mx_p_aln rfl ?_
        refine mx_p_iln rfl ?_
        have ho31 : l0 < h29.1 ∧ (mx_lay l0).1 = 13 := by
          by_cases hh : l0 < h29.1 ∧ (mx_lay l0).1 = 13
          · exact hh
          · rw [if_neg hh] at hq; cases hq
        rw [if_pos ho31] at hq
        obtain ⟨x30, hx30, hq⟩ := mx_bS hq
        refine mx_e_cv mx_t_X10_letterAt ho31 rfl rfl rfl ⟨Nat.le_of_ble_eq_true rfl, Nat.le_of_ble_eq_true rfl, Nat.le_of_ble_eq_true rfl⟩ (Nat.le_of_ble_eq_true rfl) rfl rfl rfl ⟨Nat.zero_le _, Nat.zero_le _⟩ (t_X10_letterAt hx30) ?_
        refine mx_p_bp ?_
        by_cases hc32 : ¬ x30 = 59
        · rw [if_pos hc32] at hq
          refine mx_e_it (decide_eq_true hc32) ?_
          refine mx_p_aln rfl ?_
          refine mx_p_iln rfl ?_
          have ho34 : l0 < h29.1 ∧ (mx_lay l0).1 = 13 := by
            by_cases hh : l0 < h29.1 ∧ (mx_lay l0).1 = 13
            · exact hh
            · rw [if_neg hh] at hq; cases hq
          rw [if_pos ho34] at hq
          obtain ⟨x33, hx33, hq⟩ := mx_bS hq
          refine mx_e_cv mx_t_X10_letterAt ho34 rfl rfl rfl ⟨Nat.le_of_ble_eq_true rfl, Nat.le_of_ble_eq_true rfl, Nat.le_of_ble_eq_true rfl⟩ (Nat.le_of_ble_eq_true rfl) rfl rfl rfl ⟨Nat.zero_le _, Nat.zero_le _⟩ (t_X10_letterAt hx33) ?_
          refine mx_p_bp ?_
          by_cases hc35 : x33 = 44
          · rw [if_pos hc35] at hq
            refine mx_e_it (decide_eq_true hc35) ?_
            refine mx_p_inc (loc' := [some (.ref l0), none, some (.int ((s2 + x22) + 1)), some (.int s3), some (.int x22)]) rfl rfl ?_
            refine mx_p_inc (loc' := [some (.ref l0), none, some (.int ((s2 + x22) + 1)), some (.int (s3 + 1)), some (.int x22)]) rfl rfl ?_
            refine mx_p_gt ?_
            have HB := ih ((s2 + x22) + 1) (s3 + 1) h29 _ hq
            exact mx_Ev.weak (mx_le.same _ (mx_le.same _ (mx_le.same _ (mx_le.same _ (mx_le.drop _ (mx_le.nil)))))) HB
          · rw [if_neg hc35] at hq
            refine mx_e_if (fun z => hc35 (of_decide_eq_true z)) ?_
            refine mx_p_ic ?_
            cases hq; exact mx_e_ri rfl
        · rw [if_neg hc32] at hq
          refine mx_e_if (fun z => hc32 (of_decide_eq_true z)) ?_
          refine mx_p_iln rfl ?_
          refine mx_p_ic ?_
          refine mx_p_iadd ?_
          cases hq; exact mx_e_ri rfl
      · rw [if_neg hc24] at hq
        refine mx_e_zf (fun z => hc24 (of_decide_eq_true z)) ?_
        refine mx_p_ic ?_
        cases hq; exact mx_e_ri rfl
set_option maxRecDepth 20000 in
set_option maxHeartbeats 1000000 in
theorem t_X10_readItem {a0 : Nat} {a1 : Int32} {h : mx_Hp} {res} (hq : f_X10_readItem a0 a1 h = some res) : mx_Ms mx_k_X10_readItem [.ref a0, .int a1] h (some (.int res.1), res.2) := by
  unfold f_X10_readItem at hq
  show mx_Ev mx_k_X10_readItem mx_noS (mx_b_X10_readItem 0, [some (.ref a0), some (.int a1), none, none, none], [], h, 0, 0) _
  refine mx_p_iln rfl ?_
  refine mx_p_ic ?_
  refine mx_p_iadd ?_
  refine mx_p_isn (loc' := [some (.ref a0), some (.int a1), some (.int (a1 + 1)), none, none]) rfl ?_
  refine mx_p_aln rfl ?_
  refine mx_p_ic ?_
  obtain ⟨h36, hh36, hq⟩ := mx_bS hq
  refine mx_e_pi hh36 ?_
  refine mx_p_ic ?_
  refine mx_p_isn (loc' := [some (.ref a0), some (.int a1), some (.int (a1 + 1)), some (.int 0), none]) rfl ?_
  refine mx_p_np ?_
  refine mx_Ev.weak (mx_le.same _ (mx_le.drop _ (mx_le.same _ (mx_le.same _ (mx_le.same _ (mx_le.nil)))))) (e_f_X10_readItem_L11 _  _ _ _ _ _ hq)
set_option maxRecDepth 20000 in
set_option maxHeartbeats 1000000 in
theorem t_X10_takeItem {a0 : Nat} {a1 : Nat} {a2 : Int32} {h : mx_Hp} {res} (hq : f_X10_takeItem a0 a1 a2 h = some res) : mx_Ms mx_k_X10_takeItem [.ref a0, .ref a1, .int a2] h (some (.int res.1), res.2) := by
  unfold f_X10_takeItem at hq
  show mx_Ev mx_k_X10_takeItem mx_noS (mx_b_X10_takeItem 0, [some (.ref a0), some (.ref a1), some (.int a2)], [], h, 0, 0) _
  refine mx_p_aln rfl ?_
  obtain ⟨x15, hx15, hq⟩ := mx_bS hq
  refine mx_e_gi hx15 (by decide) ?_
  refine mx_p_ic ?_
  by_cases hc16 : ¬ x15 = 2
  · rw [if_pos hc16] at hq
    refine mx_e_it (decide_eq_true hc16) ?_
    refine mx_p_aln rfl ?_
    refine mx_p_iln rfl ?_
    refine mx_p_aln rfl ?_
    obtain ⟨x17, hx17, hq⟩ := mx_bS hq
    refine mx_e_gr hx17 rfl ?_
    refine mx_p_ic ?_
    obtain ⟨x18, hx18, hq⟩ := mx_bS hq
    refine mx_e_al hx18 ?_
    have ho20 : a1 < h.1 ∧ (mx_lay a1).1 = 3 := by
      by_cases hh : a1 < h.1 ∧ (mx_lay a1).1 = 3
      · exact hh
      · rw [if_neg hh] at hq; cases hq
    rw [if_pos ho20] at hq
    obtain ⟨x19, hx19, hq⟩ := mx_bS hq
    refine mx_e_cv mx_t_X0_takeSingle ho20 rfl rfl rfl ⟨Nat.le_of_ble_eq_true rfl, Nat.le_of_ble_eq_true rfl, Nat.le_of_ble_eq_true rfl⟩ (Nat.le_of_ble_eq_true rfl) rfl rfl rfl ⟨Nat.zero_le _, Nat.zero_le _⟩ (t_X0_takeSingle hx19) ?_
    by_cases hb21 : x19.1 = 0 ∨ x19.1 = 1
    · rw [if_pos hb21] at hq; cases hq; exact mx_e_rb rfl hb21
    · rw [if_neg hb21] at hq; cases hq
  · rw [if_neg hc16] at hq
    refine mx_e_if (fun z => hc16 (of_decide_eq_true z)) ?_
    refine mx_p_aln rfl ?_
    refine mx_p_iln rfl ?_
    refine mx_p_aln rfl ?_
    obtain ⟨x22, hx22, hq⟩ := mx_bS hq
    refine mx_e_gr hx22 rfl ?_
    refine mx_p_ic ?_
    obtain ⟨x23, hx23, hq⟩ := mx_bS hq
    refine mx_e_al hx23 ?_
    refine mx_p_aln rfl ?_
    obtain ⟨x24, hx24, hq⟩ := mx_bS hq
    refine mx_e_gr hx24 rfl ?_
    refine mx_p_ic ?_
    obtain ⟨x25, hx25, hq⟩ := mx_bS hq
    refine mx_e_al hx25 ?_
    have ho27 : a1 < h.1 ∧ (mx_lay a1).1 = 3 := by
      by_cases hh : a1 < h.1 ∧ (mx_lay a1).1 = 3
      · exact hh
      · rw [if_neg hh] at hq; cases hq
    rw [if_pos ho27] at hq
    obtain ⟨x26, hx26, hq⟩ := mx_bS hq
    refine mx_e_cv mx_t_X0_takePair ho27 rfl rfl rfl ⟨Nat.le_of_ble_eq_true rfl, Nat.le_of_ble_eq_true rfl, Nat.le_of_ble_eq_true rfl⟩ (Nat.le_of_ble_eq_true rfl) rfl rfl rfl ⟨Nat.zero_le _, Nat.zero_le _⟩ (t_X0_takePair hx26) ?_
    by_cases hb28 : x26.1 = 0 ∨ x26.1 = 1
    · rw [if_pos hb28] at hq; cases hq; exact mx_e_rb rfl hb28
    · rw [if_neg hb28] at hq; cases hq
set_option maxRecDepth 20000 in
set_option maxHeartbeats 1000000 in
theorem e_f_X10_readInto_L8 (l0 : Nat) (l1 : Nat)   : ∀ (n : Nat) (s2 : Int32) (s3 : Int32) (hh : mx_Hp) res, mx_fix (f_X10_readInto_L8 l0 l1 ) n (s2, s3, hh) = some res → mx_Ev mx_k_X10_readInto mx_noS (mx_b_X10_readInto 8, [some (.ref l0), some (.ref l1), some (.int s2), some (.int s3), none], [], hh, 0, 0) (some (.int res.1), res.2) := by
  intro n
  induction n with
  | zero => intro s2 s3 hh res hq; cases hq
  | succ n ih =>
    intro s2 s3 hh res hq
    unfold mx_fix at hq
    generalize mx_fix (f_X10_readInto_L8 l0 l1 ) n = S at hq ih
    unfold f_X10_readInto_L8 at hq
    try dsimp only at hq
    refine mx_p_iln rfl ?_
    refine mx_p_bp ?_
    by_cases hc14 : 66 < s3
    · rw [if_pos hc14] at hq
      refine mx_e_it (decide_eq_true hc14) ?_
      refine mx_p_bp ?_
      cases hq; exact mx_e_ri rfl
    · rw [if_neg hc14] at hq
      refine mx_e_if (fun z => hc14 (of_decide_eq_true z)) ?_
      refine mx_p_iln rfl ?_
      refine mx_p_aln rfl ?_
      obtain ⟨x15, hx15, hq⟩ := mx_bS hq
      refine mx_e_gi hx15 (by decide) ?_
      by_cases hc16 : x15 ≤ s2
      · rw [if_pos hc16] at hq
        refine mx_e_it (decide_eq_true hc16) ?_
        refine mx_p_bp ?_
        cases hq; exact mx_e_ri rfl
      · rw [if_neg hc16] at hq
        refine mx_e_if (fun z => hc16 (of_decide_eq_true z)) ?_
        refine mx_p_aln rfl ?_
        refine mx_p_iln rfl ?_
        have ho18 : l0 < hh.1 ∧ (mx_lay l0).1 = 13 := by
          by_cases hh : l0 < hh.1 ∧ (mx_lay l0).1 = 13
          · exact hh
          · rw [if_neg hh] at hq; cases hq
        rw [if_pos ho18] at hq
        obtain ⟨x17, hx17, hq⟩ := mx_bS hq
        refine mx_e_cv mx_t_X10_readItem ho18 rfl rfl rfl ⟨Nat.le_of_ble_eq_true rfl, Nat.le_of_ble_eq_true rfl, Nat.le_of_ble_eq_true rfl⟩ (Nat.le_of_ble_eq_true rfl) rfl rfl rfl ⟨Nat.zero_le _, Nat.zero_le _⟩ (t_X10_readItem hx17) ?_
        refine mx_p_is (loc' := [some (.ref l0), some (.ref l1), some (.int s2), some (.int s3), some (.int x17.1)]) rfl ?_
        refine mx_p_il rfl ?_
        refine mx_p_ic ?_
        by_cases hc19 : x17.1 = (-1)
        · rw [if_pos hc19] at hq
          refine mx_e_it (decide_eq_true hc19) ?_
          refine mx_p_iln rfl ?_
          cases hq; exact mx_e_ri rfl
        · rw [if_neg hc19] at hq
          refine mx_e_if (fun z => hc19 (of_decide_eq_true z)) ?_
          refine mx_p_aln rfl ?_
          refine mx_p_aln rfl ?_
          refine mx_p_aln rfl ?_
          refine mx_p_iln rfl ?_
          have ho21 : l0 < x17.2.1 ∧ (mx_lay l0).1 = 13 := by
            by_cases hh : l0 < x17.2.1 ∧ (mx_lay l0).1 = 13
            · exact hh
            · rw [if_neg hh] at hq; cases hq
          rw [if_pos ho21] at hq
          obtain ⟨x20, hx20, hq⟩ := mx_bS hq
          refine mx_e_cv mx_t_X10_letterAt ho21 rfl rfl rfl ⟨Nat.le_of_ble_eq_true rfl, Nat.le_of_ble_eq_true rfl, Nat.le_of_ble_eq_true rfl⟩ (Nat.le_of_ble_eq_true rfl) rfl rfl rfl ⟨Nat.zero_le _, Nat.zero_le _⟩ (t_X10_letterAt hx20) ?_
          have ho23 : l0 < x17.2.1 ∧ (mx_lay l0).1 = 13 := by
            by_cases hh : l0 < x17.2.1 ∧ (mx_lay l0).1 = 13
            · exact hh
            · rw [if_neg hh] at hq; cases hq
          rw [if_pos ho23] at hq
          obtain ⟨x22, hx22, hq⟩ := mx_bS hq
          refine mx_e_cv mx_t_X10_takeItem ho23 rfl rfl rfl ⟨Nat.le_of_ble_eq_true rfl, Nat.le_of_ble_eq_true rfl, Nat.le_of_ble_eq_true rfl⟩ (Nat.le_of_ble_eq_true rfl) rfl rfl rfl ⟨Nat.zero_le _, Nat.zero_le _⟩ (t_X10_takeItem hx22) ?_
          by_cases hc24 : ¬ x22.1 = 0
          · rw [if_pos hc24] at hq
            refine mx_e_zt (decide_eq_true hc24) ?_
            refine mx_p_il rfl ?_
            refine mx_p_isn (loc' := [some (.ref l0), some (.ref l1), some (.int x17.1), some (.int s3), some (.int x17.1)]) rfl ?_
            refine mx_p_inc (loc' := [some (.ref l0), some (.ref l1), some (.int x17.1), some (.int (s3 + 1)), some (.int x17.1)]) rfl rfl ?_
            refine mx_p_gt ?_
            have HB := ih x17.1 (s3 + 1) x22.2 _ hq
            exact mx_Ev.weak (mx_le.same _ (mx_le.same _ (mx_le.same _ (mx_le.same _ (mx_le.drop _ (mx_le.nil)))))) HB
          · rw [if_neg hc24] at hq
            refine mx_e_zf (fun z => hc24 (of_decide_eq_true z)) ?_
            refine mx_p_np ?_
            refine mx_p_iln rfl ?_
            cases hq; exact mx_e_ri rfl
set_option maxRecDepth 20000 in
set_option maxHeartbeats 1000000 in
theorem t_X10_readInto {a0 : Nat} {a1 : Nat} {h : mx_Hp} {res} (hq : f_X10_readInto a0 a1 h = some res) : mx_Ms mx_k_X10_readInto [.ref a0, .ref a1] h (some (.int res.1), res.2) := by
  unfold f_X10_readInto at hq
  show mx_Ev mx_k_X10_readInto mx_noS (mx_b_X10_readInto 0, [some (.ref a0), some (.ref a1), none, none, none], [], h, 0, 0) _
  refine mx_p_aln rfl ?_
  have ho26 : a1 < h.1 ∧ (mx_lay a1).1 = 3 := by
    by_cases hh : a1 < h.1 ∧ (mx_lay a1).1 = 3
    · exact hh
    · rw [if_neg hh] at hq; cases hq
  rw [if_pos ho26] at hq
  obtain ⟨x25, hx25, hq⟩ := mx_bS hq
  refine mx_e_cv mx_t_X0_clear ho26 rfl rfl rfl ⟨Nat.le_of_ble_eq_true rfl, Nat.le_of_ble_eq_true rfl, Nat.le_of_ble_eq_true rfl⟩ (Nat.le_of_ble_eq_true rfl) rfl rfl rfl ⟨Nat.zero_le _, Nat.zero_le _⟩ (t_X0_clear hx25) ?_
  refine mx_p_ic ?_
  refine mx_p_isn (loc' := [some (.ref a0), some (.ref a1), some (.int 0), none, none]) rfl ?_
  refine mx_p_ic ?_
  refine mx_p_isn (loc' := [some (.ref a0), some (.ref a1), some (.int 0), some (.int 0), none]) rfl ?_
  refine mx_p_np ?_
  refine mx_Ev.weak (mx_le.same _ (mx_le.same _ (mx_le.same _ (mx_le.same _ (mx_le.same _ (mx_le.nil)))))) (e_f_X10_readInto_L8 _ _  _ _ _ _ _ hq)
set_option maxRecDepth 20000 in
set_option maxHeartbeats 1000000 in
theorem t_X11_layText {a0 : Nat} {h : mx_Hp} {res} (hq : f_X11_layText a0 h = some res) : mx_Ms mx_k_X11_layText [.ref a0] h (some (.int res.1), res.2) := by
  unfold f_X11_layText at hq
  show mx_Ev mx_k_X11_layText mx_noS (mx_b_X11_layText 0, [some (.ref a0), none], [], h, 0, 0) _
  refine mx_p_aln rfl ?_
  obtain ⟨x28, hx28, hq⟩ := mx_bS hq
  refine mx_e_gr hx28 rfl ?_
  refine mx_p_aln rfl ?_
  obtain ⟨x29, hx29, hq⟩ := mx_bS hq
  refine mx_e_gr hx29 rfl ?_
  have ho31 : x28 < h.1 ∧ (mx_lay x28).1 = 13 := by
    by_cases hh : x28 < h.1 ∧ (mx_lay x28).1 = 13
    · exact hh
    · rw [if_neg hh] at hq; cases hq
  rw [if_pos ho31] at hq
  obtain ⟨x30, hx30, hq⟩ := mx_bS hq
  refine mx_e_cv mx_t_X10_readInto ho31 rfl rfl rfl ⟨Nat.le_of_ble_eq_true rfl, Nat.le_of_ble_eq_true rfl, Nat.le_of_ble_eq_true rfl⟩ (Nat.le_of_ble_eq_true rfl) rfl rfl rfl ⟨Nat.zero_le _, Nat.zero_le _⟩ (t_X10_readInto hx30) ?_
  refine mx_p_bp ?_
  by_cases hc32 : ¬ x30.1 = (-4)
  · rw [if_pos hc32] at hq
    refine mx_e_it (decide_eq_true hc32) ?_
    refine mx_p_bp ?_
    cases hq; exact mx_e_ri rfl
  · rw [if_neg hc32] at hq
    refine mx_e_if (fun z => hc32 (of_decide_eq_true z)) ?_
    refine mx_p_aln rfl ?_
    obtain ⟨x33, hx33, hq⟩ := mx_bS hq
    refine mx_e_gr hx33 rfl ?_
    obtain ⟨x34, hx34, hq⟩ := mx_bS hq
    refine mx_e_gi hx34 (by decide) ?_
    by_cases hc35 : ¬ x34 = 0
    · rw [if_pos hc35] at hq
      refine mx_e_zt (decide_eq_true hc35) ?_
      refine mx_p_aln rfl ?_
      obtain ⟨x36, hx36, hq⟩ := mx_bS hq
      refine mx_e_gr hx36 rfl ?_
      refine mx_p_asn (loc' := [some (.ref a0), some (.ref x36)]) rfl ?_
      refine mx_p_aln rfl ?_
      refine mx_p_aln rfl ?_
      obtain ⟨x37, hx37, hq⟩ := mx_bS hq
      refine mx_e_gr hx37 rfl ?_
      obtain ⟨h38, hh38, hq⟩ := mx_bS hq
      refine mx_e_pr hh38 ?_
      refine mx_p_aln rfl ?_
      refine mx_p_aln rfl ?_
      obtain ⟨h39, hh39, hq⟩ := mx_bS hq
      refine mx_e_pr hh39 ?_
      refine mx_p_aln rfl ?_
      obtain ⟨x40, hx40, hq⟩ := mx_bS hq
      refine mx_e_gr hx40 rfl ?_
      refine mx_p_aln rfl ?_
      obtain ⟨x41, hx41, hq⟩ := mx_bS hq
      refine mx_e_gr hx41 rfl ?_
      have ho43 : x40 < h39.1 ∧ (mx_lay x40).1 = 12 := by
        by_cases hh : x40 < h39.1 ∧ (mx_lay x40).1 = 12
        · exact hh
        · rw [if_neg hh] at hq; cases hq
      rw [if_pos ho43] at hq
      obtain ⟨x42, hx42, hq⟩ := mx_bS hq
      refine mx_e_cv mx_t_X9_startIn ho43 rfl rfl rfl ⟨Nat.le_of_ble_eq_true rfl, Nat.le_of_ble_eq_true rfl, Nat.le_of_ble_eq_true rfl⟩ (Nat.le_of_ble_eq_true rfl) rfl rfl rfl ⟨Nat.zero_le _, Nat.zero_le _⟩ (t_X9_startIn hx42) ?_
      refine mx_p_aln rfl ?_
      obtain ⟨x44, hx44, hq⟩ := mx_bS hq
      refine mx_e_gr hx44 rfl ?_
      have ho46 : x44 < x42.1 ∧ (mx_lay x44).1 = 9 := by
        by_cases hh : x44 < x42.1 ∧ (mx_lay x44).1 = 9
        · exact hh
        · rw [if_neg hh] at hq; cases hq
      rw [if_pos ho46] at hq
      obtain ⟨x45, hx45, hq⟩ := mx_bS hq
      refine mx_e_cv mx_t_X6_clear ho46 rfl rfl rfl ⟨Nat.le_of_ble_eq_true rfl, Nat.le_of_ble_eq_true rfl, Nat.le_of_ble_eq_true rfl⟩ (Nat.le_of_ble_eq_true rfl) rfl rfl rfl ⟨Nat.zero_le _, Nat.zero_le _⟩ (t_X6_clear hx45) ?_
      refine mx_p_aln rfl ?_
      obtain ⟨x47, hx47, hq⟩ := mx_bS hq
      refine mx_e_gr hx47 rfl ?_
      have ho49 : x47 < x45.1 ∧ (mx_lay x47).1 = 9 := by
        by_cases hh : x47 < x45.1 ∧ (mx_lay x47).1 = 9
        · exact hh
        · rw [if_neg hh] at hq; cases hq
      rw [if_pos ho49] at hq
      obtain ⟨x48, hx48, hq⟩ := mx_bS hq
      refine mx_e_cv mx_t_X6_clear ho49 rfl rfl rfl ⟨Nat.le_of_ble_eq_true rfl, Nat.le_of_ble_eq_true rfl, Nat.le_of_ble_eq_true rfl⟩ (Nat.le_of_ble_eq_true rfl) rfl rfl rfl ⟨Nat.zero_le _, Nat.zero_le _⟩ (t_X6_clear hx48) ?_
      refine mx_p_aln rfl ?_
      obtain ⟨x50, hx50, hq⟩ := mx_bS hq
      refine mx_e_gr hx50 rfl ?_
      have ho52 : x50 < x48.1 ∧ (mx_lay x50).1 = 6 := by
        by_cases hh : x50 < x48.1 ∧ (mx_lay x50).1 = 6
        · exact hh
        · rw [if_neg hh] at hq; cases hq
      rw [if_pos ho52] at hq
      obtain ⟨x51, hx51, hq⟩ := mx_bS hq
      refine mx_e_cv mx_t_X3_startAnew ho52 rfl rfl rfl ⟨Nat.le_of_ble_eq_true rfl, Nat.le_of_ble_eq_true rfl, Nat.le_of_ble_eq_true rfl⟩ (Nat.le_of_ble_eq_true rfl) rfl rfl rfl ⟨Nat.zero_le _, Nat.zero_le _⟩ (t_X3_startAnew hx51) ?_
      refine mx_p_aln rfl ?_
      obtain ⟨x53, hx53, hq⟩ := mx_bS hq
      refine mx_e_gr hx53 rfl ?_
      obtain ⟨x54, hx54, hq⟩ := mx_bS hq
      refine mx_e_gi hx54 (by decide) ?_
      cases hq; exact mx_e_ri rfl
    · rw [if_neg hc35] at hq
      refine mx_e_zf (fun z => hc35 (of_decide_eq_true z)) ?_
      refine mx_p_np ?_
      refine mx_p_bp ?_
      cases hq; exact mx_e_ri rfl
