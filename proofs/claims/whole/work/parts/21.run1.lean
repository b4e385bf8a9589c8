/-! their runs come to them: by wip/gen/dec.py -/
set_option maxRecDepth 20000 in
set_option maxHeartbeats 1000000 in
theorem e_f_X2_find_L45 (l0 : Nat) (l1 : Nat)   : ∀ (n : Nat) (s4 : Int32) (s5 : Int32) (hh : mx_Hp) res, mx_fix (f_X2_find_L45 l0 l1 ) n (s4, s5, hh) = some res → mx_Ev mx_k_X2_find mx_noS (mx_b_X2_find 45, [some (.ref l0), some (.ref l1), none, none, some (.int s4), some (.int s5)], [], hh, 0, 0) (none, res) := by
  intro n
  induction n with
  | zero => intro s4 s5 hh res hq; cases hq
  | succ n ih =>
    intro s4 s5 hh res hq
    unfold mx_fix at hq
    generalize mx_fix (f_X2_find_L45 l0 l1 ) n = S at hq ih
    unfold f_X2_find_L45 at hq
    try dsimp only at hq
    refine mx_p_il rfl ?_
    by_cases hc29 : s5 < 0
    · rw [if_pos hc29] at hq
      refine mx_e_zt (decide_eq_true hc29) ?_
      cases hq; exact mx_p_rv
    · rw [if_neg hc29] at hq
      refine mx_e_zf (fun z => hc29 (of_decide_eq_true z)) ?_
      refine mx_p_il rfl ?_
      refine mx_p_aln rfl ?_
      obtain ⟨x30, hx30, hq⟩ := mx_bS hq
      refine mx_e_gr hx30 rfl ?_
      obtain ⟨x31, hx31, hq⟩ := mx_bS hq
      refine mx_e_ln hx31 ?_
      by_cases hc32 : x31 ≤ s5
      · rw [if_pos hc32] at hq
        refine mx_e_it (decide_eq_true hc32) ?_
        cases hq; exact mx_p_rv
      · rw [if_neg hc32] at hq
        refine mx_e_if (fun z => hc32 (of_decide_eq_true z)) ?_
        refine mx_p_aln rfl ?_
        refine mx_p_aln rfl ?_
        refine mx_p_il rfl ?_
        have ho34 : l1 < hh.1 ∧ (mx_lay l1).1 = 3 := by
          by_cases hh : l1 < hh.1 ∧ (mx_lay l1).1 = 3
          · exact hh
          · rw [if_neg hh] at hq; cases hq
        rw [if_pos ho34] at hq
        obtain ⟨x33, hx33, hq⟩ := mx_bS hq
        refine mx_e_cv mx_t_X0_behindOf ho34 rfl rfl rfl ⟨Nat.le_of_ble_eq_true rfl, Nat.le_of_ble_eq_true rfl, Nat.le_of_ble_eq_true rfl⟩ (Nat.le_of_ble_eq_true rfl) rfl rfl rfl ⟨Nat.zero_le _, Nat.zero_le _⟩ (t_X0_behindOf hx33) ?_
        refine mx_p_aln rfl ?_
        obtain ⟨x35, hx35, hq⟩ := mx_bS hq
        refine mx_e_gr hx35 rfl ?_
        refine mx_p_il rfl ?_
        obtain ⟨x36, hx36, hq⟩ := mx_bS hq
        refine mx_e_al hx36 ?_
        refine mx_p_iand ?_
        have ho38 : l1 < hh.1 ∧ (mx_lay l1).1 = 3 := by
          by_cases hh : l1 < hh.1 ∧ (mx_lay l1).1 = 3
          · exact hh
          · rw [if_neg hh] at hq; cases hq
        rw [if_pos ho38] at hq
        obtain ⟨x37, hx37, hq⟩ := mx_bS hq
        refine mx_e_cv mx_t_X0_firstOf ho38 rfl rfl rfl ⟨Nat.le_of_ble_eq_true rfl, Nat.le_of_ble_eq_true rfl, Nat.le_of_ble_eq_true rfl⟩ (Nat.le_of_ble_eq_true rfl) rfl rfl rfl ⟨Nat.zero_le _, Nat.zero_le _⟩ (t_X0_firstOf hx37) ?_
        refine mx_p_is (loc' := [some (.ref l0), some (.ref l1), none, none, some (.int x37), some (.int s5)]) rfl ?_
        refine mx_p_aln rfl ?_
        obtain ⟨x39, hx39, hq⟩ := mx_bS hq
        refine mx_e_gr hx39 rfl ?_
        refine mx_p_il rfl ?_
        have ho41 : x39 < hh.1 ∧ (mx_lay x39).1 = 10 := by
          by_cases hh : x39 < hh.1 ∧ (mx_lay x39).1 = 10
          · exact hh
          · rw [if_neg hh] at hq; cases hq
        rw [if_pos ho41] at hq
        obtain ⟨x40, hx40, hq⟩ := mx_bS hq
        refine mx_e_cv mx_t_X7_add ho41 rfl rfl rfl ⟨Nat.le_of_ble_eq_true rfl, Nat.le_of_ble_eq_true rfl, Nat.le_of_ble_eq_true rfl⟩ (Nat.le_of_ble_eq_true rfl) rfl rfl rfl ⟨Nat.zero_le _, Nat.zero_le _⟩ (t_X7_add hx40) ?_
        refine mx_p_inc (loc' := [some (.ref l0), some (.ref l1), none, none, some (.int x37), some (.int (s5 + (-1)))]) rfl rfl ?_
        refine mx_p_gt ?_
        have HB := ih x37 (s5 + (-1)) x40 _ hq
        exact mx_Ev.weak (mx_le.same _ (mx_le.same _ (mx_le.same _ (mx_le.same _ (mx_le.same _ (mx_le.same _ (mx_le.nil))))))) HB
set_option maxRecDepth 20000 in
set_option maxHeartbeats 1000000 in
theorem t_X2_find {a0 : Nat} {a1 : Nat} {a2 : Int32} {a3 : Int32} {h : mx_Hp} {res} (hq : f_X2_find a0 a1 a2 a3 h = some res) : mx_Ms mx_k_X2_find [.ref a0, .ref a1, .int a2, .int a3] h (none, res) := by
  unfold f_X2_find at hq
  show mx_Ev mx_k_X2_find mx_noS (mx_b_X2_find 0, [some (.ref a0), some (.ref a1), some (.int a2), some (.int a3), none, none], [], h, 0, 0) _
  refine mx_p_aln rfl ?_
  obtain ⟨x42, hx42, hq⟩ := mx_bS hq
  refine mx_e_gr hx42 rfl ?_
  have ho44 : x42 < h.1 ∧ (mx_lay x42).1 = 10 := by
    by_cases hh : x42 < h.1 ∧ (mx_lay x42).1 = 10
    · exact hh
    · rw [if_neg hh] at hq; cases hq
  rw [if_pos ho44] at hq
  obtain ⟨x43, hx43, hq⟩ := mx_bS hq
  refine mx_e_cv mx_t_X7_clear ho44 rfl rfl rfl ⟨Nat.le_of_ble_eq_true rfl, Nat.le_of_ble_eq_true rfl, Nat.le_of_ble_eq_true rfl⟩ (Nat.le_of_ble_eq_true rfl) rfl rfl rfl ⟨Nat.zero_le _, Nat.zero_le _⟩ (t_X7_clear hx43) ?_
  refine mx_p_aln rfl ?_
  refine mx_p_iln rfl ?_
  have ho46 : a1 < x43.1 ∧ (mx_lay a1).1 = 3 := by
    by_cases hh : a1 < x43.1 ∧ (mx_lay a1).1 = 3
    · exact hh
    · rw [if_neg hh] at hq; cases hq
  rw [if_pos ho46] at hq
  obtain ⟨x45, hx45, hq⟩ := mx_bS hq
  refine mx_e_cv mx_t_X0_has ho46 rfl rfl rfl ⟨Nat.le_of_ble_eq_true rfl, Nat.le_of_ble_eq_true rfl, Nat.le_of_ble_eq_true rfl⟩ (Nat.le_of_ble_eq_true rfl) rfl rfl rfl ⟨Nat.zero_le _, Nat.zero_le _⟩ (t_X0_has hx45) ?_
  by_cases hc47 : x45 = 0
  · rw [if_pos hc47] at hq
    refine mx_e_zt (decide_eq_true hc47) ?_
    cases hq; exact mx_p_rv
  · rw [if_neg hc47] at hq
    refine mx_e_zf (fun z => hc47 (of_decide_eq_true z)) ?_
    refine mx_p_aln rfl ?_
    refine mx_p_iln rfl ?_
    have ho49 : a1 < x43.1 ∧ (mx_lay a1).1 = 3 := by
      by_cases hh : a1 < x43.1 ∧ (mx_lay a1).1 = 3
      · exact hh
      · rw [if_neg hh] at hq; cases hq
    rw [if_pos ho49] at hq
    obtain ⟨x48, hx48, hq⟩ := mx_bS hq
    refine mx_e_cv mx_t_X0_kindOf ho49 rfl rfl rfl ⟨Nat.le_of_ble_eq_true rfl, Nat.le_of_ble_eq_true rfl, Nat.le_of_ble_eq_true rfl⟩ (Nat.le_of_ble_eq_true rfl) rfl rfl rfl ⟨Nat.zero_le _, Nat.zero_le _⟩ (t_X0_kindOf hx48) ?_
    refine mx_p_ic ?_
    by_cases hc50 : ¬ x48 = 1
    · rw [if_pos hc50] at hq
      refine mx_e_it (decide_eq_true hc50) ?_
      refine mx_p_aln rfl ?_
      refine mx_p_aln rfl ?_
      refine mx_p_iln rfl ?_
      have ho52 : a0 < x43.1 ∧ (mx_lay a0).1 = 5 := by
        by_cases hh : a0 < x43.1 ∧ (mx_lay a0).1 = 5
        · exact hh
        · rw [if_neg hh] at hq; cases hq
      rw [if_pos ho52] at hq
      obtain ⟨x51, hx51, hq⟩ := mx_bS hq
      refine mx_e_cv mx_t_X2_fillStarts ho52 rfl rfl rfl ⟨Nat.le_of_ble_eq_true rfl, Nat.le_of_ble_eq_true rfl, Nat.le_of_ble_eq_true rfl⟩ (Nat.le_of_ble_eq_true rfl) rfl rfl rfl ⟨Nat.zero_le _, Nat.zero_le _⟩ (t_X2_fillStarts hx51) ?_
      refine mx_p_iln rfl ?_
      refine mx_p_is (loc' := [some (.ref a0), some (.ref a1), some (.int a2), some (.int a3), some (.int a2), none]) rfl ?_
      refine mx_p_aln rfl ?_
      refine mx_p_aln rfl ?_
      refine mx_p_iln rfl ?_
      have ho54 : a1 < x51.1 ∧ (mx_lay a1).1 = 3 := by
        by_cases hh : a1 < x51.1 ∧ (mx_lay a1).1 = 3
        · exact hh
        · rw [if_neg hh] at hq; cases hq
      rw [if_pos ho54] at hq
      obtain ⟨x53, hx53, hq⟩ := mx_bS hq
      refine mx_e_cv mx_t_X0_behindOf ho54 rfl rfl rfl ⟨Nat.le_of_ble_eq_true rfl, Nat.le_of_ble_eq_true rfl, Nat.le_of_ble_eq_true rfl⟩ (Nat.le_of_ble_eq_true rfl) rfl rfl rfl ⟨Nat.zero_le _, Nat.zero_le _⟩ (t_X0_behindOf hx53) ?_
      have ho56 : a0 < x51.1 ∧ (mx_lay a0).1 = 5 := by
        by_cases hh : a0 < x51.1 ∧ (mx_lay a0).1 = 5
        · exact hh
        · rw [if_neg hh] at hq; cases hq
      rw [if_pos ho56] at hq
      obtain ⟨x55, hx55, hq⟩ := mx_bS hq
      refine mx_e_cv mx_t_X2_fewestMore ho56 rfl rfl rfl ⟨Nat.le_of_ble_eq_true rfl, Nat.le_of_ble_eq_true rfl, Nat.le_of_ble_eq_true rfl⟩ (Nat.le_of_ble_eq_true rfl) rfl rfl rfl ⟨Nat.zero_le _, Nat.zero_le _⟩ (t_X2_fewestMore hx55) ?_
      refine mx_p_is (loc' := [some (.ref a0), some (.ref a1), some (.int a2), some (.int a3), some (.int a2), some (.int x55)]) rfl ?_
      refine mx_p_np ?_
      refine mx_Ev.weak (mx_le.same _ (mx_le.same _ (mx_le.drop _ (mx_le.drop _ (mx_le.same _ (mx_le.same _ (mx_le.nil))))))) (e_f_X2_find_L45 _ _  _ _ _ _ _ hq)
    · rw [if_neg hc50] at hq
      refine mx_e_if (fun z => hc50 (of_decide_eq_true z)) ?_
      refine mx_p_np ?_
      cases hq; exact mx_p_rv
set_option maxRecDepth 20000 in
set_option maxHeartbeats 1000000 in
theorem e_f_X7_worthIn_L4 (l0 : Nat) (l1 : Nat) (h : mx_Hp)   : ∀ (n : Nat) (s2 : Int32) (s3 : Int32) res, mx_fix (f_X7_worthIn_L4 l0 l1 h ) n (s2, s3) = some res → mx_Ev mx_k_X7_worthIn mx_noS (mx_b_X7_worthIn 4, [some (.ref l0), some (.ref l1), some (.int s2), some (.int s3)], [], h, 0, 0) (some (.int res), h) := by
  intro n
  induction n with
  | zero => intro s2 s3 res hq; cases hq
  | succ n ih =>
    intro s2 s3 res hq
    unfold mx_fix at hq
    generalize mx_fix (f_X7_worthIn_L4 l0 l1 h ) n = S at hq ih
    unfold f_X7_worthIn_L4 at hq
    try dsimp only at hq
    refine mx_p_iln rfl ?_
    refine mx_p_aln rfl ?_
    obtain ⟨x10, hx10, hq⟩ := mx_bS hq
    refine mx_e_gi hx10 (by decide) ?_
    by_cases hc11 : x10 ≤ s3
    · rw [if_pos hc11] at hq
      refine mx_e_it (decide_eq_true hc11) ?_
      refine mx_p_iln rfl ?_
      cases hq; exact mx_e_ri rfl
    · rw [if_neg hc11] at hq
      refine mx_e_if (fun z => hc11 (of_decide_eq_true z)) ?_
      refine mx_p_iln rfl ?_
      refine mx_p_aln rfl ?_
      obtain ⟨x12, hx12, hq⟩ := mx_bS hq
      refine mx_e_gr hx12 rfl ?_
      obtain ⟨x13, hx13, hq⟩ := mx_bS hq
      refine mx_e_ln hx13 ?_
      by_cases hc14 : x13 ≤ s3
      · rw [if_pos hc14] at hq
        refine mx_e_it (decide_eq_true hc14) ?_
        refine mx_p_iln rfl ?_
        cases hq; exact mx_e_ri rfl
      · rw [if_neg hc14] at hq
        refine mx_e_if (fun z => hc14 (of_decide_eq_true z)) ?_
        refine mx_p_iln rfl ?_
        refine mx_p_aln rfl ?_
        refine mx_p_aln rfl ?_
        obtain ⟨x15, hx15, hq⟩ := mx_bS hq
        refine mx_e_gr hx15 rfl ?_
        refine mx_p_iln rfl ?_
        obtain ⟨x16, hx16, hq⟩ := mx_bS hq
        refine mx_e_al hx16 ?_
        have ho18 : l1 < h.1 ∧ (mx_lay l1).1 = 3 := by
          by_cases hh : l1 < h.1 ∧ (mx_lay l1).1 = 3
          · exact hh
          · rw [if_neg hh] at hq; cases hq
        rw [if_pos ho18] at hq
        obtain ⟨x17, hx17, hq⟩ := mx_bS hq
        refine mx_e_cv mx_t_X0_worthOf ho18 rfl rfl rfl ⟨Nat.le_of_ble_eq_true rfl, Nat.le_of_ble_eq_true rfl, Nat.le_of_ble_eq_true rfl⟩ (Nat.le_of_ble_eq_true rfl) rfl rfl rfl ⟨Nat.zero_le _, Nat.zero_le _⟩ (t_X0_worthOf hx17) ?_
        refine mx_p_iadd ?_
        refine mx_p_isn (loc' := [some (.ref l0), some (.ref l1), some (.int (s2 + x17)), some (.int s3)]) rfl ?_
        refine mx_p_inc (loc' := [some (.ref l0), some (.ref l1), some (.int (s2 + x17)), some (.int (s3 + 1))]) rfl rfl ?_
        refine mx_p_gt ?_
        have HB := ih (s2 + x17) (s3 + 1) _ hq
        exact mx_Ev.weak (mx_le.same _ (mx_le.same _ (mx_le.same _ (mx_le.same _ (mx_le.nil))))) HB
set_option maxRecDepth 20000 in
set_option maxHeartbeats 1000000 in
theorem t_X7_worthIn {a0 : Nat} {a1 : Nat} {h : mx_Hp} {res} (hq : f_X7_worthIn a0 a1 h = some res) : mx_Ms mx_k_X7_worthIn [.ref a0, .ref a1] h (some (.int res), h) := by
  unfold f_X7_worthIn at hq
  show mx_Ev mx_k_X7_worthIn mx_noS (mx_b_X7_worthIn 0, [some (.ref a0), some (.ref a1), none, none], [], h, 0, 0) _
  refine mx_p_ic ?_
  refine mx_p_isn (loc' := [some (.ref a0), some (.ref a1), some (.int 0), none]) rfl ?_
  refine mx_p_ic ?_
  refine mx_p_isn (loc' := [some (.ref a0), some (.ref a1), some (.int 0), some (.int 0)]) rfl ?_
  refine mx_p_np ?_
  refine mx_Ev.weak (mx_le.same _ (mx_le.same _ (mx_le.same _ (mx_le.same _ (mx_le.nil))))) (e_f_X7_worthIn_L4 _ _ _  _ _ _ _ hq)
set_option maxRecDepth 20000 in
set_option maxHeartbeats 1000000 in
theorem t_X9_gain {a0 : Nat} {a1 : Nat} {a2 : Int32} {h : mx_Hp} {res} (hq : f_X9_gain a0 a1 a2 h = some res) : mx_Ms mx_k_X9_gain [.ref a0, .ref a1, .int a2] h (some (.int res.1), res.2) := by
  unfold f_X9_gain at hq
  show mx_Ev mx_k_X9_gain mx_noS (mx_b_X9_gain 0, [some (.ref a0), some (.ref a1), some (.int a2)], [], h, 0, 0) _
  refine mx_p_aln rfl ?_
  refine mx_p_dup rfl ?_
  obtain ⟨x8, hx8, hq⟩ := mx_bS hq
  refine mx_e_gi hx8 (by decide) ?_
  refine mx_p_ic ?_
  refine mx_p_iadd ?_
  obtain ⟨h9, hh9, hq⟩ := mx_bS hq
  refine mx_e_pi hh9 ?_
  refine mx_p_aln rfl ?_
  refine mx_p_dup rfl ?_
  obtain ⟨x10, hx10, hq⟩ := mx_bS hq
  refine mx_e_gi hx10 (by decide) ?_
  refine mx_p_iln rfl ?_
  refine mx_p_iadd ?_
  obtain ⟨h11, hh11, hq⟩ := mx_bS hq
  refine mx_e_pi hh11 ?_
  refine mx_p_aln rfl ?_
  obtain ⟨x12, hx12, hq⟩ := mx_bS hq
  refine mx_e_gr hx12 rfl ?_
  have ho14 : x12 < h11.1 ∧ (mx_lay x12).1 = 10 := by
    by_cases hh : x12 < h11.1 ∧ (mx_lay x12).1 = 10
    · exact hh
    · rw [if_neg hh] at hq; cases hq
  rw [if_pos ho14] at hq
  obtain ⟨x13, hx13, hq⟩ := mx_bS hq
  refine mx_e_cv mx_t_X7_clear ho14 rfl rfl rfl ⟨Nat.le_of_ble_eq_true rfl, Nat.le_of_ble_eq_true rfl, Nat.le_of_ble_eq_true rfl⟩ (Nat.le_of_ble_eq_true rfl) rfl rfl rfl ⟨Nat.zero_le _, Nat.zero_le _⟩ (t_X7_clear hx13) ?_
  refine mx_p_iln rfl ?_
  cases hq; exact mx_e_ri rfl
set_option maxRecDepth 20000 in
set_option maxHeartbeats 1000000 in
theorem t_X9_passOver {a0 : Nat} {a1 : Nat} {a2 : Nat} {h : mx_Hp} {res} (hq : f_X9_passOver a0 a1 a2 h = some res) : mx_Ms mx_k_X9_passOver [.ref a0, .ref a1, .ref a2] h (some (.int res.1), res.2) := by
  unfold f_X9_passOver at hq
  show mx_Ev mx_k_X9_passOver mx_noS (mx_b_X9_passOver 0, [some (.ref a0), some (.ref a1), some (.ref a2), none], [], h, 0, 0) _
  refine mx_p_aln rfl ?_
  obtain ⟨x18, hx18, hq⟩ := mx_bS hq
  refine mx_e_gr hx18 rfl ?_
  refine mx_p_aln rfl ?_
  have ho20 : x18 < h.1 ∧ (mx_lay x18).1 = 10 := by
    by_cases hh : x18 < h.1 ∧ (mx_lay x18).1 = 10
    · exact hh
    · rw [if_neg hh] at hq; cases hq
  rw [if_pos ho20] at hq
  obtain ⟨x19, hx19, hq⟩ := mx_bS hq
  refine mx_e_cv mx_t_X7_worthIn ho20 rfl rfl rfl ⟨Nat.le_of_ble_eq_true rfl, Nat.le_of_ble_eq_true rfl, Nat.le_of_ble_eq_true rfl⟩ (Nat.le_of_ble_eq_true rfl) rfl rfl rfl ⟨Nat.zero_le _, Nat.zero_le _⟩ (t_X7_worthIn hx19) ?_
  refine mx_p_aln rfl ?_
  refine mx_p_aln rfl ?_
  have ho22 : a2 < h.1 ∧ (mx_lay a2).1 = 10 := by
    by_cases hh : a2 < h.1 ∧ (mx_lay a2).1 = 10
    · exact hh
    · rw [if_neg hh] at hq; cases hq
  rw [if_pos ho22] at hq
  obtain ⟨x21, hx21, hq⟩ := mx_bS hq
  refine mx_e_cv mx_t_X7_worthIn ho22 rfl rfl rfl ⟨Nat.le_of_ble_eq_true rfl, Nat.le_of_ble_eq_true rfl, Nat.le_of_ble_eq_true rfl⟩ (Nat.le_of_ble_eq_true rfl) rfl rfl rfl ⟨Nat.zero_le _, Nat.zero_le _⟩ (t_X7_worthIn hx21) ?_
  refine mx_p_iadd ?_
  refine mx_p_isn (loc' := [some (.ref a0), some (.ref a1), some (.ref a2), some (.int (x19 + x21))]) rfl ?_
  refine mx_p_aln rfl ?_
  refine mx_p_dup rfl ?_
  obtain ⟨x23, hx23, hq⟩ := mx_bS hq
  refine mx_e_gi hx23 (by decide) ?_
  refine mx_p_aln rfl ?_
  obtain ⟨x24, hx24, hq⟩ := mx_bS hq
  refine mx_e_gi hx24 (by decide) ?_
  refine mx_p_iadd ?_
  obtain ⟨h25, hh25, hq⟩ := mx_bS hq
  refine mx_e_pi hh25 ?_
  refine mx_p_aln rfl ?_
  refine mx_p_ic ?_
  refine mx_p_aln rfl ?_
  obtain ⟨x26, hx26, hq⟩ := mx_bS hq
  refine mx_e_gi hx26 (by decide) ?_
  refine mx_p_isub ?_
  obtain ⟨h27, hh27, hq⟩ := mx_bS hq
  refine mx_e_pi hh27 ?_
  refine mx_p_aln rfl ?_
  refine mx_p_dup rfl ?_
  obtain ⟨x28, hx28, hq⟩ := mx_bS hq
  refine mx_e_gi hx28 (by decide) ?_
  refine mx_p_ic ?_
  refine mx_p_iadd ?_
  obtain ⟨h29, hh29, hq⟩ := mx_bS hq
  refine mx_e_pi hh29 ?_
  refine mx_p_aln rfl ?_
  refine mx_p_aln rfl ?_
  refine mx_p_aln rfl ?_
  obtain ⟨x30, hx30, hq⟩ := mx_bS hq
  refine mx_e_gi hx30 (by decide) ?_
  have ho32 : a0 < h29.1 ∧ (mx_lay a0).1 = 12 := by
    by_cases hh : a0 < h29.1 ∧ (mx_lay a0).1 = 12
    · exact hh
    · rw [if_neg hh] at hq; cases hq
  rw [if_pos ho32] at hq
  obtain ⟨x31, hx31, hq⟩ := mx_bS hq
  refine mx_e_cv mx_t_X9_mayorOf ho32 rfl rfl rfl ⟨Nat.le_of_ble_eq_true rfl, Nat.le_of_ble_eq_true rfl, Nat.le_of_ble_eq_true rfl⟩ (Nat.le_of_ble_eq_true rfl) rfl rfl rfl ⟨Nat.zero_le _, Nat.zero_le _⟩ (t_X9_mayorOf hx31) ?_
  refine mx_p_iln rfl ?_
  have ho34 : a0 < h29.1 ∧ (mx_lay a0).1 = 12 := by
    by_cases hh : a0 < h29.1 ∧ (mx_lay a0).1 = 12
    · exact hh
    · rw [if_neg hh] at hq; cases hq
  rw [if_pos ho34] at hq
  obtain ⟨x33, hx33, hq⟩ := mx_bS hq
  refine mx_e_cv mx_t_X9_gain ho34 rfl rfl rfl ⟨Nat.le_of_ble_eq_true rfl, Nat.le_of_ble_eq_true rfl, Nat.le_of_ble_eq_true rfl⟩ (Nat.le_of_ble_eq_true rfl) rfl rfl rfl ⟨Nat.zero_le _, Nat.zero_le _⟩ (t_X9_gain hx33) ?_
  cases hq; exact mx_e_ri rfl
set_option maxRecDepth 20000 in
set_option maxHeartbeats 1000000 in
theorem t_X1_finishes {a0 : Nat} {a1 : Nat} {h : mx_Hp} {res} (hq : f_X1_finishes a0 a1 h = some res) : mx_Ms mx_k_X1_finishes [.ref a0, .ref a1] h (some (.int res.1), res.2) := by
  unfold f_X1_finishes at hq
  show mx_Ev mx_k_X1_finishes mx_noS (mx_b_X1_finishes 0, [some (.ref a0), some (.ref a1)], [], h, 0, 0) _
  refine mx_p_aln rfl ?_
  obtain ⟨x19, hx19, hq⟩ := mx_bS hq
  refine mx_e_gr hx19 rfl ?_
  refine mx_p_aln rfl ?_
  refine mx_p_aln rfl ?_
  obtain ⟨x20, hx20, hq⟩ := mx_bS hq
  refine mx_e_gr hx20 rfl ?_
  have ho22 : x20 < h.1 ∧ (mx_lay x20).1 = 12 := by
    by_cases hh : x20 < h.1 ∧ (mx_lay x20).1 = 12
    · exact hh
    · rw [if_neg hh] at hq; cases hq
  rw [if_pos ho22] at hq
  obtain ⟨x21, hx21, hq⟩ := mx_bS hq
  refine mx_e_cv mx_t_X9_lastWord ho22 rfl rfl rfl ⟨Nat.le_of_ble_eq_true rfl, Nat.le_of_ble_eq_true rfl, Nat.le_of_ble_eq_true rfl⟩ (Nat.le_of_ble_eq_true rfl) rfl rfl rfl ⟨Nat.zero_le _, Nat.zero_le _⟩ (t_X9_lastWord hx21) ?_
  refine mx_p_aln rfl ?_
  obtain ⟨x23, hx23, hq⟩ := mx_bS hq
  refine mx_e_gr hx23 rfl ?_
  refine mx_p_aln rfl ?_
  have ho25 : x23 < h.1 ∧ (mx_lay x23).1 = 12 := by
    by_cases hh : x23 < h.1 ∧ (mx_lay x23).1 = 12
    · exact hh
    · rw [if_neg hh] at hq; cases hq
  rw [if_pos ho25] at hq
  obtain ⟨x24, hx24, hq⟩ := mx_bS hq
  refine mx_e_cv mx_t_X9_sayableByOther ho25 rfl rfl rfl ⟨Nat.le_of_ble_eq_true rfl, Nat.le_of_ble_eq_true rfl, Nat.le_of_ble_eq_true rfl⟩ (Nat.le_of_ble_eq_true rfl) rfl rfl rfl ⟨Nat.zero_le _, Nat.zero_le _⟩ (t_X9_sayableByOther hx24) ?_
  have ho27 : x19 < h.1 ∧ (mx_lay x19).1 = 5 := by
    by_cases hh : x19 < h.1 ∧ (mx_lay x19).1 = 5
    · exact hh
    · rw [if_neg hh] at hq; cases hq
  rw [if_pos ho27] at hq
  obtain ⟨x26, hx26, hq⟩ := mx_bS hq
  refine mx_e_cv mx_t_X2_find ho27 rfl rfl rfl ⟨Nat.le_of_ble_eq_true rfl, Nat.le_of_ble_eq_true rfl, Nat.le_of_ble_eq_true rfl⟩ (Nat.le_of_ble_eq_true rfl) rfl rfl rfl ⟨Nat.zero_le _, Nat.zero_le _⟩ (t_X2_find hx26) ?_
  refine mx_p_aln rfl ?_
  obtain ⟨x28, hx28, hq⟩ := mx_bS hq
  refine mx_e_gr hx28 rfl ?_
  obtain ⟨x29, hx29, hq⟩ := mx_bS hq
  refine mx_e_gr hx29 rfl ?_
  obtain ⟨x30, hx30, hq⟩ := mx_bS hq
  refine mx_e_gi hx30 (by decide) ?_
  by_cases hc31 : ¬ x30 = 0
  · rw [if_pos hc31] at hq
    refine mx_e_zt (decide_eq_true hc31) ?_
    refine mx_p_aln rfl ?_
    obtain ⟨x32, hx32, hq⟩ := mx_bS hq
    refine mx_e_gr hx32 rfl ?_
    refine mx_p_aln rfl ?_
    refine mx_p_aln rfl ?_
    obtain ⟨x33, hx33, hq⟩ := mx_bS hq
    refine mx_e_gr hx33 rfl ?_
    obtain ⟨x34, hx34, hq⟩ := mx_bS hq
    refine mx_e_gr hx34 rfl ?_
    have ho36 : x32 < x26.1 ∧ (mx_lay x32).1 = 12 := by
      by_cases hh : x32 < x26.1 ∧ (mx_lay x32).1 = 12
      · exact hh
      · rw [if_neg hh] at hq; cases hq
    rw [if_pos ho36] at hq
    obtain ⟨x35, hx35, hq⟩ := mx_bS hq
    refine mx_e_cv mx_t_X9_passOver ho36 rfl rfl rfl ⟨Nat.le_of_ble_eq_true rfl, Nat.le_of_ble_eq_true rfl, Nat.le_of_ble_eq_true rfl⟩ (Nat.le_of_ble_eq_true rfl) rfl rfl rfl ⟨Nat.zero_le _, Nat.zero_le _⟩ (t_X9_passOver hx35) ?_
    refine mx_p_pop rfl ?_
    refine mx_p_ic ?_
    cases hq; exact mx_e_rb rfl (by decide)
  · rw [if_neg hc31] at hq
    refine mx_e_zf (fun z => hc31 (of_decide_eq_true z)) ?_
    refine mx_p_ic ?_
    cases hq; exact mx_e_rb rfl (by decide)
set_option maxRecDepth 20000 in
set_option maxHeartbeats 1000000 in
theorem t_X9_isEndable {a0 : Nat} {a1 : Nat} {h : mx_Hp} {res} (hq : f_X9_isEndable a0 a1 h = some res) : mx_Ms mx_k_X9_isEndable [.ref a0, .ref a1] h (some (.int res), h) := by
  unfold f_X9_isEndable at hq
  show mx_Ev mx_k_X9_isEndable mx_noS (mx_b_X9_isEndable 0, [some (.ref a0), some (.ref a1)], [], h, 0, 0) _
  refine mx_p_aln rfl ?_
  refine mx_p_aln rfl ?_
  have ho9 : a0 < h.1 ∧ (mx_lay a0).1 = 12 := by
    by_cases hh : a0 < h.1 ∧ (mx_lay a0).1 = 12
    · exact hh
    · rw [if_neg hh] at hq; cases hq
  rw [if_pos ho9] at hq
  obtain ⟨x8, hx8, hq⟩ := mx_bS hq
  refine mx_e_cv mx_t_X9_lastWord ho9 rfl rfl rfl ⟨Nat.le_of_ble_eq_true rfl, Nat.le_of_ble_eq_true rfl, Nat.le_of_ble_eq_true rfl⟩ (Nat.le_of_ble_eq_true rfl) rfl rfl rfl ⟨Nat.zero_le _, Nat.zero_le _⟩ (t_X9_lastWord hx8) ?_
  have ho11 : a1 < h.1 ∧ (mx_lay a1).1 = 3 := by
    by_cases hh : a1 < h.1 ∧ (mx_lay a1).1 = 3
    · exact hh
    · rw [if_neg hh] at hq; cases hq
  rw [if_pos ho11] at hq
  obtain ⟨x10, hx10, hq⟩ := mx_bS hq
  refine mx_e_cv mx_t_X0_kindOf ho11 rfl rfl rfl ⟨Nat.le_of_ble_eq_true rfl, Nat.le_of_ble_eq_true rfl, Nat.le_of_ble_eq_true rfl⟩ (Nat.le_of_ble_eq_true rfl) rfl rfl rfl ⟨Nat.zero_le _, Nat.zero_le _⟩ (t_X0_kindOf hx10) ?_
  refine mx_p_ic ?_
  obtain ⟨v13, hE, hK⟩ := mx_bS hq
  have HJ : mx_Ev mx_k_X9_isEndable mx_noS (mx_b_X9_isEndable 17, [none, none], [.int v13], h, 0, 0) (some (.int res), h) := by
    replace hq := hK
    by_cases hb14 : v13 = 0 ∨ v13 = 1
    · rw [if_pos hb14] at hq; cases hq; exact mx_e_rb rfl hb14
    · rw [if_neg hb14] at hq; cases hq
  clear hK
  replace hq := hE
  by_cases hc12 : ¬ x10 = 2
  · rw [if_pos hc12] at hq
    refine mx_e_it (decide_eq_true hc12) ?_
    refine mx_p_ic ?_
    refine mx_p_np ?_
    cases hq; exact mx_Ev.weak (mx_le.drop _ (mx_le.drop _ (mx_le.nil))) HJ
  · rw [if_neg hc12] at hq
    refine mx_e_if (fun z => hc12 (of_decide_eq_true z)) ?_
    refine mx_p_ic ?_
    refine mx_p_gt ?_
    cases hq; exact mx_Ev.weak (mx_le.drop _ (mx_le.drop _ (mx_le.nil))) HJ
set_option maxRecDepth 20000 in
set_option maxHeartbeats 1000000 in
theorem t_X9_decree {a0 : Nat} {a1 : Nat} {h : mx_Hp} {res} (hq : f_X9_decree a0 a1 h = some res) : mx_Ms mx_k_X9_decree [.ref a0, .ref a1] h (some (.int res.1), res.2) := by
  unfold f_X9_decree at hq
  show mx_Ev mx_k_X9_decree mx_noS (mx_b_X9_decree 0, [some (.ref a0), some (.ref a1)], [], h, 0, 0) _
  refine mx_p_aln rfl ?_
  refine mx_p_aln rfl ?_
  refine mx_p_aln rfl ?_
  obtain ⟨x9, hx9, hq⟩ := mx_bS hq
  refine mx_e_gi hx9 (by decide) ?_
  have ho11 : a0 < h.1 ∧ (mx_lay a0).1 = 12 := by
    by_cases hh : a0 < h.1 ∧ (mx_lay a0).1 = 12
    · exact hh
    · rw [if_neg hh] at hq; cases hq
  rw [if_pos ho11] at hq
  obtain ⟨x10, hx10, hq⟩ := mx_bS hq
  refine mx_e_cv mx_t_X9_mayorOf ho11 rfl rfl rfl ⟨Nat.le_of_ble_eq_true rfl, Nat.le_of_ble_eq_true rfl, Nat.le_of_ble_eq_true rfl⟩ (Nat.le_of_ble_eq_true rfl) rfl rfl rfl ⟨Nat.zero_le _, Nat.zero_le _⟩ (t_X9_mayorOf hx10) ?_
  refine mx_p_aln rfl ?_
  obtain ⟨x12, hx12, hq⟩ := mx_bS hq
  refine mx_e_gr hx12 rfl ?_
  refine mx_p_aln rfl ?_
  have ho14 : x12 < h.1 ∧ (mx_lay x12).1 = 10 := by
    by_cases hh : x12 < h.1 ∧ (mx_lay x12).1 = 10
    · exact hh
    · rw [if_neg hh] at hq; cases hq
  rw [if_pos ho14] at hq
  obtain ⟨x13, hx13, hq⟩ := mx_bS hq
  refine mx_e_cv mx_t_X7_worthIn ho14 rfl rfl rfl ⟨Nat.le_of_ble_eq_true rfl, Nat.le_of_ble_eq_true rfl, Nat.le_of_ble_eq_true rfl⟩ (Nat.le_of_ble_eq_true rfl) rfl rfl rfl ⟨Nat.zero_le _, Nat.zero_le _⟩ (t_X7_worthIn hx13) ?_
  have ho16 : a0 < h.1 ∧ (mx_lay a0).1 = 12 := by
    by_cases hh : a0 < h.1 ∧ (mx_lay a0).1 = 12
    · exact hh
    · rw [if_neg hh] at hq; cases hq
  rw [if_pos ho16] at hq
  obtain ⟨x15, hx15, hq⟩ := mx_bS hq
  refine mx_e_cv mx_t_X9_gain ho16 rfl rfl rfl ⟨Nat.le_of_ble_eq_true rfl, Nat.le_of_ble_eq_true rfl, Nat.le_of_ble_eq_true rfl⟩ (Nat.le_of_ble_eq_true rfl) rfl rfl rfl ⟨Nat.zero_le _, Nat.zero_le _⟩ (t_X9_gain hx15) ?_
  cases hq; exact mx_e_ri rfl
set_option maxRecDepth 20000 in
set_option maxHeartbeats 1000000 in
theorem t_X9_fits {a0 : Nat} {a1 : Nat} {a2 : Int32} {h : mx_Hp} {res} (hq : f_X9_fits a0 a1 a2 h = some res) : mx_Ms mx_k_X9_fits [.ref a0, .ref a1, .int a2] h (some (.int res), h) := by
  unfold f_X9_fits at hq
  show mx_Ev mx_k_X9_fits mx_noS (mx_b_X9_fits 0, [some (.ref a0), some (.ref a1), some (.int a2)], [], h, 0, 0) _
  refine mx_p_aln rfl ?_
  obtain ⟨x12, hx12, hq⟩ := mx_bS hq
  refine mx_e_gr hx12 rfl ?_
  obtain ⟨x13, hx13, hq⟩ := mx_bS hq
  refine mx_e_gi hx13 (by decide) ?_
  obtain ⟨v21, hE, hK⟩ := mx_bS hq
  have HJ : mx_Ev mx_k_X9_fits mx_noS (mx_b_X9_fits 31, [none, none, none], [.int v21], h, 0, 0) (some (.int res), h) := by
    replace hq := hK
    by_cases hb22 : v21 = 0 ∨ v21 = 1
    · rw [if_pos hb22] at hq; cases hq; exact mx_e_rb rfl hb22
    · rw [if_neg hb22] at hq; cases hq
  clear hK
  replace hq := hE
  by_cases hc14 : x13 = 0
  · rw [if_pos hc14] at hq
    refine mx_e_zt (decide_eq_true hc14) ?_
    refine mx_p_ic ?_
    refine mx_p_gt ?_
    cases hq; exact mx_Ev.weak (mx_le.drop _ (mx_le.drop _ (mx_le.drop _ (mx_le.nil)))) HJ
  · rw [if_neg hc14] at hq
    refine mx_e_zf (fun z => hc14 (of_decide_eq_true z)) ?_
    refine mx_p_aln rfl ?_
    refine mx_p_aln rfl ?_
    have ho16 : a0 < h.1 ∧ (mx_lay a0).1 = 12 := by
      by_cases hh : a0 < h.1 ∧ (mx_lay a0).1 = 12
      · exact hh
      · rw [if_neg hh] at hq; cases hq
    rw [if_pos ho16] at hq
    obtain ⟨x15, hx15, hq⟩ := mx_bS hq
    refine mx_e_cv mx_t_X9_lastWord ho16 rfl rfl rfl ⟨Nat.le_of_ble_eq_true rfl, Nat.le_of_ble_eq_true rfl, Nat.le_of_ble_eq_true rfl⟩ (Nat.le_of_ble_eq_true rfl) rfl rfl rfl ⟨Nat.zero_le _, Nat.zero_le _⟩ (t_X9_lastWord hx15) ?_
    have ho18 : a1 < h.1 ∧ (mx_lay a1).1 = 3 := by
      by_cases hh : a1 < h.1 ∧ (mx_lay a1).1 = 3
      · exact hh
      · rw [if_neg hh] at hq; cases hq
    rw [if_pos ho18] at hq
    obtain ⟨x17, hx17, hq⟩ := mx_bS hq
    refine mx_e_cv mx_t_X0_behindOf ho18 rfl rfl rfl ⟨Nat.le_of_ble_eq_true rfl, Nat.le_of_ble_eq_true rfl, Nat.le_of_ble_eq_true rfl⟩ (Nat.le_of_ble_eq_true rfl) rfl rfl rfl ⟨Nat.zero_le _, Nat.zero_le _⟩ (t_X0_behindOf hx17) ?_
    refine mx_p_iln rfl ?_
    obtain ⟨x19, hx19, hq⟩ := mx_bS hq
    refine mx_e_cs mx_t_X11_bit rfl rfl rfl ⟨Nat.le_of_ble_eq_true rfl, Nat.le_of_ble_eq_true rfl, Nat.le_of_ble_eq_true rfl⟩ (Nat.le_of_ble_eq_true rfl) rfl rfl ⟨Nat.zero_le _, Nat.zero_le _⟩ (t_X11_bit hx19) ?_
    refine mx_p_iand ?_
    by_cases hc20 : (x17 &&& x19) = 0
    · rw [if_pos hc20] at hq
      refine mx_e_zt (decide_eq_true hc20) ?_
      refine mx_p_ic ?_
      refine mx_p_np ?_
      cases hq; exact mx_Ev.weak (mx_le.drop _ (mx_le.drop _ (mx_le.drop _ (mx_le.nil)))) HJ
    · rw [if_neg hc20] at hq
      refine mx_e_zf (fun z => hc20 (of_decide_eq_true z)) ?_
      refine mx_p_np ?_
      refine mx_p_ic ?_
      refine mx_p_gt ?_
      cases hq; exact mx_Ev.weak (mx_le.drop _ (mx_le.drop _ (mx_le.drop _ (mx_le.nil)))) HJ
set_option maxRecDepth 20000 in
set_option maxHeartbeats 1000000 in
theorem t_X9_speak {a0 : Nat} {a1 : Int32} {h : mx_Hp} {res} (hq : f_X9_speak a0 a1 h = some res) : mx_Ms mx_k_X9_speak [.ref a0, .int a1] h (none, res) := by
  unfold f_X9_speak at hq
  show mx_Ev mx_k_X9_speak mx_noS (mx_b_X9_speak 0, [some (.ref a0), some (.int a1)], [], h, 0, 0) _
  refine mx_p_aln rfl ?_
  obtain ⟨x6, hx6, hq⟩ := mx_bS hq
  refine mx_e_gr hx6 rfl ?_
  refine mx_p_iln rfl ?_
  have ho8 : x6 < h.1 ∧ (mx_lay x6).1 = 10 := by
    by_cases hh : x6 < h.1 ∧ (mx_lay x6).1 = 10
    · exact hh
    · rw [if_neg hh] at hq; cases hq
  rw [if_pos ho8] at hq
  obtain ⟨x7, hx7, hq⟩ := mx_bS hq
  refine mx_e_cv mx_t_X7_add ho8 rfl rfl rfl ⟨Nat.le_of_ble_eq_true rfl, Nat.le_of_ble_eq_true rfl, Nat.le_of_ble_eq_true rfl⟩ (Nat.le_of_ble_eq_true rfl) rfl rfl rfl ⟨Nat.zero_le _, Nat.zero_le _⟩ (t_X7_add hx7) ?_
  refine mx_p_aln rfl ?_
  refine mx_p_dup rfl ?_
  obtain ⟨x9, hx9, hq⟩ := mx_bS hq
  refine mx_e_gi hx9 (by decide) ?_
  refine mx_p_ic ?_
  refine mx_p_iadd ?_
  obtain ⟨h10, hh10, hq⟩ := mx_bS hq
  refine mx_e_pi hh10 ?_
  cases hq; exact mx_p_rv
set_option maxRecDepth 20000 in
set_option maxHeartbeats 1000000 in
theorem t_X9_letFall {a0 : Nat} {h : mx_Hp} {res} (hq : f_X9_letFall a0 h = some res) : mx_Ms mx_k_X9_letFall [.ref a0] h (none, res) := by
  unfold f_X9_letFall at hq
  show mx_Ev mx_k_X9_letFall mx_noS (mx_b_X9_letFall 0, [some (.ref a0)], [], h, 0, 0) _
  refine mx_p_aln rfl ?_
  obtain ⟨x6, hx6, hq⟩ := mx_bS hq
  refine mx_e_gr hx6 rfl ?_
  have ho8 : x6 < h.1 ∧ (mx_lay x6).1 = 10 := by
    by_cases hh : x6 < h.1 ∧ (mx_lay x6).1 = 10
    · exact hh
    · rw [if_neg hh] at hq; cases hq
  rw [if_pos ho8] at hq
  obtain ⟨x7, hx7, hq⟩ := mx_bS hq
  refine mx_e_cv mx_t_X7_clear ho8 rfl rfl rfl ⟨Nat.le_of_ble_eq_true rfl, Nat.le_of_ble_eq_true rfl, Nat.le_of_ble_eq_true rfl⟩ (Nat.le_of_ble_eq_true rfl) rfl rfl rfl ⟨Nat.zero_le _, Nat.zero_le _⟩ (t_X7_clear hx7) ?_
  refine mx_p_aln rfl ?_
  refine mx_p_dup rfl ?_
  obtain ⟨x9, hx9, hq⟩ := mx_bS hq
  refine mx_e_gi hx9 (by decide) ?_
  refine mx_p_ic ?_
  refine mx_p_iadd ?_
  obtain ⟨h10, hh10, hq⟩ := mx_bS hq
  refine mx_e_pi hh10 ?_
  cases hq; exact mx_p_rv
set_option maxRecDepth 20000 in
set_option maxHeartbeats 1000000 in
theorem t_X1_step {a0 : Nat} {a1 : Nat} {a2 : Int32} {h : mx_Hp} {res} (hq : f_X1_step a0 a1 a2 h = some res) : mx_Ms mx_k_X1_step [.ref a0, .ref a1, .int a2] h (none, res) := by
  unfold f_X1_step at hq
  show mx_Ev mx_k_X1_step mx_noS (mx_b_X1_step 0, [some (.ref a0), some (.ref a1), some (.int a2), none, none], [], h, 0, 0) _
  refine mx_p_iln rfl ?_
  refine mx_p_bp ?_
  by_cases hc187 : (64 : Int32) = 0
  · rw [if_pos hc187] at hq; cases hq
  rw [if_neg hc187] at hq
  refine mx_e_dv hc187 ?_
  refine mx_p_ic ?_
  by_cases hc188 : (3 : Int32) = 0
  · rw [if_pos hc188] at hq; cases hq
  rw [if_neg hc188] at hq
  refine mx_e_rm hc188 ?_
  refine mx_p_isn (loc' := [some (.ref a0), some (.ref a1), some (.int a2), some (.int ((a2 / 64) - (a2 / 64) / 3 * 3)), none]) rfl ?_
  refine mx_p_iln rfl ?_
  by_cases hc189 : ¬ ((a2 / 64) - (a2 / 64) / 3 * 3) = 0
  · rw [if_pos hc189] at hq
    refine mx_e_zt (decide_eq_true hc189) ?_
    refine mx_p_iln rfl ?_
    refine mx_p_ic ?_
    by_cases hc190 : ¬ ((a2 / 64) - (a2 / 64) / 3 * 3) = 1
    · rw [if_pos hc190] at hq
      refine mx_e_it (decide_eq_true hc190) ?_
      refine mx_p_aln rfl ?_
      obtain ⟨x191, hx191, hq⟩ := mx_bS hq
      refine mx_e_gi hx191 (by decide) ?_
      obtain ⟨v195, hE, hK⟩ := mx_bS hq
      have HJ : mx_Ev mx_k_X1_step mx_noS (mx_b_X1_step 64, [some (.ref a0), some (.ref a1), none, none, none], [.int v195], h, 0, 0) (none, res) := by
        replace hq := hK
        refine mx_p_is (loc' := [some (.ref a0), some (.ref a1), none, none, some (.int v195)]) rfl ?_
        refine mx_p_aln rfl ?_
        refine mx_p_il rfl ?_
        have ho197 : a1 < h.1 ∧ (mx_lay a1).1 = 3 := by
          by_cases hh : a1 < h.1 ∧ (mx_lay a1).1 = 3
          · exact hh
          · rw [if_neg hh] at hq; cases hq
        rw [if_pos ho197] at hq
        obtain ⟨x196, hx196, hq⟩ := mx_bS hq
        refine mx_e_cv mx_t_X0_has ho197 rfl rfl rfl ⟨Nat.le_of_ble_eq_true rfl, Nat.le_of_ble_eq_true rfl, Nat.le_of_ble_eq_true rfl⟩ (Nat.le_of_ble_eq_true rfl) rfl rfl rfl ⟨Nat.zero_le _, Nat.zero_le _⟩ (t_X0_has hx196) ?_
        obtain ⟨v231, hE, hK⟩ := mx_bS hq
        have HJ : mx_Ev mx_k_X1_step mx_noS (mx_b_X1_step 135, [none, none, none, none, none], [], v231, 0, 0) (none, res) := by
          replace hq := hK
          cases hq; exact mx_p_rv
        clear hK
        replace hq := hE
        by_cases hc198 : x196 = 0
        · rw [if_pos hc198] at hq
          refine mx_e_zt (decide_eq_true hc198) ?_
          refine mx_p_aln rfl ?_
          obtain ⟨x199, hx199, hq⟩ := mx_bS hq
          refine mx_e_gr hx199 rfl ?_
          obtain ⟨x200, hx200, hq⟩ := mx_bS hq
          refine mx_e_gr hx200 rfl ?_
          obtain ⟨x201, hx201, hq⟩ := mx_bS hq
          refine mx_e_gi hx201 (by decide) ?_
          by_cases hc202 : x201 ≤ 0
          · rw [if_pos hc202] at hq
            refine mx_e_zt (decide_eq_true hc202) ?_
            cases hq; exact mx_Ev.weak (mx_le.drop _ (mx_le.drop _ (mx_le.same _ (mx_le.same _ (mx_le.drop _ (mx_le.nil)))))) HJ
          · rw [if_neg hc202] at hq
            refine mx_e_zf (fun z => hc202 (of_decide_eq_true z)) ?_
            refine mx_p_aln rfl ?_
            obtain ⟨x203, hx203, hq⟩ := mx_bS hq
            refine mx_e_gr hx203 rfl ?_
            have ho205 : x203 < h.1 ∧ (mx_lay x203).1 = 12 := by
              by_cases hh : x203 < h.1 ∧ (mx_lay x203).1 = 12
              · exact hh
              · rw [if_neg hh] at hq; cases hq
            rw [if_pos ho205] at hq
            obtain ⟨x204, hx204, hq⟩ := mx_bS hq
            refine mx_e_cv mx_t_X9_letFall ho205 rfl rfl rfl ⟨Nat.le_of_ble_eq_true rfl, Nat.le_of_ble_eq_true rfl, Nat.le_of_ble_eq_true rfl⟩ (Nat.le_of_ble_eq_true rfl) rfl rfl rfl ⟨Nat.zero_le _, Nat.zero_le _⟩ (t_X9_letFall hx204) ?_
            refine mx_p_np ?_
            cases hq; exact mx_Ev.weak (mx_le.drop _ (mx_le.drop _ (mx_le.same _ (mx_le.same _ (mx_le.drop _ (mx_le.nil)))))) HJ
        · rw [if_neg hc198] at hq
          refine mx_e_zf (fun z => hc198 (of_decide_eq_true z)) ?_
          refine mx_p_aln rfl ?_
          obtain ⟨x206, hx206, hq⟩ := mx_bS hq
          refine mx_e_gr hx206 rfl ?_
          refine mx_p_aln rfl ?_
          refine mx_p_il rfl ?_
          have ho208 : x206 < h.1 ∧ (mx_lay x206).1 = 12 := by
            by_cases hh : x206 < h.1 ∧ (mx_lay x206).1 = 12
            · exact hh
            · rw [if_neg hh] at hq; cases hq
          rw [if_pos ho208] at hq
          obtain ⟨x207, hx207, hq⟩ := mx_bS hq
          refine mx_e_cv mx_t_X9_fits ho208 rfl rfl rfl ⟨Nat.le_of_ble_eq_true rfl, Nat.le_of_ble_eq_true rfl, Nat.le_of_ble_eq_true rfl⟩ (Nat.le_of_ble_eq_true rfl) rfl rfl rfl ⟨Nat.zero_le _, Nat.zero_le _⟩ (t_X9_fits hx207) ?_
          by_cases hc209 : x207 = 0
          · rw [if_pos hc209] at hq
            refine mx_e_zt (decide_eq_true hc209) ?_
            refine mx_p_aln rfl ?_
            obtain ⟨x210, hx210, hq⟩ := mx_bS hq
            refine mx_e_gr hx210 rfl ?_
            obtain ⟨x211, hx211, hq⟩ := mx_bS hq
            refine mx_e_gr hx211 rfl ?_
            obtain ⟨x212, hx212, hq⟩ := mx_bS hq
            refine mx_e_gi hx212 (by decide) ?_
            by_cases hc213 : x212 ≤ 0
            · rw [if_pos hc213] at hq
              refine mx_e_zt (decide_eq_true hc213) ?_
              cases hq; exact mx_Ev.weak (mx_le.drop _ (mx_le.drop _ (mx_le.same _ (mx_le.same _ (mx_le.drop _ (mx_le.nil)))))) HJ
            · rw [if_neg hc213] at hq
              refine mx_e_zf (fun z => hc213 (of_decide_eq_true z)) ?_
              refine mx_p_aln rfl ?_
              obtain ⟨x214, hx214, hq⟩ := mx_bS hq
              refine mx_e_gr hx214 rfl ?_
              have ho216 : x214 < h.1 ∧ (mx_lay x214).1 = 12 := by
                by_cases hh : x214 < h.1 ∧ (mx_lay x214).1 = 12
                · exact hh
                · rw [if_neg hh] at hq; cases hq
              rw [if_pos ho216] at hq
              obtain ⟨x215, hx215, hq⟩ := mx_bS hq
              refine mx_e_cv mx_t_X9_letFall ho216 rfl rfl rfl ⟨Nat.le_of_ble_eq_true rfl, Nat.le_of_ble_eq_true rfl, Nat.le_of_ble_eq_true rfl⟩ (Nat.le_of_ble_eq_true rfl) rfl rfl rfl ⟨Nat.zero_le _, Nat.zero_le _⟩ (t_X9_letFall hx215) ?_
              refine mx_p_np ?_
              cases hq; exact mx_Ev.weak (mx_le.drop _ (mx_le.drop _ (mx_le.same _ (mx_le.same _ (mx_le.drop _ (mx_le.nil)))))) HJ
          · rw [if_neg hc209] at hq
            refine mx_e_zf (fun z => hc209 (of_decide_eq_true z)) ?_
            refine mx_p_aln rfl ?_
            obtain ⟨x217, hx217, hq⟩ := mx_bS hq
            refine mx_e_gr hx217 rfl ?_
            obtain ⟨x218, hx218, hq⟩ := mx_bS hq
            refine mx_e_gr hx218 rfl ?_
            obtain ⟨x219, hx219, hq⟩ := mx_bS hq
            refine mx_e_gi hx219 (by decide) ?_
            refine mx_p_bp ?_
            by_cases hc220 : 12 ≤ x219
            · rw [if_pos hc220] at hq
              refine mx_e_it (decide_eq_true hc220) ?_
              refine mx_p_aln rfl ?_
              obtain ⟨x221, hx221, hq⟩ := mx_bS hq
              refine mx_e_gr hx221 rfl ?_
              obtain ⟨x222, hx222, hq⟩ := mx_bS hq
              refine mx_e_gr hx222 rfl ?_
              obtain ⟨x223, hx223, hq⟩ := mx_bS hq
              refine mx_e_gi hx223 (by decide) ?_
              by_cases hc224 : x223 ≤ 0
              · rw [if_pos hc224] at hq
                refine mx_e_zt (decide_eq_true hc224) ?_
                cases hq; exact mx_Ev.weak (mx_le.drop _ (mx_le.drop _ (mx_le.same _ (mx_le.same _ (mx_le.drop _ (mx_le.nil)))))) HJ
              · rw [if_neg hc224] at hq
                refine mx_e_zf (fun z => hc224 (of_decide_eq_true z)) ?_
                refine mx_p_aln rfl ?_
                obtain ⟨x225, hx225, hq⟩ := mx_bS hq
                refine mx_e_gr hx225 rfl ?_
                have ho227 : x225 < h.1 ∧ (mx_lay x225).1 = 12 := by
                  by_cases hh : x225 < h.1 ∧ (mx_lay x225).1 = 12
                  · exact hh
                  · rw [if_neg hh] at hq; cases hq
                rw [if_pos ho227] at hq
                obtain ⟨x226, hx226, hq⟩ := mx_bS hq
                refine mx_e_cv mx_t_X9_letFall ho227 rfl rfl rfl ⟨Nat.le_of_ble_eq_true rfl, Nat.le_of_ble_eq_true rfl, Nat.le_of_ble_eq_true rfl⟩ (Nat.le_of_ble_eq_true rfl) rfl rfl rfl ⟨Nat.zero_le _, Nat.zero_le _⟩ (t_X9_letFall hx226) ?_
                refine mx_p_np ?_
                cases hq; exact mx_Ev.weak (mx_le.drop _ (mx_le.drop _ (mx_le.same _ (mx_le.same _ (mx_le.drop _ (mx_le.nil)))))) HJ
            · rw [if_neg hc220] at hq
              refine mx_e_if (fun z => hc220 (of_decide_eq_true z)) ?_
              refine mx_p_aln rfl ?_
              obtain ⟨x228, hx228, hq⟩ := mx_bS hq
              refine mx_e_gr hx228 rfl ?_
              refine mx_p_il rfl ?_
              have ho230 : x228 < h.1 ∧ (mx_lay x228).1 = 12 := by
                by_cases hh : x228 < h.1 ∧ (mx_lay x228).1 = 12
                · exact hh
                · rw [if_neg hh] at hq; cases hq
              rw [if_pos ho230] at hq
              obtain ⟨x229, hx229, hq⟩ := mx_bS hq
              refine mx_e_cv mx_t_X9_speak ho230 rfl rfl rfl ⟨Nat.le_of_ble_eq_true rfl, Nat.le_of_ble_eq_true rfl, Nat.le_of_ble_eq_true rfl⟩ (Nat.le_of_ble_eq_true rfl) rfl rfl rfl ⟨Nat.zero_le _, Nat.zero_le _⟩ (t_X9_speak hx229) ?_
              refine mx_p_gt ?_
              cases hq; exact mx_Ev.weak (mx_le.drop _ (mx_le.drop _ (mx_le.same _ (mx_le.same _ (mx_le.drop _ (mx_le.nil)))))) HJ
      clear hK
      replace hq := hE
      by_cases hc192 : x191 ≤ 0
      · rw [if_pos hc192] at hq
        refine mx_e_zt (decide_eq_true hc192) ?_
        refine mx_p_bp ?_
        refine mx_p_np ?_
        cases hq; exact mx_Ev.weak (mx_le.same _ (mx_le.same _ (mx_le.drop _ (mx_le.drop _ (mx_le.same _ (mx_le.nil)))))) HJ
      · rw [if_neg hc192] at hq
        refine mx_e_zf (fun z => hc192 (of_decide_eq_true z)) ?_
        refine mx_p_iln rfl ?_
        refine mx_p_aln rfl ?_
        obtain ⟨x193, hx193, hq⟩ := mx_bS hq
        refine mx_e_gi hx193 (by decide) ?_
        by_cases hc194 : (x193 : Int32) = 0
        · rw [if_pos hc194] at hq; cases hq
        rw [if_neg hc194] at hq
        refine mx_e_rm hc194 ?_
        refine mx_p_gt ?_
        cases hq; exact mx_Ev.weak (mx_le.same _ (mx_le.same _ (mx_le.drop _ (mx_le.drop _ (mx_le.same _ (mx_le.nil)))))) HJ
    · rw [if_neg hc190] at hq
      refine mx_e_if (fun z => hc190 (of_decide_eq_true z)) ?_
      refine mx_p_aln rfl ?_
      obtain ⟨x232, hx232, hq⟩ := mx_bS hq
      refine mx_e_gr hx232 rfl ?_
      refine mx_p_aln rfl ?_
      have ho234 : x232 < h.1 ∧ (mx_lay x232).1 = 12 := by
        by_cases hh : x232 < h.1 ∧ (mx_lay x232).1 = 12
        · exact hh
        · rw [if_neg hh] at hq; cases hq
      rw [if_pos ho234] at hq
      obtain ⟨x233, hx233, hq⟩ := mx_bS hq
      refine mx_e_cv mx_t_X9_isEndable ho234 rfl rfl rfl ⟨Nat.le_of_ble_eq_true rfl, Nat.le_of_ble_eq_true rfl, Nat.le_of_ble_eq_true rfl⟩ (Nat.le_of_ble_eq_true rfl) rfl rfl rfl ⟨Nat.zero_le _, Nat.zero_le _⟩ (t_X9_isEndable hx233) ?_
      by_cases hc235 : x233 = 0
      · rw [if_pos hc235] at hq
        refine mx_e_zt (decide_eq_true hc235) ?_
        refine mx_p_aln rfl ?_
        obtain ⟨x236, hx236, hq⟩ := mx_bS hq
        refine mx_e_gi hx236 (by decide) ?_
        obtain ⟨v240, hE, hK⟩ := mx_bS hq
        have HJ : mx_Ev mx_k_X1_step mx_noS (mx_b_X1_step 64, [some (.ref a0), some (.ref a1), none, none, none], [.int v240], h, 0, 0) (none, res) := by
          replace hq := hK
          refine mx_p_is (loc' := [some (.ref a0), some (.ref a1), none, none, some (.int v240)]) rfl ?_
          refine mx_p_aln rfl ?_
          refine mx_p_il rfl ?_
          have ho242 : a1 < h.1 ∧ (mx_lay a1).1 = 3 := by
            by_cases hh : a1 < h.1 ∧ (mx_lay a1).1 = 3
            · exact hh
            · rw [if_neg hh] at hq; cases hq
          rw [if_pos ho242] at hq
          obtain ⟨x241, hx241, hq⟩ := mx_bS hq
          refine mx_e_cv mx_t_X0_has ho242 rfl rfl rfl ⟨Nat.le_of_ble_eq_true rfl, Nat.le_of_ble_eq_true rfl, Nat.le_of_ble_eq_true rfl⟩ (Nat.le_of_ble_eq_true rfl) rfl rfl rfl ⟨Nat.zero_le _, Nat.zero_le _⟩ (t_X0_has hx241) ?_
          obtain ⟨v276, hE, hK⟩ := mx_bS hq
          have HJ : mx_Ev mx_k_X1_step mx_noS (mx_b_X1_step 135, [none, none, none, none, none], [], v276, 0, 0) (none, res) := by
            replace hq := hK
            cases hq; exact mx_p_rv
          clear hK
          replace hq := hE
          by_cases hc243 : x241 = 0
          · rw [if_pos hc243] at hq
            refine mx_e_zt (decide_eq_true hc243) ?_
            refine mx_p_aln rfl ?_
            obtain ⟨x244, hx244, hq⟩ := mx_bS hq
            refine mx_e_gr hx244 rfl ?_
            obtain ⟨x245, hx245, hq⟩ := mx_bS hq
            refine mx_e_gr hx245 rfl ?_
            obtain ⟨x246, hx246, hq⟩ := mx_bS hq
            refine mx_e_gi hx246 (by decide) ?_
            by_cases hc247 : x246 ≤ 0
            · rw [if_pos hc247] at hq
              refine mx_e_zt (decide_eq_true hc247) ?_
              cases hq; exact mx_Ev.weak (mx_le.drop _ (mx_le.drop _ (mx_le.same _ (mx_le.same _ (mx_le.drop _ (mx_le.nil)))))) HJ
            · rw [if_neg hc247] at hq
              refine mx_e_zf (fun z => hc247 (of_decide_eq_true z)) ?_
              refine mx_p_aln rfl ?_
              obtain ⟨x248, hx248, hq⟩ := mx_bS hq
              refine mx_e_gr hx248 rfl ?_
              have ho250 : x248 < h.1 ∧ (mx_lay x248).1 = 12 := by
                by_cases hh : x248 < h.1 ∧ (mx_lay x248).1 = 12
                · exact hh
                · rw [if_neg hh] at hq; cases hq
              rw [if_pos ho250] at hq
              obtain ⟨x249, hx249, hq⟩ := mx_bS hq
              refine mx_e_cv mx_t_X9_letFall ho250 rfl rfl rfl ⟨Nat.le_of_ble_eq_true rfl, Nat.le_of_ble_eq_true rfl, Nat.le_of_ble_eq_true rfl⟩ (Nat.le_of_ble_eq_true rfl) rfl rfl rfl ⟨Nat.zero_le _, Nat.zero_le _⟩ (t_X9_letFall hx249) ?_
              refine mx_p_np ?_
              cases hq; exact mx_Ev.weak (mx_le.drop _ (mx_le.drop _ (mx_le.same _ (mx_le.same _ (mx_le.drop _ (mx_le.nil)))))) HJ
          · rw [if_neg hc243] at hq
            refine mx_e_zf (fun z => hc243 (of_decide_eq_true z)) ?_
            refine mx_p_aln rfl ?_
            obtain ⟨x251, hx251, hq⟩ := mx_bS hq
            refine mx_e_gr hx251 rfl ?_
            refine mx_p_aln rfl ?_
            refine mx_p_il rfl ?_
            have ho253 : x251 < h.1 ∧ (mx_lay x251).1 = 12 := by
              by_cases hh : x251 < h.1 ∧ (mx_lay x251).1 = 12
              · exact hh
              · rw [if_neg hh] at hq; cases hq
            rw [if_pos ho253] at hq
            obtain ⟨x252, hx252, hq⟩ := mx_bS hq
            refine mx_e_cv mx_t_X9_fits ho253 rfl rfl rfl ⟨Nat.le_of_ble_eq_true rfl, Nat.le_of_ble_eq_true rfl, Nat.le_of_ble_eq_true rfl⟩ (Nat.le_of_ble_eq_true rfl) rfl rfl rfl ⟨Nat.zero_le _, Nat.zero_le _⟩ (t_X9_fits hx252) ?_
            by_cases hc254 : x252 = 0
            · rw [if_pos hc254] at hq
              refine mx_e_zt (decide_eq_true hc254) ?_
              refine mx_p_aln rfl ?_
              obtain ⟨x255, hx255, hq⟩ := mx_bS hq
              refine mx_e_gr hx255 rfl ?_
              obtain ⟨x256, hx256, hq⟩ := mx_bS hq
              refine mx_e_gr hx256 rfl ?_
              obtain ⟨x257, hx257, hq⟩ := mx_bS hq
              refine mx_e_gi hx257 (by decide) ?_
              by_cases hc258 : x257 ≤ 0
              · rw [if_pos hc258] at hq
                refine mx_e_zt (decide_eq_true hc258) ?_
                cases hq; exact mx_Ev.weak (mx_le.drop _ (mx_le.drop _ (mx_le.same _ (mx_le.same _ (mx_le.drop _ (mx_le.nil)))))) HJ
              · rw [if_neg hc258] at hq
                refine mx_e_zf (fun z => hc258 (of_decide_eq_true z)) ?_
                refine mx_p_aln rfl ?_
                obtain ⟨x259, hx259, hq⟩ := mx_bS hq
                refine mx_e_gr hx259 rfl ?_
                have ho261 : x259 < h.1 ∧ (mx_lay x259).1 = 12 := by
                  by_cases hh : x259 < h.1 ∧ (mx_lay x259).1 = 12
                  · exact hh
                  · rw [if_neg hh] at hq; cases hq
                rw [if_pos ho261] at hq
                obtain ⟨x260, hx260, hq⟩ := mx_bS hq
                refine mx_e_cv mx_t_X9_letFall ho261 rfl rfl rfl ⟨Nat.le_of_ble_eq_true rfl, Nat.le_of_ble_eq_true rfl, Nat.le_of_ble_eq_true rfl⟩ (Nat.le_of_ble_eq_true rfl) rfl rfl rfl ⟨Nat.zero_le _, Nat.zero_le _⟩ (t_X9_letFall hx260) ?_
                refine mx_p_np ?_
                cases hq; exact mx_Ev.weak (mx_le.drop _ (mx_le.drop _ (mx_le.same _ (mx_le.same _ (mx_le.drop _ (mx_le.nil)))))) HJ
            · rw [if_neg hc254] at hq
              refine mx_e_zf (fun z => hc254 (of_decide_eq_true z)) ?_
              refine mx_p_aln rfl ?_
              obtain ⟨x262, hx262, hq⟩ := mx_bS hq
              refine mx_e_gr hx262 rfl ?_
              obtain ⟨x263, hx263, hq⟩ := mx_bS hq
              refine mx_e_gr hx263 rfl ?_
              obtain ⟨x264, hx264, hq⟩ := mx_bS hq
              refine mx_e_gi hx264 (by decide) ?_
              refine mx_p_bp ?_
              by_cases hc265 : 12 ≤ x264
              · rw [if_pos hc265] at hq
                refine mx_e_it (decide_eq_true hc265) ?_
                refine mx_p_aln rfl ?_
                obtain ⟨x266, hx266, hq⟩ := mx_bS hq
                refine mx_e_gr hx266 rfl ?_
                obtain ⟨x267, hx267, hq⟩ := mx_bS hq
                refine mx_e_gr hx267 rfl ?_
                obtain ⟨x268, hx268, hq⟩ := mx_bS hq
                refine mx_e_gi hx268 (by decide) ?_
                by_cases hc269 : x268 ≤ 0
                · rw [if_pos hc269] at hq
                  refine mx_e_zt (decide_eq_true hc269) ?_
                  cases hq; exact mx_Ev.weak (mx_le.drop _ (mx_le.drop _ (mx_le.same _ (mx_le.same _ (mx_le.drop _ (mx_le.nil)))))) HJ
                · rw [if_neg hc269] at hq
                  refine mx_e_zf (fun z => hc269 (of_decide_eq_true z)) ?_
                  refine mx_p_aln rfl ?_
                  obtain ⟨x270, hx270, hq⟩ := mx_bS hq
                  refine mx_e_gr hx270 rfl ?_
                  have ho272 : x270 < h.1 ∧ (mx_lay x270).1 = 12 := by
                    by_cases hh : x270 < h.1 ∧ (mx_lay x270).1 = 12
                    · exact hh
                    · rw [if_neg hh] at hq; cases hq
                  rw [if_pos ho272] at hq
                  obtain ⟨x271, hx271, hq⟩ := mx_bS hq
                  refine mx_e_cv mx_t_X9_letFall ho272 rfl rfl rfl ⟨Nat.le_of_ble_eq_true rfl, Nat.le_of_ble_eq_true rfl, Nat.le_of_ble_eq_true rfl⟩ (Nat.le_of_ble_eq_true rfl) rfl rfl rfl ⟨Nat.zero_le _, Nat.zero_le _⟩ (t_X9_letFall hx271) ?_
                  refine mx_p_np ?_
                  cases hq; exact mx_Ev.weak (mx_le.drop _ (mx_le.drop _ (mx_le.same _ (mx_le.same _ (mx_le.drop _ (mx_le.nil)))))) HJ
              · rw [if_neg hc265] at hq
                refine mx_e_if (fun z => hc265 (of_decide_eq_true z)) ?_
                refine mx_p_aln rfl ?_
                obtain ⟨x273, hx273, hq⟩ := mx_bS hq
                refine mx_e_gr hx273 rfl ?_
                refine mx_p_il rfl ?_
                have ho275 : x273 < h.1 ∧ (mx_lay x273).1 = 12 := by
                  by_cases hh : x273 < h.1 ∧ (mx_lay x273).1 = 12
                  · exact hh
                  · rw [if_neg hh] at hq; cases hq
                rw [if_pos ho275] at hq
                obtain ⟨x274, hx274, hq⟩ := mx_bS hq
                refine mx_e_cv mx_t_X9_speak ho275 rfl rfl rfl ⟨Nat.le_of_ble_eq_true rfl, Nat.le_of_ble_eq_true rfl, Nat.le_of_ble_eq_true rfl⟩ (Nat.le_of_ble_eq_true rfl) rfl rfl rfl ⟨Nat.zero_le _, Nat.zero_le _⟩ (t_X9_speak hx274) ?_
                refine mx_p_gt ?_
                cases hq; exact mx_Ev.weak (mx_le.drop _ (mx_le.drop _ (mx_le.same _ (mx_le.same _ (mx_le.drop _ (mx_le.nil)))))) HJ
        clear hK
        replace hq := hE
        by_cases hc237 : x236 ≤ 0
        · rw [if_pos hc237] at hq
          refine mx_e_zt (decide_eq_true hc237) ?_
          refine mx_p_bp ?_
          refine mx_p_np ?_
          cases hq; exact mx_Ev.weak (mx_le.same _ (mx_le.same _ (mx_le.drop _ (mx_le.drop _ (mx_le.same _ (mx_le.nil)))))) HJ
        · rw [if_neg hc237] at hq
          refine mx_e_zf (fun z => hc237 (of_decide_eq_true z)) ?_
          refine mx_p_iln rfl ?_
          refine mx_p_aln rfl ?_
          obtain ⟨x238, hx238, hq⟩ := mx_bS hq
          refine mx_e_gi hx238 (by decide) ?_
          by_cases hc239 : (x238 : Int32) = 0
          · rw [if_pos hc239] at hq; cases hq
          rw [if_neg hc239] at hq
          refine mx_e_rm hc239 ?_
          refine mx_p_gt ?_
          cases hq; exact mx_Ev.weak (mx_le.same _ (mx_le.same _ (mx_le.drop _ (mx_le.drop _ (mx_le.same _ (mx_le.nil)))))) HJ
      · rw [if_neg hc235] at hq
        refine mx_e_zf (fun z => hc235 (of_decide_eq_true z)) ?_
        refine mx_p_aln rfl ?_
        obtain ⟨x277, hx277, hq⟩ := mx_bS hq
        refine mx_e_gr hx277 rfl ?_
        refine mx_p_aln rfl ?_
        have ho279 : x277 < h.1 ∧ (mx_lay x277).1 = 12 := by
          by_cases hh : x277 < h.1 ∧ (mx_lay x277).1 = 12
          · exact hh
          · rw [if_neg hh] at hq; cases hq
        rw [if_pos ho279] at hq
        obtain ⟨x278, hx278, hq⟩ := mx_bS hq
        refine mx_e_cv mx_t_X9_decree ho279 rfl rfl rfl ⟨Nat.le_of_ble_eq_true rfl, Nat.le_of_ble_eq_true rfl, Nat.le_of_ble_eq_true rfl⟩ (Nat.le_of_ble_eq_true rfl) rfl rfl rfl ⟨Nat.zero_le _, Nat.zero_le _⟩ (t_X9_decree hx278) ?_
        refine mx_p_pop rfl ?_
        cases hq; exact mx_p_rv
  · rw [if_neg hc189] at hq
    refine mx_e_zf (fun z => hc189 (of_decide_eq_true z)) ?_
    refine mx_p_aln rfl ?_
    refine mx_p_aln rfl ?_
    have ho281 : a0 < h.1 ∧ (mx_lay a0).1 = 4 := by
      by_cases hh : a0 < h.1 ∧ (mx_lay a0).1 = 4
      · exact hh
      · rw [if_neg hh] at hq; cases hq
    rw [if_pos ho281] at hq
    obtain ⟨x280, hx280, hq⟩ := mx_bS hq
    refine mx_e_cv mx_t_X1_finishes ho281 rfl rfl rfl ⟨Nat.le_of_ble_eq_true rfl, Nat.le_of_ble_eq_true rfl, Nat.le_of_ble_eq_true rfl⟩ (Nat.le_of_ble_eq_true rfl) rfl rfl rfl ⟨Nat.zero_le _, Nat.zero_le _⟩ (t_X1_finishes hx280) ?_
    by_cases hc282 : x280.1 = 0
    · rw [if_pos hc282] at hq
      refine mx_e_zt (decide_eq_true hc282) ?_
      refine mx_p_iln rfl ?_
      refine mx_p_ic ?_
      by_cases hc283 : ¬ ((a2 / 64) - (a2 / 64) / 3 * 3) = 1
      · rw [if_pos hc283] at hq
        refine mx_e_it (decide_eq_true hc283) ?_
        refine mx_p_aln rfl ?_
        obtain ⟨x284, hx284, hq⟩ := mx_bS hq
        refine mx_e_gi hx284 (by decide) ?_
        obtain ⟨v288, hE, hK⟩ := mx_bS hq
        have HJ : mx_Ev mx_k_X1_step mx_noS (mx_b_X1_step 64, [some (.ref a0), some (.ref a1), none, none, none], [.int v288], x280.2, 0, 0) (none, res) := by
          replace hq := hK
          refine mx_p_is (loc' := [some (.ref a0), some (.ref a1), none, none, some (.int v288)]) rfl ?_
          refine mx_p_aln rfl ?_
          refine mx_p_il rfl ?_
          have ho290 : a1 < x280.2.1 ∧ (mx_lay a1).1 = 3 := by
            by_cases hh : a1 < x280.2.1 ∧ (mx_lay a1).1 = 3
            · exact hh
            · rw [if_neg hh] at hq; cases hq
          rw [if_pos ho290] at hq
          obtain ⟨x289, hx289, hq⟩ := mx_bS hq
          refine mx_e_cv mx_t_X0_has ho290 rfl rfl rfl ⟨Nat.le_of_ble_eq_true rfl, Nat.le_of_ble_eq_true rfl, Nat.le_of_ble_eq_true rfl⟩ (Nat.le_of_ble_eq_true rfl) rfl rfl rfl ⟨Nat.zero_le _, Nat.zero_le _⟩ (t_X0_has hx289) ?_
          obtain ⟨v324, hE, hK⟩ := mx_bS hq
          have HJ : mx_Ev mx_k_X1_step mx_noS (mx_b_X1_step 135, [none, none, none, none, none], [], v324, 0, 0) (none, res) := by
            replace hq := hK
            cases hq; exact mx_p_rv
          clear hK
          replace hq := hE
          by_cases hc291 : x289 = 0
          · rw [if_pos hc291] at hq
            refine mx_e_zt (decide_eq_true hc291) ?_
            refine mx_p_aln rfl ?_
            obtain ⟨x292, hx292, hq⟩ := mx_bS hq
            refine mx_e_gr hx292 rfl ?_
            obtain ⟨x293, hx293, hq⟩ := mx_bS hq
            refine mx_e_gr hx293 rfl ?_
            obtain ⟨x294, hx294, hq⟩ := mx_bS hq
            refine mx_e_gi hx294 (by decide) ?_
            by_cases hc295 : x294 ≤ 0
            · rw [if_pos hc295] at hq
              refine mx_e_zt (decide_eq_true hc295) ?_
              cases hq; exact mx_Ev.weak (mx_le.drop _ (mx_le.drop _ (mx_le.same _ (mx_le.same _ (mx_le.drop _ (mx_le.nil)))))) HJ
            · rw [if_neg hc295] at hq
              refine mx_e_zf (fun z => hc295 (of_decide_eq_true z)) ?_
              refine mx_p_aln rfl ?_
              obtain ⟨x296, hx296, hq⟩ := mx_bS hq
              refine mx_e_gr hx296 rfl ?_
              have ho298 : x296 < x280.2.1 ∧ (mx_lay x296).1 = 12 := by
                by_cases hh : x296 < x280.2.1 ∧ (mx_lay x296).1 = 12
                · exact hh
                · rw [if_neg hh] at hq; cases hq
              rw [if_pos ho298] at hq
              obtain ⟨x297, hx297, hq⟩ := mx_bS hq
              refine mx_e_cv mx_t_X9_letFall ho298 rfl rfl rfl ⟨Nat.le_of_ble_eq_true rfl, Nat.le_of_ble_eq_true rfl, Nat.le_of_ble_eq_true rfl⟩ (Nat.le_of_ble_eq_true rfl) rfl rfl rfl ⟨Nat.zero_le _, Nat.zero_le _⟩ (t_X9_letFall hx297) ?_
              refine mx_p_np ?_
              cases hq; exact mx_Ev.weak (mx_le.drop _ (mx_le.drop _ (mx_le.same _ (mx_le.same _ (mx_le.drop _ (mx_le.nil)))))) HJ
          · rw [if_neg hc291] at hq
            refine mx_e_zf (fun z => hc291 (of_decide_eq_true z)) ?_
            refine mx_p_aln rfl ?_
            obtain ⟨x299, hx299, hq⟩ := mx_bS hq
            refine mx_e_gr hx299 rfl ?_
            refine mx_p_aln rfl ?_
            refine mx_p_il rfl ?_
            have ho301 : x299 < x280.2.1 ∧ (mx_lay x299).1 = 12 := by
              by_cases hh : x299 < x280.2.1 ∧ (mx_lay x299).1 = 12
              · exact hh
              · rw [if_neg hh] at hq; cases hq
            rw [if_pos ho301] at hq
            obtain ⟨x300, hx300, hq⟩ := mx_bS hq
            refine mx_e_cv mx_t_X9_fits ho301 rfl rfl rfl ⟨Nat.le_of_ble_eq_true rfl, Nat.le_of_ble_eq_true rfl, Nat.le_of_ble_eq_true rfl⟩ (Nat.le_of_ble_eq_true rfl) rfl rfl rfl ⟨Nat.zero_le _, Nat.zero_le _⟩ (t_X9_fits hx300) ?_
            by_cases hc302 : x300 = 0
            · rw [if_pos hc302] at hq
              refine mx_e_zt (decide_eq_true hc302) ?_
              refine mx_p_aln rfl ?_
              obtain ⟨x303, hx303, hq⟩ := mx_bS hq
              refine mx_e_gr hx303 rfl ?_
              obtain ⟨x304, hx304, hq⟩ := mx_bS hq
              refine mx_e_gr hx304 rfl ?_
              obtain ⟨x305, hx305, hq⟩ := mx_bS hq
              refine mx_e_gi hx305 (by decide) ?_
              by_cases hc306 : x305 ≤ 0
              · rw [if_pos hc306] at hq
                refine mx_e_zt (decide_eq_true hc306) ?_
                cases hq; exact mx_Ev.weak (mx_le.drop _ (mx_le.drop _ (mx_le.same _ (mx_le.same _ (mx_le.drop _ (mx_le.nil)))))) HJ
              · rw [if_neg hc306] at hq
                refine mx_e_zf (fun z => hc306 (of_decide_eq_true z)) ?_
                refine mx_p_aln rfl ?_
                obtain ⟨x307, hx307, hq⟩ := mx_bS hq
                refine mx_e_gr hx307 rfl ?_
                have ho309 : x307 < x280.2.1 ∧ (mx_lay x307).1 = 12 := by
                  by_cases hh : x307 < x280.2.1 ∧ (mx_lay x307).1 = 12
                  · exact hh
                  · rw [if_neg hh] at hq; cases hq
                rw [if_pos ho309] at hq
                obtain ⟨x308, hx308, hq⟩ := mx_bS hq
                refine mx_e_cv mx_t_X9_letFall ho309 rfl rfl rfl ⟨Nat.le_of_ble_eq_true rfl, Nat.le_of_ble_eq_true rfl, Nat.le_of_ble_eq_true rfl⟩ (Nat.le_of_ble_eq_true rfl) rfl rfl rfl ⟨Nat.zero_le _, Nat.zero_le _⟩ (t_X9_letFall hx308) ?_
                refine mx_p_np ?_
                cases hq; exact mx_Ev.weak (mx_le.drop _ (mx_le.drop _ (mx_le.same _ (mx_le.same _ (mx_le.drop _ (mx_le.nil)))))) HJ
            · rw [if_neg hc302] at hq
              refine mx_e_zf (fun z => hc302 (of_decide_eq_true z)) ?_
              refine mx_p_aln rfl ?_
              obtain ⟨x310, hx310, hq⟩ := mx_bS hq
              refine mx_e_gr hx310 rfl ?_
              obtain ⟨x311, hx311, hq⟩ := mx_bS hq
              refine mx_e_gr hx311 rfl ?_
              obtain ⟨x312, hx312, hq⟩ := mx_bS hq
              refine mx_e_gi hx312 (by decide) ?_
              refine mx_p_bp ?_
              by_cases hc313 : 12 ≤ x312
              · rw [if_pos hc313] at hq
                refine mx_e_it (decide_eq_true hc313) ?_
                refine mx_p_aln rfl ?_
                obtain ⟨x314, hx314, hq⟩ := mx_bS hq
                refine mx_e_gr hx314 rfl ?_
                obtain ⟨x315, hx315, hq⟩ := mx_bS hq
                refine mx_e_gr hx315 rfl ?_
                obtain ⟨x316, hx316, hq⟩ := mx_bS hq
                refine mx_e_gi hx316 (by decide) ?_
                by_cases hc317 : x316 ≤ 0
                · rw [if_pos hc317] at hq
                  refine mx_e_zt (decide_eq_true hc317) ?_
                  cases hq; exact mx_Ev.weak (mx_le.drop _ (mx_le.drop _ (mx_le.same _ (mx_le.same _ (mx_le.drop _ (mx_le.nil)))))) HJ
                · rw [if_neg hc317] at hq
                  refine mx_e_zf (fun z => hc317 (of_decide_eq_true z)) ?_
                  refine mx_p_aln rfl ?_
                  obtain ⟨x318, hx318, hq⟩ := mx_bS hq
                  refine mx_e_gr hx318 rfl ?_
                  have ho320 : x318 < x280.2.1 ∧ (mx_lay x318).1 = 12 := by
                    by_cases hh : x318 < x280.2.1 ∧ (mx_lay x318).1 = 12
                    · exact hh
                    · rw [if_neg hh] at hq; cases hq
                  rw [if_pos ho320] at hq
                  obtain ⟨x319, hx319, hq⟩ := mx_bS hq
                  refine mx_e_cv mx_t_X9_letFall ho320 rfl rfl rfl ⟨Nat.le_of_ble_eq_true rfl, Nat.le_of_ble_eq_true rfl, Nat.le_of_ble_eq_true rfl⟩ (Nat.le_of_ble_eq_true rfl) rfl rfl rfl ⟨Nat.zero_le _, Nat.zero_le _⟩ (t_X9_letFall hx319) ?_
                  refine mx_p_np ?_
                  cases hq; exact mx_Ev.weak (mx_le.drop _ (mx_le.drop _ (mx_le.same _ (mx_le.same _ (mx_le.drop _ (mx_le.nil)))))) HJ
              · rw [if_neg hc313] at hq
                refine mx_e_if (fun z => hc313 (of_decide_eq_true z)) ?_
                refine mx_p_aln rfl ?_
                obtain ⟨x321, hx321, hq⟩ := mx_bS hq
                refine mx_e_gr hx321 rfl ?_
                refine mx_p_il rfl ?_
                have ho323 : x321 < x280.2.1 ∧ (mx_lay x321).1 = 12 := by
                  by_cases hh : x321 < x280.2.1 ∧ (mx_lay x321).1 = 12
                  · exact hh
                  · rw [if_neg hh] at hq; cases hq
                rw [if_pos ho323] at hq
                obtain ⟨x322, hx322, hq⟩ := mx_bS hq
                refine mx_e_cv mx_t_X9_speak ho323 rfl rfl rfl ⟨Nat.le_of_ble_eq_true rfl, Nat.le_of_ble_eq_true rfl, Nat.le_of_ble_eq_true rfl⟩ (Nat.le_of_ble_eq_true rfl) rfl rfl rfl ⟨Nat.zero_le _, Nat.zero_le _⟩ (t_X9_speak hx322) ?_
                refine mx_p_gt ?_
                cases hq; exact mx_Ev.weak (mx_le.drop _ (mx_le.drop _ (mx_le.same _ (mx_le.same _ (mx_le.drop _ (mx_le.nil)))))) HJ
        clear hK
        replace hq := hE
        by_cases hc285 : x284 ≤ 0
        · rw [if_pos hc285] at hq
          refine mx_e_zt (decide_eq_true hc285) ?_
          refine mx_p_bp ?_
          refine mx_p_np ?_
          cases hq; exact mx_Ev.weak (mx_le.same _ (mx_le.same _ (mx_le.drop _ (mx_le.drop _ (mx_le.same _ (mx_le.nil)))))) HJ
        · rw [if_neg hc285] at hq
          refine mx_e_zf (fun z => hc285 (of_decide_eq_true z)) ?_
          refine mx_p_iln rfl ?_
          refine mx_p_aln rfl ?_
          obtain ⟨x286, hx286, hq⟩ := mx_bS hq
          refine mx_e_gi hx286 (by decide) ?_
          by_cases hc287 : (x286 : Int32) = 0
          · rw [if_pos hc287] at hq; cases hq
          rw [if_neg hc287] at hq
          refine mx_e_rm hc287 ?_
          refine mx_p_gt ?_
          cases hq; exact mx_Ev.weak (mx_le.same _ (mx_le.same _ (mx_le.drop _ (mx_le.drop _ (mx_le.same _ (mx_le.nil)))))) HJ
      · rw [if_neg hc283] at hq
        refine mx_e_if (fun z => hc283 (of_decide_eq_true z)) ?_
        refine mx_p_aln rfl ?_
        obtain ⟨x325, hx325, hq⟩ := mx_bS hq
        refine mx_e_gr hx325 rfl ?_
        refine mx_p_aln rfl ?_
        have ho327 : x325 < x280.2.1 ∧ (mx_lay x325).1 = 12 := by
          by_cases hh : x325 < x280.2.1 ∧ (mx_lay x325).1 = 12
          · exact hh
          · rw [if_neg hh] at hq; cases hq
        rw [if_pos ho327] at hq
        obtain ⟨x326, hx326, hq⟩ := mx_bS hq
        refine mx_e_cv mx_t_X9_isEndable ho327 rfl rfl rfl ⟨Nat.le_of_ble_eq_true rfl, Nat.le_of_ble_eq_true rfl, Nat.le_of_ble_eq_true rfl⟩ (Nat.le_of_ble_eq_true rfl) rfl rfl rfl ⟨Nat.zero_le _, Nat.zero_le _⟩ (t_X9_isEndable hx326) ?_
        by_cases hc328 : x326 = 0
        · rw [if_pos hc328] at hq
          refine mx_e_zt (decide_eq_true hc328) ?_
          refine mx_p_aln rfl ?_
          obtain ⟨x329, hx329, hq⟩ := mx_bS hq
          refine mx_e_gi hx329 (by decide) ?_
          obtain ⟨v333, hE, hK⟩ := mx_bS hq
          have HJ : mx_Ev mx_k_X1_step mx_noS (mx_b_X1_step 64, [some (.ref a0), some (.ref a1), none, none, none], [.int v333], x280.2, 0, 0) (none, res) := by
            replace hq := hK
            refine mx_p_is (loc' := [some (.ref a0), some (.ref a1), none, none, some (.int v333)]) rfl ?_
            refine mx_p_aln rfl ?_
            refine mx_p_il rfl ?_
            have ho335 : a1 < x280.2.1 ∧ (mx_lay a1).1 = 3 := by
              by_cases hh : a1 < x280.2.1 ∧ (mx_lay a1).1 = 3
              · exact hh
              · rw [if_neg hh] at hq; cases hq
            rw [if_pos ho335] at hq
            obtain ⟨x334, hx334, hq⟩ := mx_bS hq
            refine mx_e_cv mx_t_X0_has ho335 rfl rfl rfl ⟨Nat.le_of_ble_eq_true rfl, Nat.le_of_ble_eq_true rfl, Nat.le_of_ble_eq_true rfl⟩ (Nat.le_of_ble_eq_true rfl) rfl rfl rfl ⟨Nat.zero_le _, Nat.zero_le _⟩ (t_X0_has hx334) ?_
            obtain ⟨v369, hE, hK⟩ := mx_bS hq
            have HJ : mx_Ev mx_k_X1_step mx_noS (mx_b_X1_step 135, [none, none, none, none, none], [], v369, 0, 0) (none, res) := by
              replace hq := hK
              cases hq; exact mx_p_rv
            clear hK
            replace hq := hE
            by_cases hc336 : x334 = 0
            · rw [if_pos hc336] at hq
              refine mx_e_zt (decide_eq_true hc336) ?_
              refine mx_p_aln rfl ?_
              obtain ⟨x337, hx337, hq⟩ := mx_bS hq
              refine mx_e_gr hx337 rfl ?_
              obtain ⟨x338, hx338, hq⟩ := mx_bS hq
              refine mx_e_gr hx338 rfl ?_
              obtain ⟨x339, hx339, hq⟩ := mx_bS hq
              refine mx_e_gi hx339 (by decide) ?_
              by_cases hc340 : x339 ≤ 0
              · rw [if_pos hc340] at hq
                refine mx_e_zt (decide_eq_true hc340) ?_
                cases hq; exact mx_Ev.weak (mx_le.drop _ (mx_le.drop _ (mx_le.same _ (mx_le.same _ (mx_le.drop _ (mx_le.nil)))))) HJ
              · rw [if_neg hc340] at hq
                refine mx_e_zf (fun z => hc340 (of_decide_eq_true z)) ?_
                refine mx_p_aln rfl ?_
                obtain ⟨x341, hx341, hq⟩ := mx_bS hq
                refine mx_e_gr hx341 rfl ?_
                have ho343 : x341 < x280.2.1 ∧ (mx_lay x341).1 = 12 := by
                  by_cases hh : x341 < x280.2.1 ∧ (mx_lay x341).1 = 12
                  · exact hh
                  · rw [if_neg hh] at hq; cases hq
                rw [if_pos ho343] at hq
                obtain ⟨x342, hx342, hq⟩ := mx_bS hq
                refine mx_e_cv mx_t_X9_letFall ho343 rfl rfl rfl ⟨Nat.le_of_ble_eq_true rfl, Nat.le_of_ble_eq_true rfl, Nat.le_of_ble_eq_true rfl⟩ (Nat.le_of_ble_eq_true rfl) rfl rfl rfl ⟨Nat.zero_le _, Nat.zero_le _⟩ (t_X9_letFall hx342) ?_
                refine mx_p_np ?_
                cases hq; exact mx_Ev.weak (mx_le.drop _ (mx_le.drop _ (mx_le.same _ (mx_le.same _ (mx_le.drop _ (mx_le.nil)))))) HJ
            · rw [if_neg hc336] at hq
              refine mx_e_zf (fun z => hc336 (of_decide_eq_true z)) ?_
              refine mx_p_aln rfl ?_
              obtain ⟨x344, hx344, hq⟩ := mx_bS hq
              refine mx_e_gr hx344 rfl ?_
              refine mx_p_aln rfl ?_
              refine mx_p_il rfl ?_
              have ho346 : x344 < x280.2.1 ∧ (mx_lay x344).1 = 12 := by
                by_cases hh : x344 < x280.2.1 ∧ (mx_lay x344).1 = 12
                · exact hh
                · rw [if_neg hh] at hq; cases hq
              rw [if_pos ho346] at hq
              obtain ⟨x345, hx345, hq⟩ := mx_bS hq
              refine mx_e_cv mx_t_X9_fits ho346 rfl rfl rfl ⟨Nat.le_of_ble_eq_true rfl, Nat.le_of_ble_eq_true rfl, Nat.le_of_ble_eq_true rfl⟩ (Nat.le_of_ble_eq_true rfl) rfl rfl rfl ⟨Nat.zero_le _, Nat.zero_le _⟩ (t_X9_fits hx345) ?_
              by_cases hc347 : x345 = 0
              · rw [if_pos hc347] at hq
                refine mx_e_zt (decide_eq_true hc347) ?_
                refine mx_p_aln rfl ?_
                obtain ⟨x348, hx348, hq⟩ := mx_bS hq
                refine mx_e_gr hx348 rfl ?_
                obtain ⟨x349, hx349, hq⟩ := mx_bS hq
                refine mx_e_gr hx349 rfl ?_
                obtain ⟨x350, hx350, hq⟩ := mx_bS hq
                refine mx_e_gi hx350 (by decide) ?_
                by_cases hc351 : x350 ≤ 0
                · rw [if_pos hc351] at hq
                  refine mx_e_zt (decide_eq_true hc351) ?_
                  cases hq; exact mx_Ev.weak (mx_le.drop _ (mx_le.drop _ (mx_le.same _ (mx_le.same _ (mx_le.drop _ (mx_le.nil)))))) HJ
                · rw [if_neg hc351] at hq
                  refine mx_e_zf (fun z => hc351 (of_decide_eq_true z)) ?_
                  refine mx_p_aln rfl ?_
                  obtain ⟨x352, hx352, hq⟩ := mx_bS hq
                  refine mx_e_gr hx352 rfl ?_
                  have ho354 : x352 < x280.2.1 ∧ (mx_lay x352).1 = 12 := by
                    by_cases hh : x352 < x280.2.1 ∧ (mx_lay x352).1 = 12
                    · exact hh
                    · rw [if_neg hh] at hq; cases hq
                  rw [if_pos ho354] at hq
                  obtain ⟨x353, hx353, hq⟩ := mx_bS hq
                  refine mx_e_cv mx_t_X9_letFall ho354 rfl rfl rfl ⟨Nat.le_of_ble_eq_true rfl, Nat.le_of_ble_eq_true rfl, Nat.le_of_ble_eq_true rfl⟩ (Nat.le_of_ble_eq_true rfl) rfl rfl rfl ⟨Nat.zero_le _, Nat.zero_le _⟩ (t_X9_letFall hx353) ?_
                  refine mx_p_np ?_
                  cases hq; exact mx_Ev.weak (mx_le.drop _ (mx_le.drop _ (mx_le.same _ (mx_le.same _ (mx_le.drop _ (mx_le.nil)))))) HJ
              · rw [if_neg hc347] at hq
                refine mx_e_zf (fun z => hc347 (of_decide_eq_true z)) ?_
                refine mx_p_aln rfl ?_
                obtain ⟨x355, hx355, hq⟩ := mx_bS hq
                refine mx_e_gr hx355 rfl ?_
                obtain ⟨x356, hx356, hq⟩ := mx_bS hq
                refine mx_e_gr hx356 rfl ?_
                obtain ⟨x357, hx357, hq⟩ := mx_bS hq
                refine mx_e_gi hx357 (by decide) ?_
                refine mx_p_bp ?_
                by_cases hc358 : 12 ≤ x357
                · rw [if_pos hc358] at hq
                  refine mx_e_it (decide_eq_true hc358) ?_
                  refine mx_p_aln rfl ?_
                  obtain ⟨x359, hx359, hq⟩ := mx_bS hq
                  refine mx_e_gr hx359 rfl ?_
                  obtain ⟨x360, hx360, hq⟩ := mx_bS hq
                  refine mx_e_gr hx360 rfl ?_
                  obtain ⟨x361, hx361, hq⟩ := mx_bS hq
                  refine mx_e_gi hx361 (by decide) ?_
                  by_cases hc362 : x361 ≤ 0
                  · rw [if_pos hc362] at hq
                    refine mx_e_zt (decide_eq_true hc362) ?_
                    cases hq; exact mx_Ev.weak (mx_le.drop _ (mx_le.drop _ (mx_le.same _ (mx_le.same _ (mx_le.drop _ (mx_le.nil)))))) HJ
                  · rw [if_neg hc362] at hq
                    refine mx_e_zf (fun z => hc362 (of_decide_eq_true z)) ?_
                    refine mx_p_aln rfl ?_
                    obtain ⟨x363, hx363, hq⟩ := mx_bS hq
                    refine mx_e_gr hx363 rfl ?_
                    have ho365 : x363 < x280.2.1 ∧ (mx_lay x363).1 = 12 := by
                      by_cases hh : x363 < x280.2.1 ∧ (mx_lay x363).1 = 12
                      · exact hh
                      · rw [if_neg hh] at hq; cases hq
                    rw [if_pos ho365] at hq
                    obtain ⟨x364, hx364, hq⟩ := mx_bS hq
                    refine mx_e_cv mx_t_X9_letFall ho365 rfl rfl rfl ⟨Nat.le_of_ble_eq_true rfl, Nat.le_of_ble_eq_true rfl, Nat.le_of_ble_eq_true rfl⟩ (Nat.le_of_ble_eq_true rfl) rfl rfl rfl ⟨Nat.zero_le _, Nat.zero_le _⟩ (t_X9_letFall hx364) ?_
                    refine mx_p_np ?_
                    cases hq; exact mx_Ev.weak (mx_le.drop _ (mx_le.drop _ (mx_le.same _ (mx_le.same _ (mx_le.drop _ (mx_le.nil)))))) HJ
                · rw [if_neg hc358] at hq
                  refine mx_e_if (fun z => hc358 (of_decide_eq_true z)) ?_
                  refine mx_p_aln rfl ?_
                  obtain ⟨x366, hx366, hq⟩ := mx_bS hq
                  refine mx_e_gr hx366 rfl ?_
                  refine mx_p_il rfl ?_
                  have ho368 : x366 < x280.2.1 ∧ (mx_lay x366).1 = 12 := by
                    by_cases hh : x366 < x280.2.1 ∧ (mx_lay x366).1 = 12
                    · exact hh
                    · rw [if_neg hh] at hq; cases hq
                  rw [if_pos ho368] at hq
                  obtain ⟨x367, hx367, hq⟩ := mx_bS hq
                  refine mx_e_cv mx_t_X9_speak ho368 rfl rfl rfl ⟨Nat.le_of_ble_eq_true rfl, Nat.le_of_ble_eq_true rfl, Nat.le_of_ble_eq_true rfl⟩ (Nat.le_of_ble_eq_true rfl) rfl rfl rfl ⟨Nat.zero_le _, Nat.zero_le _⟩ (t_X9_speak hx367) ?_
                  refine mx_p_gt ?_
                  cases hq; exact mx_Ev.weak (mx_le.drop _ (mx_le.drop _ (mx_le.same _ (mx_le.same _ (mx_le.drop _ (mx_le.nil)))))) HJ
          clear hK
          replace hq := hE
          by_cases hc330 : x329 ≤ 0
          · rw [if_pos hc330] at hq
            refine mx_e_zt (decide_eq_true hc330) ?_
            refine mx_p_bp ?_
            refine mx_p_np ?_
            cases hq; exact mx_Ev.weak (mx_le.same _ (mx_le.same _ (mx_le.drop _ (mx_le.drop _ (mx_le.same _ (mx_le.nil)))))) HJ
          · rw [if_neg hc330] at hq
            refine mx_e_zf (fun z => hc330 (of_decide_eq_true z)) ?_
            refine mx_p_iln rfl ?_
            refine mx_p_aln rfl ?_
            obtain ⟨x331, hx331, hq⟩ := mx_bS hq
            refine mx_e_gi hx331 (by decide) ?_
            by_cases hc332 : (x331 : Int32) = 0
            · rw [if_pos hc332] at hq; cases hq
            rw [if_neg hc332] at hq
            refine mx_e_rm hc332 ?_
            refine mx_p_gt ?_
            cases hq; exact mx_Ev.weak (mx_le.same _ (mx_le.same _ (mx_le.drop _ (mx_le.drop _ (mx_le.same _ (mx_le.nil)))))) HJ
        · rw [if_neg hc328] at hq
          refine mx_e_zf (fun z => hc328 (of_decide_eq_true z)) ?_
          refine mx_p_aln rfl ?_
          obtain ⟨x370, hx370, hq⟩ := mx_bS hq
          refine mx_e_gr hx370 rfl ?_
          refine mx_p_aln rfl ?_
          have ho372 : x370 < x280.2.1 ∧ (mx_lay x370).1 = 12 := by
            by_cases hh : x370 < x280.2.1 ∧ (mx_lay x370).1 = 12
            · exact hh
            · rw [if_neg hh] at hq; cases hq
          rw [if_pos ho372] at hq
          obtain ⟨x371, hx371, hq⟩ := mx_bS hq
          refine mx_e_cv mx_t_X9_decree ho372 rfl rfl rfl ⟨Nat.le_of_ble_eq_true rfl, Nat.le_of_ble_eq_true rfl, Nat.le_of_ble_eq_true rfl⟩ (Nat.le_of_ble_eq_true rfl) rfl rfl rfl ⟨Nat.zero_le _, Nat.zero_le _⟩ (t_X9_decree hx371) ?_
          refine mx_p_pop rfl ?_
          cases hq; exact mx_p_rv
    · rw [if_neg hc282] at hq
      refine mx_e_zf (fun z => hc282 (of_decide_eq_true z)) ?_
      cases hq; exact mx_p_rv
set_option maxRecDepth 20000 in
set_option maxHeartbeats 1000000 in
theorem e_f_X1_outcome_L11 (l0 : Nat) (l1 : Nat) (l3 : Int32) (l4 : Int32)   : ∀ (n : Nat) (s5 : Int32) (hh : mx_Hp) res, mx_fix (f_X1_outcome_L11 l0 l1 l3 l4 ) n (s5, hh) = some res → mx_Ev mx_k_X1_outcome mx_noS (mx_b_X1_outcome 11, [some (.ref l0), some (.ref l1), none, some (.int l3), some (.int l4), some (.int s5)], [], hh, 0, 0) (some (.ref res.1), res.2) := by
  intro n
  induction n with
  | zero => intro s5 hh res hq; cases hq
  | succ n ih =>
    intro s5 hh res hq
    unfold mx_fix at hq
    generalize mx_fix (f_X1_outcome_L11 l0 l1 l3 l4 ) n = S at hq ih
    unfold f_X1_outcome_L11 at hq
    try dsimp only at hq
    refine mx_p_il rfl ?_
    refine mx_p_il rfl ?_
    by_cases hc9 : l4 ≤ s5
    · rw [if_pos hc9] at hq
      refine mx_e_it (decide_eq_true hc9) ?_
      refine mx_p_aln rfl ?_
      obtain ⟨x10, hx10, hq⟩ := mx_bS hq
      refine mx_e_gr hx10 rfl ?_
      cases hq; exact mx_p_ra
    · rw [if_neg hc9] at hq
      refine mx_e_if (fun z => hc9 (of_decide_eq_true z)) ?_
      refine mx_p_aln rfl ?_
      refine mx_p_aln rfl ?_
      refine mx_p_iln rfl ?_
      refine mx_p_il rfl ?_
      obtain ⟨x11, hx11, hq⟩ := mx_bS hq
      refine mx_e_cs mx_t_X1_drawOf rfl rfl rfl ⟨Nat.le_of_ble_eq_true rfl, Nat.le_of_ble_eq_true rfl, Nat.le_of_ble_eq_true rfl⟩ (Nat.le_of_ble_eq_true rfl) rfl rfl ⟨Nat.zero_le _, Nat.zero_le _⟩ (t_X1_drawOf hx11) ?_
      have ho13 : l0 < hh.1 ∧ (mx_lay l0).1 = 4 := by
        by_cases hh : l0 < hh.1 ∧ (mx_lay l0).1 = 4
        · exact hh
        · rw [if_neg hh] at hq; cases hq
      rw [if_pos ho13] at hq
      obtain ⟨x12, hx12, hq⟩ := mx_bS hq
      refine mx_e_cv mx_t_X1_step ho13 rfl rfl rfl ⟨Nat.le_of_ble_eq_true rfl, Nat.le_of_ble_eq_true rfl, Nat.le_of_ble_eq_true rfl⟩ (Nat.le_of_ble_eq_true rfl) rfl rfl rfl ⟨Nat.zero_le _, Nat.zero_le _⟩ (t_X1_step hx12) ?_
      refine mx_p_inc (loc' := [some (.ref l0), some (.ref l1), none, some (.int l3), some (.int l4), some (.int (s5 + 1))]) rfl rfl ?_
      refine mx_p_gt ?_
      have HB := ih (s5 + 1) x12 _ hq
      exact mx_Ev.weak (mx_le.same _ (mx_le.same _ (mx_le.same _ (mx_le.same _ (mx_le.same _ (mx_le.same _ (mx_le.nil))))))) HB
set_option maxRecDepth 20000 in
set_option maxHeartbeats 1000000 in
theorem t_X1_outcome {a0 : Nat} {a1 : Nat} {a2 : Nat} {a3 : Int32} {a4 : Int32} {h : mx_Hp} {res} (hq : f_X1_outcome a0 a1 a2 a3 a4 h = some res) : mx_Ms mx_k_X1_outcome [.ref a0, .ref a1, .ref a2, .int a3, .int a4] h (some (.ref res.1), res.2) := by
  unfold f_X1_outcome at hq
  show mx_Ev mx_k_X1_outcome mx_noS (mx_b_X1_outcome 0, [some (.ref a0), some (.ref a1), some (.ref a2), some (.int a3), some (.int a4), none], [], h, 0, 0) _
  refine mx_p_aln rfl ?_
  obtain ⟨x14, hx14, hq⟩ := mx_bS hq
  refine mx_e_gr hx14 rfl ?_
  refine mx_p_aln rfl ?_
  have ho16 : x14 < h.1 ∧ (mx_lay x14).1 = 12 := by
    by_cases hh : x14 < h.1 ∧ (mx_lay x14).1 = 12
    · exact hh
    · rw [if_neg hh] at hq; cases hq
  rw [if_pos ho16] at hq
  obtain ⟨x15, hx15, hq⟩ := mx_bS hq
  refine mx_e_cv mx_t_X9_copyFrom ho16 rfl rfl rfl ⟨Nat.le_of_ble_eq_true rfl, Nat.le_of_ble_eq_true rfl, Nat.le_of_ble_eq_true rfl⟩ (Nat.le_of_ble_eq_true rfl) rfl rfl rfl ⟨Nat.zero_le _, Nat.zero_le _⟩ (t_X9_copyFrom hx15) ?_
  refine mx_p_ic ?_
  refine mx_p_is (loc' := [some (.ref a0), some (.ref a1), some (.ref a2), some (.int a3), some (.int a4), some (.int 0)]) rfl ?_
  refine mx_p_np ?_
  refine mx_Ev.weak (mx_le.same _ (mx_le.same _ (mx_le.drop _ (mx_le.same _ (mx_le.same _ (mx_le.same _ (mx_le.nil))))))) (e_f_X1_outcome_L11 _ _ _ _  _ _ _ _ hq)
set_option maxRecDepth 20000 in
set_option maxHeartbeats 1000000 in
theorem e_f_X2_couldBehind_L13 (l1 : Nat) (l2 : Int32) (h : mx_Hp) (k51 : Int32 × Int32 × Int32 → Option (Int32)) (Hk51 : ∀ (s3 : Int32) (s4 : Int32) (s5 : Int32) res, k51 (s3, s4, s5) = some res → mx_Ev mx_k_X2_couldBehind mx_noS (mx_b_X2_couldBehind 51, [none, some (.ref l1), none, none, some (.int s4), none, none], [], h, 0, 0) (some (.int res), h)) : ∀ (n : Nat) (s3 : Int32) (s4 : Int32) (s5 : Int32) res, mx_fix (f_X2_couldBehind_L13 l1 l2 h k51) n (s3, s4, s5) = some res → mx_Ev mx_k_X2_couldBehind mx_noS (mx_b_X2_couldBehind 13, [none, some (.ref l1), some (.int l2), some (.int s3), some (.int s4), some (.int s5), none], [], h, 0, 0) (some (.int res), h) := by
  intro n
  induction n with
  | zero => intro s3 s4 s5 res hq; cases hq
  | succ n ih =>
    intro s3 s4 s5 res hq
    unfold mx_fix at hq
    generalize mx_fix (f_X2_couldBehind_L13 l1 l2 h k51) n = S at hq ih
    unfold f_X2_couldBehind_L13 at hq
    try dsimp only at hq
    refine mx_p_il rfl ?_
    refine mx_p_aln rfl ?_
    obtain ⟨x7, hx7, hq⟩ := mx_bS hq
    refine mx_e_gi hx7 (by decide) ?_
    by_cases hc8 : x7 ≤ s5
    · rw [if_pos hc8] at hq
      refine mx_e_it (decide_eq_true hc8) ?_
      have HB := Hk51 s3 s4 s5 _ hq
      exact mx_Ev.weak (mx_le.same _ (mx_le.same _ (mx_le.drop _ (mx_le.drop _ (mx_le.same _ (mx_le.drop _ (mx_le.same _ (mx_le.nil)))))))) HB
    · rw [if_neg hc8] at hq
      refine mx_e_if (fun z => hc8 (of_decide_eq_true z)) ?_
      refine mx_p_iln rfl ?_
      by_cases hc9 : s3 = 0
      · rw [if_pos hc9] at hq
        refine mx_e_zt (decide_eq_true hc9) ?_
        have HB := Hk51 s3 s4 s5 _ hq
        exact mx_Ev.weak (mx_le.same _ (mx_le.same _ (mx_le.drop _ (mx_le.drop _ (mx_le.same _ (mx_le.drop _ (mx_le.same _ (mx_le.nil)))))))) HB
      · rw [if_neg hc9] at hq
        refine mx_e_zf (fun z => hc9 (of_decide_eq_true z)) ?_
        refine mx_p_aln rfl ?_
        refine mx_p_iln rfl ?_
        have ho11 : l1 < h.1 ∧ (mx_lay l1).1 = 3 := by
          by_cases hh : l1 < h.1 ∧ (mx_lay l1).1 = 3
          · exact hh
          · rw [if_neg hh] at hq; cases hq
        rw [if_pos ho11] at hq
        obtain ⟨x10, hx10, hq⟩ := mx_bS hq
        refine mx_e_cv mx_t_X0_aheadOf ho11 rfl rfl rfl ⟨Nat.le_of_ble_eq_true rfl, Nat.le_of_ble_eq_true rfl, Nat.le_of_ble_eq_true rfl⟩ (Nat.le_of_ble_eq_true rfl) rfl rfl rfl ⟨Nat.zero_le _, Nat.zero_le _⟩ (t_X0_aheadOf hx10) ?_
        refine mx_p_is (loc' := [none, some (.ref l1), some (.int l2), some (.int s3), some (.int s4), some (.int s5), some (.int x10)]) rfl ?_
        refine mx_p_il rfl ?_
        refine mx_p_il rfl ?_
        refine mx_p_ior ?_
        refine mx_p_is (loc' := [none, some (.ref l1), some (.int l2), some (.int s3), some (.int (s4 ||| x10)), some (.int s5), some (.int x10)]) rfl ?_
        refine mx_p_il rfl ?_
        refine mx_p_iln rfl ?_
        refine mx_p_iand ?_
        refine mx_p_isn (loc' := [none, some (.ref l1), some (.int l2), some (.int (x10 &&& l2)), some (.int (s4 ||| x10)), some (.int s5), some (.int x10)]) rfl ?_
        refine mx_p_inc (loc' := [none, some (.ref l1), some (.int l2), some (.int (x10 &&& l2)), some (.int (s4 ||| x10)), some (.int (s5 + 1)), some (.int x10)]) rfl rfl ?_
        refine mx_p_gt ?_
        have HB := ih (x10 &&& l2) (s4 ||| x10) (s5 + 1) _ hq
        exact mx_Ev.weak (mx_le.same _ (mx_le.same _ (mx_le.same _ (mx_le.same _ (mx_le.same _ (mx_le.same _ (mx_le.drop _ (mx_le.nil)))))))) HB
set_option maxRecDepth 20000 in
set_option maxHeartbeats 1000000 in
theorem t_X2_couldBehind {a0 : Nat} {a1 : Nat} {a2 : Int32} {h : mx_Hp} {res} (hq : f_X2_couldBehind a0 a1 a2 h = some res) : mx_Ms mx_k_X2_couldBehind [.ref a0, .ref a1, .int a2] h (some (.int res), h) := by
  unfold f_X2_couldBehind at hq
  show mx_Ev mx_k_X2_couldBehind mx_noS (mx_b_X2_couldBehind 0, [some (.ref a0), some (.ref a1), some (.int a2), none, none, none, none], [], h, 0, 0) _
  refine mx_p_aln rfl ?_
  obtain ⟨x14, hx14, hq⟩ := mx_bS hq
  refine mx_e_gi hx14 (by decide) ?_
  refine mx_p_iln rfl ?_
  refine mx_p_iand ?_
  refine mx_p_isn (loc' := [some (.ref a0), some (.ref a1), some (.int a2), some (.int (x14 &&& a2)), none, none, none]) rfl ?_
  refine mx_p_ic ?_
  refine mx_p_is (loc' := [some (.ref a0), some (.ref a1), some (.int a2), some (.int (x14 &&& a2)), some (.int 0), none, none]) rfl ?_
  refine mx_p_ic ?_
  refine mx_p_is (loc' := [some (.ref a0), some (.ref a1), some (.int a2), some (.int (x14 &&& a2)), some (.int 0), some (.int 0), none]) rfl ?_
  refine mx_p_np ?_
  refine mx_Ev.weak (mx_le.drop _ (mx_le.same _ (mx_le.same _ (mx_le.same _ (mx_le.same _ (mx_le.same _ (mx_le.same _ (mx_le.nil)))))))) (e_f_X2_couldBehind_L13 _ _ _ _ ?_ _ _ _ _ _ hq)
  · intro c15 c16 c17 res hq
    try dsimp only at hq
    refine mx_p_il rfl ?_
    refine mx_p_aln rfl ?_
    obtain ⟨x18, hx18, hq⟩ := mx_bS hq
    refine mx_e_gi hx18 (by decide) ?_
    refine mx_p_ic ?_
    refine mx_p_ixor ?_
    refine mx_p_iand ?_
    cases hq; exact mx_e_ri rfl
set_option maxRecDepth 20000 in
set_option maxHeartbeats 1000000 in
theorem t_X3_clear {a0 : Nat} {h : mx_Hp} {res} (hq : f_X3_clear a0 h = some res) : mx_Ms mx_k_X3_clear [.ref a0] h (none, res) := by
  unfold f_X3_clear at hq
  show mx_Ev mx_k_X3_clear mx_noS (mx_b_X3_clear 0, [some (.ref a0)], [], h, 0, 0) _
  refine mx_p_aln rfl ?_
  refine mx_p_ic ?_
  obtain ⟨h4, hh4, hq⟩ := mx_bS hq
  refine mx_e_pi hh4 ?_
  refine mx_p_aln rfl ?_
  refine mx_p_ic ?_
  obtain ⟨h5, hh5, hq⟩ := mx_bS hq
  refine mx_e_pi hh5 ?_
  refine mx_p_aln rfl ?_
  refine mx_p_ic ?_
  obtain ⟨h6, hh6, hq⟩ := mx_bS hq
  refine mx_e_pi hh6 ?_
  cases hq; exact mx_p_rv
set_option maxRecDepth 20000 in
set_option maxHeartbeats 1000000 in
theorem t_X3_startAnew {a0 : Nat} {h : mx_Hp} {res} (hq : f_X3_startAnew a0 h = some res) : mx_Ms mx_k_X3_startAnew [.ref a0] h (none, res) := by
  unfold f_X3_startAnew at hq
  show mx_Ev mx_k_X3_startAnew mx_noS (mx_b_X3_startAnew 0, [some (.ref a0)], [], h, 0, 0) _
  refine mx_p_aln rfl ?_
  refine mx_p_ic ?_
  obtain ⟨h4, hh4, hq⟩ := mx_bS hq
  refine mx_e_pi hh4 ?_
  refine mx_p_aln rfl ?_
  have ho6 : a0 < h4.1 ∧ (mx_lay a0).1 = 6 := by
    by_cases hh : a0 < h4.1 ∧ (mx_lay a0).1 = 6
    · exact hh
    · rw [if_neg hh] at hq; cases hq
  rw [if_pos ho6] at hq
  obtain ⟨x5, hx5, hq⟩ := mx_bS hq
  refine mx_e_cv mx_t_X3_clear ho6 rfl rfl rfl ⟨Nat.le_of_ble_eq_true rfl, Nat.le_of_ble_eq_true rfl, Nat.le_of_ble_eq_true rfl⟩ (Nat.le_of_ble_eq_true rfl) rfl rfl rfl ⟨Nat.zero_le _, Nat.zero_le _⟩ (t_X3_clear hx5) ?_
  cases hq; exact mx_p_rv
set_option maxRecDepth 20000 in
set_option maxHeartbeats 1000000 in
theorem t_X3_note {a0 : Nat} {a1 : Int32} {a2 : Int32} {h : mx_Hp} {res} (hq : f_X3_note a0 a1 a2 h = some res) : mx_Ms mx_k_X3_note [.ref a0, .int a1, .int a2] h (some (.int res.1), res.2) := by
  unfold f_X3_note at hq
  show mx_Ev mx_k_X3_note mx_noS (mx_b_X3_note 0, [some (.ref a0), some (.int a1), some (.int a2)], [], h, 0, 0) _
  refine mx_p_aln rfl ?_
  obtain ⟨x15, hx15, hq⟩ := mx_bS hq
  refine mx_e_gi hx15 (by decide) ?_
  refine mx_p_bp ?_
  by_cases hc16 : x15 < 8
  · rw [if_pos hc16] at hq
    refine mx_e_it (decide_eq_true hc16) ?_
    refine mx_p_aln rfl ?_
    refine mx_p_dup rfl ?_
    obtain ⟨x17, hx17, hq⟩ := mx_bS hq
    refine mx_e_gi hx17 (by decide) ?_
    refine mx_p_iln rfl ?_
    obtain ⟨v20, hE, hK⟩ := mx_bS hq
    have HJ : mx_Ev mx_k_X3_note mx_noS (mx_b_X3_note 28, [some (.ref a0), some (.int a1), some (.int a2)], [.int v20, .int x17, .ref a0], h, 0, 0) (some (.int res.1), res.2) := by
      replace hq := hK
      refine mx_p_ior ?_
      obtain ⟨h21, hh21, hq⟩ := mx_bS hq
      refine mx_e_pi hh21 ?_
      refine mx_p_aln rfl ?_
      refine mx_p_dup rfl ?_
      obtain ⟨x22, hx22, hq⟩ := mx_bS hq
      refine mx_e_gi hx22 (by decide) ?_
      refine mx_p_iln rfl ?_
      obtain ⟨v25, hE, hK⟩ := mx_bS hq
      have HJ : mx_Ev mx_k_X3_note mx_noS (mx_b_X3_note 49, [some (.ref a0), none, none], [.int v25, .int x22, .ref a0], h21, 0, 0) (some (.int res.1), res.2) := by
        replace hq := hK
        refine mx_p_ior ?_
        obtain ⟨h26, hh26, hq⟩ := mx_bS hq
        refine mx_e_pi hh26 ?_
        refine mx_p_aln rfl ?_
        refine mx_p_dup rfl ?_
        obtain ⟨x27, hx27, hq⟩ := mx_bS hq
        refine mx_e_gi hx27 (by decide) ?_
        refine mx_p_ic ?_
        refine mx_p_iadd ?_
        obtain ⟨h28, hh28, hq⟩ := mx_bS hq
        refine mx_e_pi hh28 ?_
        refine mx_p_ic ?_
        cases hq; exact mx_e_rb rfl (by decide)
      clear hK
      replace hq := hE
      by_cases hc23 : a2 = 0
      · rw [if_pos hc23] at hq
        refine mx_e_zt (decide_eq_true hc23) ?_
        refine mx_p_iln rfl ?_
        obtain ⟨x24, hx24, hq⟩ := mx_bS hq
        refine mx_e_cs mx_t_X11_bit rfl rfl rfl ⟨Nat.le_of_ble_eq_true rfl, Nat.le_of_ble_eq_true rfl, Nat.le_of_ble_eq_true rfl⟩ (Nat.le_of_ble_eq_true rfl) rfl rfl ⟨Nat.zero_le _, Nat.zero_le _⟩ (t_X11_bit hx24) ?_
        refine mx_p_np ?_
        cases hq; exact mx_Ev.weak (mx_le.same _ (mx_le.drop _ (mx_le.drop _ (mx_le.nil)))) HJ
      · rw [if_neg hc23] at hq
        refine mx_e_zf (fun z => hc23 (of_decide_eq_true z)) ?_
        refine mx_p_ic ?_
        refine mx_p_gt ?_
        cases hq; exact mx_Ev.weak (mx_le.same _ (mx_le.drop _ (mx_le.drop _ (mx_le.nil)))) HJ
    clear hK
    replace hq := hE
    by_cases hc18 : a2 = 0
    · rw [if_pos hc18] at hq
      refine mx_e_zt (decide_eq_true hc18) ?_
      refine mx_p_ic ?_
      refine mx_p_np ?_
      cases hq; exact mx_Ev.weak (mx_le.same _ (mx_le.same _ (mx_le.same _ (mx_le.nil)))) HJ
    · rw [if_neg hc18] at hq
      refine mx_e_zf (fun z => hc18 (of_decide_eq_true z)) ?_
      refine mx_p_iln rfl ?_
      obtain ⟨x19, hx19, hq⟩ := mx_bS hq
      refine mx_e_cs mx_t_X11_bit rfl rfl rfl ⟨Nat.le_of_ble_eq_true rfl, Nat.le_of_ble_eq_true rfl, Nat.le_of_ble_eq_true rfl⟩ (Nat.le_of_ble_eq_true rfl) rfl rfl ⟨Nat.zero_le _, Nat.zero_le _⟩ (t_X11_bit hx19) ?_
      refine mx_p_gt ?_
      cases hq; exact mx_Ev.weak (mx_le.same _ (mx_le.same _ (mx_le.same _ (mx_le.nil)))) HJ
  · rw [if_neg hc16] at hq
    refine mx_e_if (fun z => hc16 (of_decide_eq_true z)) ?_
    refine mx_p_ic ?_
    cases hq; exact mx_e_rb rfl (by decide)
set_option maxRecDepth 20000 in
set_option maxHeartbeats 1000000 in
theorem e_f_X3_tableOnce_L10 (l0 : Nat) (l1 : Nat) (l2 : Nat)   : ∀ (n : Nat) (s3 : Int32) (hh : mx_Hp) res, mx_fix (f_X3_tableOnce_L10 l0 l1 l2 ) n (s3, hh) = some res → mx_Ev mx_k_X3_tableOnce mx_noS (mx_b_X3_tableOnce 10, [some (.ref l0), some (.ref l1), some (.ref l2), some (.int s3)], [], hh, 0, 0) (none, res) := by
  intro n
  induction n with
  | zero => intro s3 hh res hq; cases hq
  | succ n ih =>
    intro s3 hh res hq
    unfold mx_fix at hq
    generalize mx_fix (f_X3_tableOnce_L10 l0 l1 l2 ) n = S at hq ih
    unfold f_X3_tableOnce_L10 at hq
    try dsimp only at hq
    refine mx_p_iln rfl ?_
    refine mx_p_aln rfl ?_
    have ho14 : l1 < hh.1 ∧ (mx_lay l1).1 = 3 := by
      by_cases hh : l1 < hh.1 ∧ (mx_lay l1).1 = 3
      · exact hh
      · rw [if_neg hh] at hq; cases hq
    rw [if_pos ho14] at hq
    obtain ⟨x13, hx13, hq⟩ := mx_bS hq
    refine mx_e_cv mx_t_X0_allWords ho14 rfl rfl rfl ⟨Nat.le_of_ble_eq_true rfl, Nat.le_of_ble_eq_true rfl, Nat.le_of_ble_eq_true rfl⟩ (Nat.le_of_ble_eq_true rfl) rfl rfl rfl ⟨Nat.zero_le _, Nat.zero_le _⟩ (t_X0_allWords hx13) ?_
    by_cases hc15 : x13 < s3
    · rw [if_pos hc15] at hq
      refine mx_e_it (decide_eq_true hc15) ?_
      refine mx_p_aln rfl ?_
      refine mx_p_ic ?_
      obtain ⟨h16, hh16, hq⟩ := mx_bS hq
      refine mx_e_pi hh16 ?_
      cases hq; exact mx_p_rv
    · rw [if_neg hc15] at hq
      refine mx_e_if (fun z => hc15 (of_decide_eq_true z)) ?_
      refine mx_p_iln rfl ?_
      refine mx_p_sp ?_
      by_cases hc17 : 1024 ≤ s3
      · rw [if_pos hc17] at hq
        refine mx_e_it (decide_eq_true hc17) ?_
        refine mx_p_aln rfl ?_
        refine mx_p_ic ?_
        obtain ⟨h18, hh18, hq⟩ := mx_bS hq
        refine mx_e_pi hh18 ?_
        cases hq; exact mx_p_rv
      · rw [if_neg hc17] at hq
        refine mx_e_if (fun z => hc17 (of_decide_eq_true z)) ?_
        refine mx_p_aln rfl ?_
        obtain ⟨x19, hx19, hq⟩ := mx_bS hq
        refine mx_e_gr hx19 rfl ?_
        refine mx_p_iln rfl ?_
        refine mx_p_aln rfl ?_
        refine mx_p_aln rfl ?_
        refine mx_p_iln rfl ?_
        have ho21 : l2 < hh.1 ∧ (mx_lay l2).1 = 5 := by
          by_cases hh : l2 < hh.1 ∧ (mx_lay l2).1 = 5
          · exact hh
          · rw [if_neg hh] at hq; cases hq
        rw [if_pos ho21] at hq
        obtain ⟨x20, hx20, hq⟩ := mx_bS hq
        refine mx_e_cv mx_t_X2_couldBehind ho21 rfl rfl rfl ⟨Nat.le_of_ble_eq_true rfl, Nat.le_of_ble_eq_true rfl, Nat.le_of_ble_eq_true rfl⟩ (Nat.le_of_ble_eq_true rfl) rfl rfl rfl ⟨Nat.zero_le _, Nat.zero_le _⟩ (t_X2_couldBehind hx20) ?_
        obtain ⟨h22, hh22, hq⟩ := mx_bS hq
        refine mx_e_as hh22 ?_
        refine mx_p_inc (loc' := [some (.ref l0), some (.ref l1), some (.ref l2), some (.int (s3 + 1))]) rfl rfl ?_
        refine mx_p_gt ?_
        have HB := ih (s3 + 1) h22 _ hq
        exact mx_Ev.weak (mx_le.same _ (mx_le.same _ (mx_le.same _ (mx_le.same _ (mx_le.nil))))) HB
set_option maxRecDepth 20000 in
set_option maxHeartbeats 1000000 in
theorem t_X3_tableOnce {a0 : Nat} {a1 : Nat} {a2 : Nat} {h : mx_Hp} {res} (hq : f_X3_tableOnce a0 a1 a2 h = some res) : mx_Ms mx_k_X3_tableOnce [.ref a0, .ref a1, .ref a2] h (none, res) := by
  unfold f_X3_tableOnce at hq
  show mx_Ev mx_k_X3_tableOnce mx_noS (mx_b_X3_tableOnce 0, [some (.ref a0), some (.ref a1), some (.ref a2), none], [], h, 0, 0) _
  refine mx_p_aln rfl ?_
  obtain ⟨x23, hx23, hq⟩ := mx_bS hq
  refine mx_e_gi hx23 (by decide) ?_
  by_cases hc24 : x23 = 0
  · rw [if_pos hc24] at hq
    refine mx_e_zt (decide_eq_true hc24) ?_
    refine mx_p_ic ?_
    refine mx_p_isn (loc' := [some (.ref a0), some (.ref a1), some (.ref a2), some (.int 0)]) rfl ?_
    refine mx_p_np ?_
    refine mx_Ev.weak (mx_le.same _ (mx_le.same _ (mx_le.same _ (mx_le.same _ (mx_le.nil))))) (e_f_X3_tableOnce_L10 _ _ _  _ _ _ _ hq)
  · rw [if_neg hc24] at hq
    refine mx_e_zf (fun z => hc24 (of_decide_eq_true z)) ?_
    cases hq; exact mx_p_rv
set_option maxRecDepth 20000 in
set_option maxHeartbeats 1000000 in
theorem e_f_X3_weigh_L26 (l0 : Nat) (l1 : Nat)   : ∀ (n : Nat) (s3 : Int32) (hh : mx_Hp) res, mx_fix (f_X3_weigh_L26 l0 l1 ) n (s3, hh) = some res → mx_Ev mx_k_X3_weigh mx_noS (mx_b_X3_weigh 26, [some (.ref l0), some (.ref l1), none, some (.int s3)], [], hh, 0, 0) (none, res) := by
  intro n
  induction n with
  | zero => intro s3 hh res hq; cases hq
  | succ n ih =>
    intro s3 hh res hq
    unfold mx_fix at hq
    generalize mx_fix (f_X3_weigh_L26 l0 l1 ) n = S at hq ih
    unfold f_X3_weigh_L26 at hq
    try dsimp only at hq
    refine mx_p_iln rfl ?_
    refine mx_p_aln rfl ?_
    have ho29 : l1 < hh.1 ∧ (mx_lay l1).1 = 3 := by
      by_cases hh : l1 < hh.1 ∧ (mx_lay l1).1 = 3
      · exact hh
      · rw [if_neg hh] at hq; cases hq
    rw [if_pos ho29] at hq
    obtain ⟨x28, hx28, hq⟩ := mx_bS hq
    refine mx_e_cv mx_t_X0_allWords ho29 rfl rfl rfl ⟨Nat.le_of_ble_eq_true rfl, Nat.le_of_ble_eq_true rfl, Nat.le_of_ble_eq_true rfl⟩ (Nat.le_of_ble_eq_true rfl) rfl rfl rfl ⟨Nat.zero_le _, Nat.zero_le _⟩ (t_X0_allWords hx28) ?_
    by_cases hc30 : x28 < s3
    · rw [if_pos hc30] at hq
      refine mx_e_it (decide_eq_true hc30) ?_
      cases hq; exact mx_p_rv
    · rw [if_neg hc30] at hq
      refine mx_e_if (fun z => hc30 (of_decide_eq_true z)) ?_
      refine mx_p_iln rfl ?_
      refine mx_p_sp ?_
      by_cases hc31 : 1024 ≤ s3
      · rw [if_pos hc31] at hq
        refine mx_e_it (decide_eq_true hc31) ?_
        cases hq; exact mx_p_rv
      · rw [if_neg hc31] at hq
        refine mx_e_if (fun z => hc31 (of_decide_eq_true z)) ?_
        refine mx_p_aln rfl ?_
        obtain ⟨x32, hx32, hq⟩ := mx_bS hq
        refine mx_e_gr hx32 rfl ?_
        refine mx_p_iln rfl ?_
        obtain ⟨x33, hx33, hq⟩ := mx_bS hq
        refine mx_e_al hx33 ?_
        refine mx_p_aln rfl ?_
        obtain ⟨x34, hx34, hq⟩ := mx_bS hq
        refine mx_e_gi hx34 (by decide) ?_
        refine mx_p_aln rfl ?_
        obtain ⟨x35, hx35, hq⟩ := mx_bS hq
        refine mx_e_gi hx35 (by decide) ?_
        refine mx_p_ior ?_
        refine mx_p_iand ?_
        refine mx_p_aln rfl ?_
        obtain ⟨x36, hx36, hq⟩ := mx_bS hq
        refine mx_e_gi hx36 (by decide) ?_
        obtain ⟨v47, hE, hK⟩ := mx_bS hq
        have HJ : mx_Ev mx_k_X3_weigh mx_noS (mx_b_X3_weigh 106, [some (.ref l0), some (.ref l1), none, some (.int s3)], [], v47, 0, 0) (none, res) := by
          replace hq := hK
          refine mx_p_inc (loc' := [some (.ref l0), some (.ref l1), none, some (.int (s3 + 1))]) rfl rfl ?_
          refine mx_p_gt ?_
          have HB := ih (s3 + 1) v47 _ hq
          exact mx_Ev.weak (mx_le.same _ (mx_le.same _ (mx_le.same _ (mx_le.same _ (mx_le.nil))))) HB
        clear hK
        replace hq := hE
        by_cases hc37 : ¬ (x33 &&& (x34 ||| x35)) = x36
        · rw [if_pos hc37] at hq
          refine mx_e_it (decide_eq_true hc37) ?_
          cases hq; exact mx_Ev.weak (mx_le.same _ (mx_le.same _ (mx_le.same _ (mx_le.same _ (mx_le.nil))))) HJ
        · rw [if_neg hc37] at hq
          refine mx_e_if (fun z => hc37 (of_decide_eq_true z)) ?_
          refine mx_p_aln rfl ?_
          obtain ⟨x38, hx38, hq⟩ := mx_bS hq
          refine mx_e_gi hx38 (by decide) ?_
          refine mx_p_aln rfl ?_
          obtain ⟨x39, hx39, hq⟩ := mx_bS hq
          refine mx_e_gi hx39 (by decide) ?_
          refine mx_p_iand ?_
          by_cases hc40 : ¬ (x38 &&& x39) = 0
          · rw [if_pos hc40] at hq
            refine mx_e_zt (decide_eq_true hc40) ?_
            cases hq; exact mx_Ev.weak (mx_le.same _ (mx_le.same _ (mx_le.same _ (mx_le.same _ (mx_le.nil))))) HJ
          · rw [if_neg hc40] at hq
            refine mx_e_zf (fun z => hc40 (of_decide_eq_true z)) ?_
            refine mx_p_aln rfl ?_
            refine mx_p_dup rfl ?_
            obtain ⟨x41, hx41, hq⟩ := mx_bS hq
            refine mx_e_gi hx41 (by decide) ?_
            refine mx_p_ic ?_
            refine mx_p_iadd ?_
            obtain ⟨h42, hh42, hq⟩ := mx_bS hq
            refine mx_e_pi hh42 ?_
            refine mx_p_aln rfl ?_
            refine mx_p_dup rfl ?_
            obtain ⟨x43, hx43, hq⟩ := mx_bS hq
            refine mx_e_gi hx43 (by decide) ?_
            refine mx_p_iln rfl ?_
            refine mx_p_iand ?_
            obtain ⟨h44, hh44, hq⟩ := mx_bS hq
            refine mx_e_pi hh44 ?_
            refine mx_p_aln rfl ?_
            refine mx_p_dup rfl ?_
            obtain ⟨x45, hx45, hq⟩ := mx_bS hq
            refine mx_e_gi hx45 (by decide) ?_
            refine mx_p_iln rfl ?_
            refine mx_p_ior ?_
            obtain ⟨h46, hh46, hq⟩ := mx_bS hq
            refine mx_e_pi hh46 ?_
            refine mx_p_np ?_
            cases hq; exact mx_Ev.weak (mx_le.same _ (mx_le.same _ (mx_le.same _ (mx_le.same _ (mx_le.nil))))) HJ
set_option maxRecDepth 20000 in
set_option maxHeartbeats 1000000 in
theorem t_X3_weigh {a0 : Nat} {a1 : Nat} {a2 : Nat} {h : mx_Hp} {res} (hq : f_X3_weigh a0 a1 a2 h = some res) : mx_Ms mx_k_X3_weigh [.ref a0, .ref a1, .ref a2] h (none, res) := by
  unfold f_X3_weigh at hq
  show mx_Ev mx_k_X3_weigh mx_noS (mx_b_X3_weigh 0, [some (.ref a0), some (.ref a1), some (.ref a2), none], [], h, 0, 0) _
  refine mx_p_aln rfl ?_
  refine mx_p_aln rfl ?_
  refine mx_p_aln rfl ?_
  have ho49 : a0 < h.1 ∧ (mx_lay a0).1 = 6 := by
    by_cases hh : a0 < h.1 ∧ (mx_lay a0).1 = 6
    · exact hh
    · rw [if_neg hh] at hq; cases hq
  rw [if_pos ho49] at hq
  obtain ⟨x48, hx48, hq⟩ := mx_bS hq
  refine mx_e_cv mx_t_X3_tableOnce ho49 rfl rfl rfl ⟨Nat.le_of_ble_eq_true rfl, Nat.le_of_ble_eq_true rfl, Nat.le_of_ble_eq_true rfl⟩ (Nat.le_of_ble_eq_true rfl) rfl rfl rfl ⟨Nat.zero_le _, Nat.zero_le _⟩ (t_X3_tableOnce hx48) ?_
  refine mx_p_aln rfl ?_
  refine mx_p_ic ?_
  obtain ⟨h50, hh50, hq⟩ := mx_bS hq
  refine mx_e_pi hh50 ?_
  refine mx_p_aln rfl ?_
  refine mx_p_aln rfl ?_
  have ho52 : a1 < h50.1 ∧ (mx_lay a1).1 = 3 := by
    by_cases hh : a1 < h50.1 ∧ (mx_lay a1).1 = 3
    · exact hh
    · rw [if_neg hh] at hq; cases hq
  rw [if_pos ho52] at hq
  obtain ⟨x51, hx51, hq⟩ := mx_bS hq
  refine mx_e_cv mx_t_X0_allWords ho52 rfl rfl rfl ⟨Nat.le_of_ble_eq_true rfl, Nat.le_of_ble_eq_true rfl, Nat.le_of_ble_eq_true rfl⟩ (Nat.le_of_ble_eq_true rfl) rfl rfl rfl ⟨Nat.zero_le _, Nat.zero_le _⟩ (t_X0_allWords hx51) ?_
  obtain ⟨h53, hh53, hq⟩ := mx_bS hq
  refine mx_e_pi hh53 ?_
  refine mx_p_aln rfl ?_
  refine mx_p_ic ?_
  obtain ⟨h54, hh54, hq⟩ := mx_bS hq
  refine mx_e_pi hh54 ?_
  refine mx_p_ic ?_
  refine mx_p_isn (loc' := [some (.ref a0), some (.ref a1), some (.ref a2), some (.int 0)]) rfl ?_
  refine mx_p_np ?_
  refine mx_Ev.weak (mx_le.same _ (mx_le.same _ (mx_le.drop _ (mx_le.same _ (mx_le.nil))))) (e_f_X3_weigh_L26 _ _  _ _ _ _ hq)
set_option maxRecDepth 20000 in
set_option maxHeartbeats 1000000 in
theorem t_X4_startWith {a0 : Nat} {a1 : Int32} {h : mx_Hp} {res} (hq : f_X4_startWith a0 a1 h = some res) : mx_Ms mx_k_X4_startWith [.ref a0, .int a1] h (none, res) := by
  unfold f_X4_startWith at hq
  show mx_Ev mx_k_X4_startWith mx_noS (mx_b_X4_startWith 0, [some (.ref a0), some (.int a1)], [], h, 0, 0) _
  refine mx_p_aln rfl ?_
  refine mx_p_ic ?_
  obtain ⟨h4, hh4, hq⟩ := mx_bS hq
  refine mx_e_pi hh4 ?_
  refine mx_p_aln rfl ?_
  refine mx_p_ic ?_
  obtain ⟨h5, hh5, hq⟩ := mx_bS hq
  refine mx_e_pi hh5 ?_
  refine mx_p_aln rfl ?_
  refine mx_p_iln rfl ?_
  obtain ⟨h6, hh6, hq⟩ := mx_bS hq
  refine mx_e_pi hh6 ?_
  cases hq; exact mx_p_rv
set_option maxRecDepth 20000 in
set_option maxHeartbeats 1000000 in
theorem t_X5_prepare {a0 : Nat} {a1 : Nat} {a2 : Nat} {a3 : Int32} {a4 : Int32} {h : mx_Hp} {res} (hq : f_X5_prepare a0 a1 a2 a3 a4 h = some res) : mx_Ms mx_k_X5_prepare [.ref a0, .ref a1, .ref a2, .int a3, .int a4] h (none, res) := by
  unfold f_X5_prepare at hq
  show mx_Ev mx_k_X5_prepare mx_noS (mx_b_X5_prepare 0, [some (.ref a0), some (.ref a1), some (.ref a2), some (.int a3), some (.int a4)], [], h, 0, 0) _
  refine mx_p_aln rfl ?_
  refine mx_p_iln rfl ?_
  obtain ⟨h6, hh6, hq⟩ := mx_bS hq
  refine mx_e_pi hh6 ?_
  refine mx_p_aln rfl ?_
  refine mx_p_il rfl ?_
  obtain ⟨h7, hh7, hq⟩ := mx_bS hq
  refine mx_e_pi hh7 ?_
  refine mx_p_aln rfl ?_
  refine mx_p_aln rfl ?_
  refine mx_p_aln rfl ?_
  refine mx_p_il rfl ?_
  have ho9 : a2 < h7.1 ∧ (mx_lay a2).1 = 5 := by
    by_cases hh : a2 < h7.1 ∧ (mx_lay a2).1 = 5
    · exact hh
    · rw [if_neg hh] at hq; cases hq
  rw [if_pos ho9] at hq
  obtain ⟨x8, hx8, hq⟩ := mx_bS hq
  refine mx_e_cv mx_t_X2_couldBehind ho9 rfl rfl rfl ⟨Nat.le_of_ble_eq_true rfl, Nat.le_of_ble_eq_true rfl, Nat.le_of_ble_eq_true rfl⟩ (Nat.le_of_ble_eq_true rfl) rfl rfl rfl ⟨Nat.zero_le _, Nat.zero_le _⟩ (t_X2_couldBehind hx8) ?_
  obtain ⟨h10, hh10, hq⟩ := mx_bS hq
  refine mx_e_pi hh10 ?_
  cases hq; exact mx_p_rv
set_option maxRecDepth 20000 in
set_option maxHeartbeats 1000000 in
theorem t_X5_leadingWith {a0 : Nat} {a1 : Int32} {a2 : Int32} {h : mx_Hp} {res} (hq : f_X5_leadingWith a0 a1 a2 h = some res) : mx_Ms mx_k_X5_leadingWith [.ref a0, .int a1, .int a2] h (some (.int res), h) := by
  unfold f_X5_leadingWith at hq
  show mx_Ev mx_k_X5_leadingWith mx_noS (mx_b_X5_leadingWith 0, [some (.ref a0), some (.int a1), some (.int a2)], [], h, 0, 0) _
  refine mx_p_iln rfl ?_
  by_cases hc9 : a1 < 0
  · rw [if_pos hc9] at hq
    refine mx_e_zt (decide_eq_true hc9) ?_
    refine mx_p_ic ?_
    cases hq; exact mx_e_ri rfl
  · rw [if_neg hc9] at hq
    refine mx_e_zf (fun z => hc9 (of_decide_eq_true z)) ?_
    refine mx_p_iln rfl ?_
    refine mx_p_bp ?_
    by_cases hc10 : a1 < 10
    · rw [if_pos hc10] at hq
      refine mx_e_it (decide_eq_true hc10) ?_
      refine mx_p_iln rfl ?_
      obtain ⟨v16, hE, hK⟩ := mx_bS hq
      have HJ : mx_Ev mx_k_X5_leadingWith mx_noS (mx_b_X5_leadingWith 31, [none, none, none], [.int v16], h, 0, 0) (some (.int res), h) := by
        replace hq := hK
        cases hq; exact mx_e_ri rfl
      clear hK
      replace hq := hE
      by_cases hc11 : a2 = 0
      · rw [if_pos hc11] at hq
        refine mx_e_zt (decide_eq_true hc11) ?_
        refine mx_p_aln rfl ?_
        obtain ⟨x12, hx12, hq⟩ := mx_bS hq
        refine mx_e_gr hx12 rfl ?_
        refine mx_p_iln rfl ?_
        obtain ⟨x13, hx13, hq⟩ := mx_bS hq
        refine mx_e_al hx13 ?_
        refine mx_p_np ?_
        cases hq; exact mx_Ev.weak (mx_le.drop _ (mx_le.drop _ (mx_le.drop _ (mx_le.nil)))) HJ
      · rw [if_neg hc11] at hq
        refine mx_e_zf (fun z => hc11 (of_decide_eq_true z)) ?_
        refine mx_p_aln rfl ?_
        obtain ⟨x14, hx14, hq⟩ := mx_bS hq
        refine mx_e_gr hx14 rfl ?_
        refine mx_p_iln rfl ?_
        obtain ⟨x15, hx15, hq⟩ := mx_bS hq
        refine mx_e_al hx15 ?_
        refine mx_p_gt ?_
        cases hq; exact mx_Ev.weak (mx_le.drop _ (mx_le.drop _ (mx_le.drop _ (mx_le.nil)))) HJ
    · rw [if_neg hc10] at hq
      refine mx_e_if (fun z => hc10 (of_decide_eq_true z)) ?_
      refine mx_p_np ?_
      refine mx_p_ic ?_
      cases hq; exact mx_e_ri rfl
set_option maxRecDepth 20000 in
set_option maxHeartbeats 1000000 in
theorem t_X5_firstsWith {a0 : Nat} {a1 : Int32} {h : mx_Hp} {res} (hq : f_X5_firstsWith a0 a1 h = some res) : mx_Ms mx_k_X5_firstsWith [.ref a0, .int a1] h (some (.int res), h) := by
  unfold f_X5_firstsWith at hq
  show mx_Ev mx_k_X5_firstsWith mx_noS (mx_b_X5_firstsWith 0, [some (.ref a0), some (.int a1)], [], h, 0, 0) _
  refine mx_p_aln rfl ?_
  refine mx_p_iln rfl ?_
  refine mx_p_ic ?_
  have ho5 : a0 < h.1 ∧ (mx_lay a0).1 = 8 := by
    by_cases hh : a0 < h.1 ∧ (mx_lay a0).1 = 8
    · exact hh
    · rw [if_neg hh] at hq; cases hq
  rw [if_pos ho5] at hq
  obtain ⟨x4, hx4, hq⟩ := mx_bS hq
  refine mx_e_cv mx_t_X5_leadingWith ho5 rfl rfl rfl ⟨Nat.le_of_ble_eq_true rfl, Nat.le_of_ble_eq_true rfl, Nat.le_of_ble_eq_true rfl⟩ (Nat.le_of_ble_eq_true rfl) rfl rfl rfl ⟨Nat.zero_le _, Nat.zero_le _⟩ (t_X5_leadingWith hx4) ?_
  refine mx_p_aln rfl ?_
  obtain ⟨x6, hx6, hq⟩ := mx_bS hq
  refine mx_e_gi hx6 (by decide) ?_
  refine mx_p_iand ?_
  cases hq; exact mx_e_ri rfl
set_option maxRecDepth 20000 in
set_option maxHeartbeats 1000000 in
theorem t_X5_tableAt {a0 : Nat} {a1 : Int32} {a2 : Int32} {h : mx_Hp} {res} (hq : f_X5_tableAt a0 a1 a2 h = some res) : mx_Ms mx_k_X5_tableAt [.ref a0, .int a1, .int a2] h (some (.int res), h) := by
  unfold f_X5_tableAt at hq
  show mx_Ev mx_k_X5_tableAt mx_noS (mx_b_X5_tableAt 0, [some (.ref a0), some (.int a1), some (.int a2)], [], h, 0, 0) _
  refine mx_p_iln rfl ?_
  obtain ⟨v16, hE, hK⟩ := mx_bS hq
  have HJ : mx_Ev mx_k_X5_tableAt mx_noS (mx_b_X5_tableAt 32, [none, none, none], [.int v16], h, 0, 0) (some (.int res), h) := by
    replace hq := hK
    cases hq; exact mx_e_ri rfl
  clear hK
  replace hq := hE
  by_cases hc9 : a1 < 0
  · rw [if_pos hc9] at hq
    refine mx_e_zt (decide_eq_true hc9) ?_
    refine mx_p_ic ?_
    refine mx_p_np ?_
    cases hq; exact mx_Ev.weak (mx_le.drop _ (mx_le.drop _ (mx_le.drop _ (mx_le.nil)))) HJ
  · rw [if_neg hc9] at hq
    refine mx_e_zf (fun z => hc9 (of_decide_eq_true z)) ?_
    refine mx_p_iln rfl ?_
    refine mx_p_bp ?_
    by_cases hc10 : 10 ≤ a1
    · rw [if_pos hc10] at hq
      refine mx_e_it (decide_eq_true hc10) ?_
      refine mx_p_ic ?_
      refine mx_p_np ?_
      cases hq; exact mx_Ev.weak (mx_le.drop _ (mx_le.drop _ (mx_le.drop _ (mx_le.nil)))) HJ
    · rw [if_neg hc10] at hq
      refine mx_e_if (fun z => hc10 (of_decide_eq_true z)) ?_
      refine mx_p_iln rfl ?_
      by_cases hc11 : a2 < 0
      · rw [if_pos hc11] at hq
        refine mx_e_zt (decide_eq_true hc11) ?_
        refine mx_p_ic ?_
        refine mx_p_np ?_
        cases hq; exact mx_Ev.weak (mx_le.drop _ (mx_le.drop _ (mx_le.drop _ (mx_le.nil)))) HJ
      · rw [if_neg hc11] at hq
        refine mx_e_zf (fun z => hc11 (of_decide_eq_true z)) ?_
        refine mx_p_iln rfl ?_
        refine mx_p_bp ?_
        by_cases hc12 : 10 ≤ a2
        · rw [if_pos hc12] at hq
          refine mx_e_it (decide_eq_true hc12) ?_
          refine mx_p_ic ?_
          refine mx_p_np ?_
          cases hq; exact mx_Ev.weak (mx_le.drop _ (mx_le.drop _ (mx_le.drop _ (mx_le.nil)))) HJ
        · rw [if_neg hc12] at hq
          refine mx_e_if (fun z => hc12 (of_decide_eq_true z)) ?_
          refine mx_p_aln rfl ?_
          obtain ⟨x13, hx13, hq⟩ := mx_bS hq
          refine mx_e_gr hx13 rfl ?_
          refine mx_p_iln rfl ?_
          obtain ⟨x14, hx14, hq⟩ := mx_bS hq
          refine mx_e_rl hx14 ?_
          refine mx_p_iln rfl ?_
          obtain ⟨x15, hx15, hq⟩ := mx_bS hq
          refine mx_e_al hx15 ?_
          refine mx_p_gt ?_
          cases hq; exact mx_Ev.weak (mx_le.drop _ (mx_le.drop _ (mx_le.drop _ (mx_le.nil)))) HJ
set_option maxRecDepth 20000 in
set_option maxHeartbeats 1000000 in
theorem e_f_X5_seekSafe_L27 (l0 : Nat) (l1 : Nat) (l2 : Int32)   : ∀ (n : Nat) (s3 : Int32) (hh : mx_Hp) res, mx_fix (f_X5_seekSafe_L27 l0 l1 l2 ) n (s3, hh) = some res → mx_Ev mx_k_X5_seekSafe mx_noS (mx_b_X5_seekSafe 27, [some (.ref l0), some (.ref l1), some (.int l2), some (.int s3), none], [], hh, 0, 0) (none, res) := by
  intro n
  induction n with
  | zero => intro s3 hh res hq; cases hq
  | succ n ih =>
    intro s3 hh res hq
    unfold mx_fix at hq
    generalize mx_fix (f_X5_seekSafe_L27 l0 l1 l2 ) n = S at hq ih
    unfold f_X5_seekSafe_L27 at hq
    try dsimp only at hq
    refine mx_p_iln rfl ?_
    refine mx_p_bp ?_
    by_cases hc27 : 10 ≤ s3
    · rw [if_pos hc27] at hq
      refine mx_e_it (decide_eq_true hc27) ?_
      cases hq; exact mx_p_rv
    · rw [if_neg hc27] at hq
      refine mx_e_if (fun z => hc27 (of_decide_eq_true z)) ?_
      refine mx_p_aln rfl ?_
      obtain ⟨x28, hx28, hq⟩ := mx_bS hq
      refine mx_e_gr hx28 rfl ?_
      refine mx_p_iln rfl ?_
      refine mx_p_aln rfl ?_
      refine mx_p_aln rfl ?_
      obtain ⟨x29, hx29, hq⟩ := mx_bS hq
      refine mx_e_gr hx29 rfl ?_
      refine mx_p_iln rfl ?_
      refine mx_p_ic ?_
      refine mx_p_isub ?_
      obtain ⟨x30, hx30, hq⟩ := mx_bS hq
      refine mx_e_al hx30 ?_
      have ho32 : l1 < hh.1 ∧ (mx_lay l1).1 = 3 := by
        by_cases hh : l1 < hh.1 ∧ (mx_lay l1).1 = 3
        · exact hh
        · rw [if_neg hh] at hq; cases hq
      rw [if_pos ho32] at hq
      obtain ⟨x31, hx31, hq⟩ := mx_bS hq
      refine mx_e_cv mx_t_X0_aheadOf ho32 rfl rfl rfl ⟨Nat.le_of_ble_eq_true rfl, Nat.le_of_ble_eq_true rfl, Nat.le_of_ble_eq_true rfl⟩ (Nat.le_of_ble_eq_true rfl) rfl rfl rfl ⟨Nat.zero_le _, Nat.zero_le _⟩ (t_X0_aheadOf hx31) ?_
      refine mx_p_aln rfl ?_
      obtain ⟨x33, hx33, hq⟩ := mx_bS hq
      refine mx_e_gi hx33 (by decide) ?_
      refine mx_p_ic ?_
      refine mx_p_ixor ?_
      refine mx_p_iand ?_
      obtain ⟨h34, hh34, hq⟩ := mx_bS hq
      refine mx_e_as hh34 ?_
      refine mx_p_aln rfl ?_
      refine mx_p_aln rfl ?_
      obtain ⟨x35, hx35, hq⟩ := mx_bS hq
      refine mx_e_gr hx35 rfl ?_
      refine mx_p_iln rfl ?_
      refine mx_p_ic ?_
      refine mx_p_isub ?_
      obtain ⟨x36, hx36, hq⟩ := mx_bS hq
      refine mx_e_al hx36 ?_
      have ho38 : l1 < h34.1 ∧ (mx_lay l1).1 = 3 := by
        by_cases hh : l1 < h34.1 ∧ (mx_lay l1).1 = 3
        · exact hh
        · rw [if_neg hh] at hq; cases hq
      rw [if_pos ho38] at hq
      obtain ⟨x37, hx37, hq⟩ := mx_bS hq
      refine mx_e_cv mx_t_X0_aheadOf ho38 rfl rfl rfl ⟨Nat.le_of_ble_eq_true rfl, Nat.le_of_ble_eq_true rfl, Nat.le_of_ble_eq_true rfl⟩ (Nat.le_of_ble_eq_true rfl) rfl rfl rfl ⟨Nat.zero_le _, Nat.zero_le _⟩ (t_X0_aheadOf hx37) ?_
      refine mx_p_aln rfl ?_
      obtain ⟨x39, hx39, hq⟩ := mx_bS hq
      refine mx_e_gi hx39 (by decide) ?_
      refine mx_p_ic ?_
      refine mx_p_ixor ?_
      refine mx_p_iand ?_
      refine mx_p_iln rfl ?_
      obtain ⟨x40, hx40, hq⟩ := mx_bS hq
      refine mx_e_cs mx_t_X11_bit rfl rfl rfl ⟨Nat.le_of_ble_eq_true rfl, Nat.le_of_ble_eq_true rfl, Nat.le_of_ble_eq_true rfl⟩ (Nat.le_of_ble_eq_true rfl) rfl rfl ⟨Nat.zero_le _, Nat.zero_le _⟩ (t_X11_bit hx40) ?_
      refine mx_p_ic ?_
      refine mx_p_ixor ?_
      refine mx_p_iand ?_
      refine mx_p_is (loc' := [some (.ref l0), some (.ref l1), some (.int l2), some (.int s3), some (.int ((x37 &&& (x39 ^^^ (-1))) &&& (x40 ^^^ (-1))))]) rfl ?_
      refine mx_p_aln rfl ?_
      obtain ⟨x41, hx41, hq⟩ := mx_bS hq
      refine mx_e_gr hx41 rfl ?_
      refine mx_p_iln rfl ?_
      refine mx_p_aln rfl ?_
      obtain ⟨x42, hx42, hq⟩ := mx_bS hq
      refine mx_e_gr hx42 rfl ?_
      refine mx_p_iln rfl ?_
      obtain ⟨x43, hx43, hq⟩ := mx_bS hq
      refine mx_e_al hx43 ?_
      refine mx_p_iln rfl ?_
      obtain ⟨x44, hx44, hq⟩ := mx_bS hq
      refine mx_e_cs mx_t_X11_bit rfl rfl rfl ⟨Nat.le_of_ble_eq_true rfl, Nat.le_of_ble_eq_true rfl, Nat.le_of_ble_eq_true rfl⟩ (Nat.le_of_ble_eq_true rfl) rfl rfl ⟨Nat.zero_le _, Nat.zero_le _⟩ (t_X11_bit hx44) ?_
      refine mx_p_iand ?_
      refine mx_p_il rfl ?_
      refine mx_p_ior ?_
      obtain ⟨h45, hh45, hq⟩ := mx_bS hq
      refine mx_e_as hh45 ?_
      refine mx_p_inc (loc' := [some (.ref l0), some (.ref l1), some (.int l2), some (.int (s3 + 1)), some (.int ((x37 &&& (x39 ^^^ (-1))) &&& (x40 ^^^ (-1))))]) rfl rfl ?_
      refine mx_p_gt ?_
      have HB := ih (s3 + 1) h45 _ hq
      exact mx_Ev.weak (mx_le.same _ (mx_le.same _ (mx_le.same _ (mx_le.same _ (mx_le.drop _ (mx_le.nil)))))) HB
set_option maxRecDepth 20000 in
set_option maxHeartbeats 1000000 in
theorem t_X5_seekSafe {a0 : Nat} {a1 : Nat} {a2 : Int32} {h : mx_Hp} {res} (hq : f_X5_seekSafe a0 a1 a2 h = some res) : mx_Ms mx_k_X5_seekSafe [.ref a0, .ref a1, .int a2] h (none, res) := by
  unfold f_X5_seekSafe at hq
  show mx_Ev mx_k_X5_seekSafe mx_noS (mx_b_X5_seekSafe 0, [some (.ref a0), some (.ref a1), some (.int a2), none, none], [], h, 0, 0) _
  refine mx_p_aln rfl ?_
  obtain ⟨x46, hx46, hq⟩ := mx_bS hq
  refine mx_e_gr hx46 rfl ?_
  refine mx_p_ic ?_
  refine mx_p_aln rfl ?_
  obtain ⟨x47, hx47, hq⟩ := mx_bS hq
  refine mx_e_gi hx47 (by decide) ?_
  obtain ⟨h48, hh48, hq⟩ := mx_bS hq
  refine mx_e_as hh48 ?_
  refine mx_p_aln rfl ?_
  obtain ⟨x49, hx49, hq⟩ := mx_bS hq
  refine mx_e_gr hx49 rfl ?_
  refine mx_p_ic ?_
  refine mx_p_aln rfl ?_
  obtain ⟨x50, hx50, hq⟩ := mx_bS hq
  refine mx_e_gi hx50 (by decide) ?_
  refine mx_p_iln rfl ?_
  obtain ⟨x51, hx51, hq⟩ := mx_bS hq
  refine mx_e_cs mx_t_X11_bit rfl rfl rfl ⟨Nat.le_of_ble_eq_true rfl, Nat.le_of_ble_eq_true rfl, Nat.le_of_ble_eq_true rfl⟩ (Nat.le_of_ble_eq_true rfl) rfl rfl ⟨Nat.zero_le _, Nat.zero_le _⟩ (t_X11_bit hx51) ?_
  refine mx_p_iand ?_
  obtain ⟨h52, hh52, hq⟩ := mx_bS hq
  refine mx_e_as hh52 ?_
  refine mx_p_ic ?_
  refine mx_p_isn (loc' := [some (.ref a0), some (.ref a1), some (.int a2), some (.int 1), none]) rfl ?_
  refine mx_p_np ?_
  refine mx_Ev.weak (mx_le.same _ (mx_le.same _ (mx_le.same _ (mx_le.same _ (mx_le.same _ (mx_le.nil)))))) (e_f_X5_seekSafe_L27 _ _ _  _ _ _ _ hq)
set_option maxRecDepth 20000 in
set_option maxHeartbeats 1000000 in
theorem e_f_X7_holds_L2 (l0 : Nat) (l1 : Int32) (h : mx_Hp)   : ∀ (n : Nat) (s2 : Int32) res, mx_fix (f_X7_holds_L2 l0 l1 h ) n s2 = some res → mx_Ev mx_k_X7_holds mx_noS (mx_b_X7_holds 2, [some (.ref l0), some (.int l1), some (.int s2)], [], h, 0, 0) (some (.int res), h) := by
  intro n
  induction n with
  | zero => intro s2 res hq; cases hq
  | succ n ih =>
    intro s2 res hq
    unfold mx_fix at hq
    generalize mx_fix (f_X7_holds_L2 l0 l1 h ) n = S at hq ih
    unfold f_X7_holds_L2 at hq
    try dsimp only at hq
    refine mx_p_iln rfl ?_
    refine mx_p_aln rfl ?_
    obtain ⟨x9, hx9, hq⟩ := mx_bS hq
    refine mx_e_gi hx9 (by decide) ?_
    by_cases hc10 : x9 ≤ s2
    · rw [if_pos hc10] at hq
      refine mx_e_it (decide_eq_true hc10) ?_
      refine mx_p_ic ?_
      cases hq; exact mx_e_rb rfl (by decide)
    · rw [if_neg hc10] at hq
      refine mx_e_if (fun z => hc10 (of_decide_eq_true z)) ?_
      refine mx_p_iln rfl ?_
      refine mx_p_aln rfl ?_
      obtain ⟨x11, hx11, hq⟩ := mx_bS hq
      refine mx_e_gr hx11 rfl ?_
      obtain ⟨x12, hx12, hq⟩ := mx_bS hq
      refine mx_e_ln hx12 ?_
      by_cases hc13 : x12 ≤ s2
      · rw [if_pos hc13] at hq
        refine mx_e_it (decide_eq_true hc13) ?_
        refine mx_p_ic ?_
        cases hq; exact mx_e_rb rfl (by decide)
      · rw [if_neg hc13] at hq
        refine mx_e_if (fun z => hc13 (of_decide_eq_true z)) ?_
        refine mx_p_aln rfl ?_
        obtain ⟨x14, hx14, hq⟩ := mx_bS hq
        refine mx_e_gr hx14 rfl ?_
        refine mx_p_iln rfl ?_
        obtain ⟨x15, hx15, hq⟩ := mx_bS hq
        refine mx_e_al hx15 ?_
        refine mx_p_iln rfl ?_
        by_cases hc16 : ¬ x15 = l1
        · rw [if_pos hc16] at hq
          refine mx_e_it (decide_eq_true hc16) ?_
          refine mx_p_inc (loc' := [some (.ref l0), some (.int l1), some (.int (s2 + 1))]) rfl rfl ?_
          refine mx_p_gt ?_
          have HB := ih (s2 + 1) _ hq
          exact mx_Ev.weak (mx_le.same _ (mx_le.same _ (mx_le.same _ (mx_le.nil)))) HB
        · rw [if_neg hc16] at hq
          refine mx_e_if (fun z => hc16 (of_decide_eq_true z)) ?_
          refine mx_p_ic ?_
          cases hq; exact mx_e_rb rfl (by decide)
set_option maxRecDepth 20000 in
set_option maxHeartbeats 1000000 in
theorem t_X7_holds {a0 : Nat} {a1 : Int32} {h : mx_Hp} {res} (hq : f_X7_holds a0 a1 h = some res) : mx_Ms mx_k_X7_holds [.ref a0, .int a1] h (some (.int res), h) := by
  unfold f_X7_holds at hq
  show mx_Ev mx_k_X7_holds mx_noS (mx_b_X7_holds 0, [some (.ref a0), some (.int a1), none], [], h, 0, 0) _
  refine mx_p_ic ?_
  refine mx_p_isn (loc' := [some (.ref a0), some (.int a1), some (.int 0)]) rfl ?_
  refine mx_p_np ?_
  refine mx_Ev.weak (mx_le.same _ (mx_le.same _ (mx_le.same _ (mx_le.nil)))) (e_f_X7_holds_L2 _ _ _  _ _ _ hq)
set_option maxRecDepth 20000 in
set_option maxHeartbeats 1000000 in
theorem e_f_X5_luresTo_L6 (l0 : Nat) (l1 : Nat) (l2 : Nat) (l3 : Int32)   : ∀ (n : Nat) (s4 : Int32) (s5 : Int32) (hh : mx_Hp) res, mx_fix (f_X5_luresTo_L6 l0 l1 l2 l3 ) n (s4, s5, hh) = some res → mx_Ev mx_k_X5_luresTo mx_noS (mx_b_X5_luresTo 6, [some (.ref l0), some (.ref l1), some (.ref l2), some (.int l3), some (.int s4), some (.int s5)], [], hh, 0, 0) (some (.int res.1), res.2) := by
  intro n
  induction n with
  | zero => intro s4 s5 hh res hq; cases hq
  | succ n ih =>
    intro s4 s5 hh res hq
    unfold mx_fix at hq
    generalize mx_fix (f_X5_luresTo_L6 l0 l1 l2 l3 ) n = S at hq ih
    unfold f_X5_luresTo_L6 at hq
    try dsimp only at hq
    refine mx_p_il rfl ?_
    refine mx_p_aln rfl ?_
    obtain ⟨x16, hx16, hq⟩ := mx_bS hq
    refine mx_e_gi hx16 (by decide) ?_
    by_cases hc17 : x16 ≤ s5
    · rw [if_pos hc17] at hq
      refine mx_e_it (decide_eq_true hc17) ?_
      refine mx_p_il rfl ?_
      cases hq; exact mx_e_ri rfl
    · rw [if_neg hc17] at hq
      refine mx_e_if (fun z => hc17 (of_decide_eq_true z)) ?_
      refine mx_p_aln rfl ?_
      obtain ⟨x18, hx18, hq⟩ := mx_bS hq
      refine mx_e_gi hx18 (by decide) ?_
      refine mx_p_il rfl ?_
      obtain ⟨x19, hx19, hq⟩ := mx_bS hq
      refine mx_e_cs mx_t_X11_bit rfl rfl rfl ⟨Nat.le_of_ble_eq_true rfl, Nat.le_of_ble_eq_true rfl, Nat.le_of_ble_eq_true rfl⟩ (Nat.le_of_ble_eq_true rfl) rfl rfl ⟨Nat.zero_le _, Nat.zero_le _⟩ (t_X11_bit hx19) ?_
      refine mx_p_iand ?_
      obtain ⟨v30, hE, hK⟩ := mx_bS hq
      have HJ : mx_Ev mx_k_X5_luresTo mx_noS (mx_b_X5_luresTo 64, [some (.ref l0), some (.ref l1), some (.ref l2), some (.int l3), some (.int v30.1), some (.int s5)], [], v30.2, 0, 0) (some (.int res.1), res.2) := by
        replace hq := hK
        refine mx_p_inc (loc' := [some (.ref l0), some (.ref l1), some (.ref l2), some (.int l3), some (.int v30.1), some (.int (s5 + 1))]) rfl rfl ?_
        refine mx_p_gt ?_
        have HB := ih v30.1 (s5 + 1) v30.2 _ hq
        exact mx_Ev.weak (mx_le.same _ (mx_le.same _ (mx_le.same _ (mx_le.same _ (mx_le.same _ (mx_le.same _ (mx_le.nil))))))) HB
      clear hK
      replace hq := hE
      by_cases hc20 : (x18 &&& x19) = 0
      · rw [if_pos hc20] at hq
        refine mx_e_zt (decide_eq_true hc20) ?_
        cases hq; exact mx_Ev.weak (mx_le.same _ (mx_le.same _ (mx_le.same _ (mx_le.same _ (mx_le.same _ (mx_le.same _ (mx_le.nil))))))) HJ
      · rw [if_neg hc20] at hq
        refine mx_e_zf (fun z => hc20 (of_decide_eq_true z)) ?_
        refine mx_p_aln rfl ?_
        refine mx_p_aln rfl ?_
        refine mx_p_il rfl ?_
        refine mx_p_aln rfl ?_
        obtain ⟨x21, hx21, hq⟩ := mx_bS hq
        refine mx_e_gi hx21 (by decide) ?_
        have ho23 : l2 < hh.1 ∧ (mx_lay l2).1 = 5 := by
          by_cases hh : l2 < hh.1 ∧ (mx_lay l2).1 = 5
          · exact hh
          · rw [if_neg hh] at hq; cases hq
        rw [if_pos ho23] at hq
        obtain ⟨x22, hx22, hq⟩ := mx_bS hq
        refine mx_e_cv mx_t_X2_find ho23 rfl rfl rfl ⟨Nat.le_of_ble_eq_true rfl, Nat.le_of_ble_eq_true rfl, Nat.le_of_ble_eq_true rfl⟩ (Nat.le_of_ble_eq_true rfl) rfl rfl rfl ⟨Nat.zero_le _, Nat.zero_le _⟩ (t_X2_find hx22) ?_
        refine mx_p_il rfl ?_
        refine mx_p_aln rfl ?_
        obtain ⟨x24, hx24, hq⟩ := mx_bS hq
        refine mx_e_gr hx24 rfl ?_
        refine mx_p_iln rfl ?_
        have ho26 : x24 < x22.1 ∧ (mx_lay x24).1 = 10 := by
          by_cases hh : x24 < x22.1 ∧ (mx_lay x24).1 = 10
          · exact hh
          · rw [if_neg hh] at hq; cases hq
        rw [if_pos ho26] at hq
        obtain ⟨x25, hx25, hq⟩ := mx_bS hq
        refine mx_e_cv mx_t_X7_holds ho26 rfl rfl rfl ⟨Nat.le_of_ble_eq_true rfl, Nat.le_of_ble_eq_true rfl, Nat.le_of_ble_eq_true rfl⟩ (Nat.le_of_ble_eq_true rfl) rfl rfl rfl ⟨Nat.zero_le _, Nat.zero_le _⟩ (t_X7_holds hx25) ?_
        obtain ⟨v29, hE, hK⟩ := mx_bS hq
        have HJ : mx_Ev mx_k_X5_luresTo mx_noS (mx_b_X5_luresTo 61, [some (.ref l0), some (.ref l1), some (.ref l2), some (.int l3), none, some (.int s5)], [.int v29, .int s4], x22, 0, 0) (some (.int res.1), res.2) := by
          replace hq := hK
          refine mx_p_ior ?_
          refine mx_p_is (loc' := [some (.ref l0), some (.ref l1), some (.ref l2), some (.int l3), some (.int (s4 ||| v29)), some (.int s5)]) rfl ?_
          refine mx_p_np ?_
          cases hq; exact mx_Ev.weak (mx_le.same _ (mx_le.same _ (mx_le.same _ (mx_le.same _ (mx_le.same _ (mx_le.same _ (mx_le.nil))))))) HJ
        clear hK
        replace hq := hE
        by_cases hc27 : x25 = 0
        · rw [if_pos hc27] at hq
          refine mx_e_zt (decide_eq_true hc27) ?_
          refine mx_p_ic ?_
          refine mx_p_np ?_
          cases hq; exact mx_Ev.weak (mx_le.same _ (mx_le.same _ (mx_le.same _ (mx_le.same _ (mx_le.drop _ (mx_le.same _ (mx_le.nil))))))) HJ
        · rw [if_neg hc27] at hq
          refine mx_e_zf (fun z => hc27 (of_decide_eq_true z)) ?_
          refine mx_p_il rfl ?_
          obtain ⟨x28, hx28, hq⟩ := mx_bS hq
          refine mx_e_cs mx_t_X11_bit rfl rfl rfl ⟨Nat.le_of_ble_eq_true rfl, Nat.le_of_ble_eq_true rfl, Nat.le_of_ble_eq_true rfl⟩ (Nat.le_of_ble_eq_true rfl) rfl rfl ⟨Nat.zero_le _, Nat.zero_le _⟩ (t_X11_bit hx28) ?_
          refine mx_p_gt ?_
          cases hq; exact mx_Ev.weak (mx_le.same _ (mx_le.same _ (mx_le.same _ (mx_le.same _ (mx_le.drop _ (mx_le.same _ (mx_le.nil))))))) HJ
set_option maxRecDepth 20000 in
set_option maxHeartbeats 1000000 in
theorem t_X5_luresTo {a0 : Nat} {a1 : Nat} {a2 : Nat} {a3 : Int32} {h : mx_Hp} {res} (hq : f_X5_luresTo a0 a1 a2 a3 h = some res) : mx_Ms mx_k_X5_luresTo [.ref a0, .ref a1, .ref a2, .int a3] h (some (.int res.1), res.2) := by
  unfold f_X5_luresTo at hq
  show mx_Ev mx_k_X5_luresTo mx_noS (mx_b_X5_luresTo 0, [some (.ref a0), some (.ref a1), some (.ref a2), some (.int a3), none, none], [], h, 0, 0) _
  refine mx_p_ic ?_
  refine mx_p_is (loc' := [some (.ref a0), some (.ref a1), some (.ref a2), some (.int a3), some (.int 0), none]) rfl ?_
  refine mx_p_ic ?_
  refine mx_p_is (loc' := [some (.ref a0), some (.ref a1), some (.ref a2), some (.int a3), some (.int 0), some (.int 0)]) rfl ?_
  refine mx_p_np ?_
  refine mx_Ev.weak (mx_le.same _ (mx_le.same _ (mx_le.same _ (mx_le.same _ (mx_le.same _ (mx_le.same _ (mx_le.nil))))))) (e_f_X5_luresTo_L6 _ _ _ _  _ _ _ _ _ hq)
set_option maxRecDepth 20000 in
set_option maxHeartbeats 1000000 in
theorem e_f_X5_seekLure_L16 (l0 : Nat) (l1 : Nat)   : ∀ (n : Nat) (s4 : Int32) (hh : mx_Hp) res, mx_fix (f_X5_seekLure_L16 l0 l1 ) n (s4, hh) = some res → mx_Ev mx_k_X5_seekLure mx_noS (mx_b_X5_seekLure 16, [some (.ref l0), some (.ref l1), none, none, some (.int s4)], [], hh, 0, 0) (none, res) := by
  intro n
  induction n with
  | zero => intro s4 hh res hq; cases hq
  | succ n ih =>
    intro s4 hh res hq
    unfold mx_fix at hq
    generalize mx_fix (f_X5_seekLure_L16 l0 l1 ) n = S at hq ih
    unfold f_X5_seekLure_L16 at hq
    try dsimp only at hq
    refine mx_p_il rfl ?_
    refine mx_p_bp ?_
    by_cases hc13 : 10 ≤ s4
    · rw [if_pos hc13] at hq
      refine mx_e_it (decide_eq_true hc13) ?_
      cases hq; exact mx_p_rv
    · rw [if_neg hc13] at hq
      refine mx_e_if (fun z => hc13 (of_decide_eq_true z)) ?_
      refine mx_p_aln rfl ?_
      obtain ⟨x14, hx14, hq⟩ := mx_bS hq
      refine mx_e_gr hx14 rfl ?_
      refine mx_p_il rfl ?_
      refine mx_p_aln rfl ?_
      refine mx_p_aln rfl ?_
      obtain ⟨x15, hx15, hq⟩ := mx_bS hq
      refine mx_e_gr hx15 rfl ?_
      refine mx_p_il rfl ?_
      refine mx_p_ic ?_
      refine mx_p_isub ?_
      obtain ⟨x16, hx16, hq⟩ := mx_bS hq
      refine mx_e_al hx16 ?_
      have ho18 : l1 < hh.1 ∧ (mx_lay l1).1 = 3 := by
        by_cases hh : l1 < hh.1 ∧ (mx_lay l1).1 = 3
        · exact hh
        · rw [if_neg hh] at hq; cases hq
      rw [if_pos ho18] at hq
      obtain ⟨x17, hx17, hq⟩ := mx_bS hq
      refine mx_e_cv mx_t_X0_aheadOf ho18 rfl rfl rfl ⟨Nat.le_of_ble_eq_true rfl, Nat.le_of_ble_eq_true rfl, Nat.le_of_ble_eq_true rfl⟩ (Nat.le_of_ble_eq_true rfl) rfl rfl rfl ⟨Nat.zero_le _, Nat.zero_le _⟩ (t_X0_aheadOf hx17) ?_
      refine mx_p_aln rfl ?_
      obtain ⟨x19, hx19, hq⟩ := mx_bS hq
      refine mx_e_gi hx19 (by decide) ?_
      refine mx_p_ic ?_
      refine mx_p_ixor ?_
      refine mx_p_iand ?_
      obtain ⟨h20, hh20, hq⟩ := mx_bS hq
      refine mx_e_as hh20 ?_
      refine mx_p_inc (loc' := [some (.ref l0), some (.ref l1), none, none, some (.int (s4 + 1))]) rfl rfl ?_
      refine mx_p_gt ?_
      have HB := ih (s4 + 1) h20 _ hq
      exact mx_Ev.weak (mx_le.same _ (mx_le.same _ (mx_le.same _ (mx_le.same _ (mx_le.same _ (mx_le.nil)))))) HB
set_option maxRecDepth 20000 in
set_option maxHeartbeats 1000000 in
theorem t_X5_seekLure {a0 : Nat} {a1 : Nat} {a2 : Nat} {a3 : Int32} {h : mx_Hp} {res} (hq : f_X5_seekLure a0 a1 a2 a3 h = some res) : mx_Ms mx_k_X5_seekLure [.ref a0, .ref a1, .ref a2, .int a3] h (none, res) := by
  unfold f_X5_seekLure at hq
  show mx_Ev mx_k_X5_seekLure mx_noS (mx_b_X5_seekLure 0, [some (.ref a0), some (.ref a1), some (.ref a2), some (.int a3), none], [], h, 0, 0) _
  refine mx_p_aln rfl ?_
  obtain ⟨x21, hx21, hq⟩ := mx_bS hq
  refine mx_e_gr hx21 rfl ?_
  refine mx_p_ic ?_
  refine mx_p_aln rfl ?_
  refine mx_p_aln rfl ?_
  refine mx_p_aln rfl ?_
  refine mx_p_iln rfl ?_
  have ho23 : a0 < h.1 ∧ (mx_lay a0).1 = 8 := by
    by_cases hh : a0 < h.1 ∧ (mx_lay a0).1 = 8
    · exact hh
    · rw [if_neg hh] at hq; cases hq
  rw [if_pos ho23] at hq
  obtain ⟨x22, hx22, hq⟩ := mx_bS hq
  refine mx_e_cv mx_t_X5_luresTo ho23 rfl rfl rfl ⟨Nat.le_of_ble_eq_true rfl, Nat.le_of_ble_eq_true rfl, Nat.le_of_ble_eq_true rfl⟩ (Nat.le_of_ble_eq_true rfl) rfl rfl rfl ⟨Nat.zero_le _, Nat.zero_le _⟩ (t_X5_luresTo hx22) ?_
  obtain ⟨h24, hh24, hq⟩ := mx_bS hq
  refine mx_e_as hh24 ?_
  refine mx_p_ic ?_
  refine mx_p_is (loc' := [some (.ref a0), some (.ref a1), some (.ref a2), some (.int a3), some (.int 1)]) rfl ?_
  refine mx_p_np ?_
  refine mx_Ev.weak (mx_le.same _ (mx_le.same _ (mx_le.drop _ (mx_le.drop _ (mx_le.same _ (mx_le.nil)))))) (e_f_X5_seekLure_L16 _ _  _ _ _ _ hq)
set_option maxRecDepth 20000 in
set_option maxHeartbeats 1000000 in
theorem e_f_X5_mostBehind_L13 (l0 : Nat) (l1 : Nat) (l3 : Int32) (l4 : Int32) (h : mx_Hp)   : ∀ (n : Nat) (s5 : Int32) (s6 : Int32) res, mx_fix (f_X5_mostBehind_L13 l0 l1 l3 l4 h ) n (s5, s6) = some res → mx_Ev mx_k_X5_mostBehind mx_noS (mx_b_X5_mostBehind 13, [some (.ref l0), some (.ref l1), none, some (.int l3), some (.int l4), some (.int s5), some (.int s6)], [], h, 0, 0) (some (.int res), h) := by
  intro n
  induction n with
  | zero => intro s5 s6 res hq; cases hq
  | succ n ih =>
    intro s5 s6 res hq
    unfold mx_fix at hq
    generalize mx_fix (f_X5_mostBehind_L13 l0 l1 l3 l4 h ) n = S at hq ih
    unfold f_X5_mostBehind_L13 at hq
    try dsimp only at hq
    refine mx_p_il rfl ?_
    refine mx_p_aln rfl ?_
    obtain ⟨x10, hx10, hq⟩ := mx_bS hq
    refine mx_e_gi hx10 (by decide) ?_
    by_cases hc11 : x10 ≤ s6
    · rw [if_pos hc11] at hq
      refine mx_e_it (decide_eq_true hc11) ?_
      refine mx_p_il rfl ?_
      cases hq; exact mx_e_ri rfl
    · rw [if_neg hc11] at hq
      refine mx_e_if (fun z => hc11 (of_decide_eq_true z)) ?_
      refine mx_p_il rfl ?_
      refine mx_p_il rfl ?_
      obtain ⟨x12, hx12, hq⟩ := mx_bS hq
      refine mx_e_cs mx_t_X11_bit rfl rfl rfl ⟨Nat.le_of_ble_eq_true rfl, Nat.le_of_ble_eq_true rfl, Nat.le_of_ble_eq_true rfl⟩ (Nat.le_of_ble_eq_true rfl) rfl rfl ⟨Nat.zero_le _, Nat.zero_le _⟩ (t_X11_bit hx12) ?_
      refine mx_p_iand ?_
      obtain ⟨v16, hE, hK⟩ := mx_bS hq
      have HJ : mx_Ev mx_k_X5_mostBehind mx_noS (mx_b_X5_mostBehind 47, [some (.ref l0), some (.ref l1), none, some (.int l3), some (.int l4), some (.int v16), some (.int s6)], [], h, 0, 0) (some (.int res), h) := by
        replace hq := hK
        refine mx_p_inc (loc' := [some (.ref l0), some (.ref l1), none, some (.int l3), some (.int l4), some (.int v16), some (.int (s6 + 1))]) rfl rfl ?_
        refine mx_p_gt ?_
        have HB := ih v16 (s6 + 1) _ hq
        exact mx_Ev.weak (mx_le.same _ (mx_le.same _ (mx_le.same _ (mx_le.same _ (mx_le.same _ (mx_le.same _ (mx_le.same _ (mx_le.nil)))))))) HB
      clear hK
      replace hq := hE
      by_cases hc13 : (l4 &&& x12) = 0
      · rw [if_pos hc13] at hq
        refine mx_e_zt (decide_eq_true hc13) ?_
        cases hq; exact mx_Ev.weak (mx_le.same _ (mx_le.same _ (mx_le.same _ (mx_le.same _ (mx_le.same _ (mx_le.same _ (mx_le.same _ (mx_le.nil)))))))) HJ
      · rw [if_neg hc13] at hq
        refine mx_e_zf (fun z => hc13 (of_decide_eq_true z)) ?_
        refine mx_p_il rfl ?_
        refine mx_p_aln rfl ?_
        refine mx_p_iln rfl ?_
        refine mx_p_il rfl ?_
        have ho15 : l0 < h.1 ∧ (mx_lay l0).1 = 8 := by
          by_cases hh : l0 < h.1 ∧ (mx_lay l0).1 = 8
          · exact hh
          · rw [if_neg hh] at hq; cases hq
        rw [if_pos ho15] at hq
        obtain ⟨x14, hx14, hq⟩ := mx_bS hq
        refine mx_e_cv mx_t_X5_tableAt ho15 rfl rfl rfl ⟨Nat.le_of_ble_eq_true rfl, Nat.le_of_ble_eq_true rfl, Nat.le_of_ble_eq_true rfl⟩ (Nat.le_of_ble_eq_true rfl) rfl rfl rfl ⟨Nat.zero_le _, Nat.zero_le _⟩ (t_X5_tableAt hx14) ?_
        refine mx_p_mx rfl ⟨Nat.le_of_ble_eq_true rfl, Nat.zero_le _, Nat.zero_le _⟩ ?_
        refine mx_p_is (loc' := [some (.ref l0), some (.ref l1), none, some (.int l3), some (.int l4), some (.int (if s5 < x14 then x14 else s5)), some (.int s6)]) rfl ?_
        refine mx_p_np ?_
        cases hq; exact mx_Ev.weak (mx_le.same _ (mx_le.same _ (mx_le.same _ (mx_le.same _ (mx_le.same _ (mx_le.same _ (mx_le.same _ (mx_le.nil)))))))) HJ
set_option maxRecDepth 20000 in
set_option maxHeartbeats 1000000 in
theorem t_X5_mostBehind {a0 : Nat} {a1 : Nat} {a2 : Int32} {a3 : Int32} {h : mx_Hp} {res} (hq : f_X5_mostBehind a0 a1 a2 a3 h = some res) : mx_Ms mx_k_X5_mostBehind [.ref a0, .ref a1, .int a2, .int a3] h (some (.int res), h) := by
  unfold f_X5_mostBehind at hq
  show mx_Ev mx_k_X5_mostBehind mx_noS (mx_b_X5_mostBehind 0, [some (.ref a0), some (.ref a1), some (.int a2), some (.int a3), none, none, none], [], h, 0, 0) _
  refine mx_p_aln rfl ?_
  refine mx_p_iln rfl ?_
  have ho18 : a1 < h.1 ∧ (mx_lay a1).1 = 3 := by
    by_cases hh : a1 < h.1 ∧ (mx_lay a1).1 = 3
    · exact hh
    · rw [if_neg hh] at hq; cases hq
  rw [if_pos ho18] at hq
  obtain ⟨x17, hx17, hq⟩ := mx_bS hq
  refine mx_e_cv mx_t_X0_behindOf ho18 rfl rfl rfl ⟨Nat.le_of_ble_eq_true rfl, Nat.le_of_ble_eq_true rfl, Nat.le_of_ble_eq_true rfl⟩ (Nat.le_of_ble_eq_true rfl) rfl rfl rfl ⟨Nat.zero_le _, Nat.zero_le _⟩ (t_X0_behindOf hx17) ?_
  refine mx_p_is (loc' := [some (.ref a0), some (.ref a1), some (.int a2), some (.int a3), some (.int x17), none, none]) rfl ?_
  refine mx_p_ic ?_
  refine mx_p_is (loc' := [some (.ref a0), some (.ref a1), some (.int a2), some (.int a3), some (.int x17), some (.int (-1)), none]) rfl ?_
  refine mx_p_ic ?_
  refine mx_p_is (loc' := [some (.ref a0), some (.ref a1), some (.int a2), some (.int a3), some (.int x17), some (.int (-1)), some (.int 0)]) rfl ?_
  refine mx_p_np ?_
  refine mx_Ev.weak (mx_le.same _ (mx_le.same _ (mx_le.drop _ (mx_le.same _ (mx_le.same _ (mx_le.same _ (mx_le.same _ (mx_le.nil)))))))) (e_f_X5_mostBehind_L13 _ _ _ _ _  _ _ _ _ hq)
set_option maxRecDepth 20000 in
set_option maxHeartbeats 1000000 in
theorem e_f_X5_tableWorths_L2 (l0 : Nat) (l1 : Nat) (l2 : Int32) (k48 : Int32 × mx_Hp → Option (mx_Hp)) (Hk48 : ∀ (s3 : Int32) (hh : mx_Hp) res, k48 (s3, hh) = some res → mx_Ev mx_k_X5_tableWorths mx_noS (mx_b_X5_tableWorths 48, [some (.ref l0), some (.ref l1), some (.int l2), none, none, none], [], hh, 0, 0) (none, res)) : ∀ (n : Nat) (s3 : Int32) (hh : mx_Hp) res, mx_fix (f_X5_tableWorths_L2 l0 l1 l2 k48) n (s3, hh) = some res → mx_Ev mx_k_X5_tableWorths mx_noS (mx_b_X5_tableWorths 2, [some (.ref l0), some (.ref l1), some (.int l2), some (.int s3), none, none], [], hh, 0, 0) (none, res) := by
  intro n
  induction n with
  | zero => intro s3 hh res hq; cases hq
  | succ n ih =>
    intro s3 hh res hq
    unfold mx_fix at hq
    generalize mx_fix (f_X5_tableWorths_L2 l0 l1 l2 k48) n = S at hq ih
    unfold f_X5_tableWorths_L2 at hq
    try dsimp only at hq
    refine mx_p_iln rfl ?_
    refine mx_p_aln rfl ?_
    obtain ⟨x13, hx13, hq⟩ := mx_bS hq
    refine mx_e_gi hx13 (by decide) ?_
    by_cases hc14 : x13 ≤ s3
    · rw [if_pos hc14] at hq
      refine mx_e_it (decide_eq_true hc14) ?_
      have HB := Hk48 s3 hh _ hq
      exact mx_Ev.weak (mx_le.same _ (mx_le.same _ (mx_le.same _ (mx_le.drop _ (mx_le.same _ (mx_le.same _ (mx_le.nil))))))) HB
    · rw [if_neg hc14] at hq
      refine mx_e_if (fun z => hc14 (of_decide_eq_true z)) ?_
      refine mx_p_iln rfl ?_
      refine mx_p_bp ?_
      by_cases hc15 : 10 ≤ s3
      · rw [if_pos hc15] at hq
        refine mx_e_it (decide_eq_true hc15) ?_
        have HB := Hk48 s3 hh _ hq
        exact mx_Ev.weak (mx_le.same _ (mx_le.same _ (mx_le.same _ (mx_le.drop _ (mx_le.same _ (mx_le.same _ (mx_le.nil))))))) HB
      · rw [if_neg hc15] at hq
        refine mx_e_if (fun z => hc15 (of_decide_eq_true z)) ?_
        refine mx_p_aln rfl ?_
        obtain ⟨x16, hx16, hq⟩ := mx_bS hq
        refine mx_e_gr hx16 rfl ?_
        refine mx_p_ic ?_
        obtain ⟨x17, hx17, hq⟩ := mx_bS hq
        refine mx_e_rl hx17 ?_
        refine mx_p_iln rfl ?_
        refine mx_p_aln rfl ?_
        refine mx_p_iln rfl ?_
        have ho19 : l1 < hh.1 ∧ (mx_lay l1).1 = 3 := by
          by_cases hh : l1 < hh.1 ∧ (mx_lay l1).1 = 3
          · exact hh
          · rw [if_neg hh] at hq; cases hq
        rw [if_pos ho19] at hq
        obtain ⟨x18, hx18, hq⟩ := mx_bS hq
        refine mx_e_cv mx_t_X0_kindOf ho19 rfl rfl rfl ⟨Nat.le_of_ble_eq_true rfl, Nat.le_of_ble_eq_true rfl, Nat.le_of_ble_eq_true rfl⟩ (Nat.le_of_ble_eq_true rfl) rfl rfl rfl ⟨Nat.zero_le _, Nat.zero_le _⟩ (t_X0_kindOf hx18) ?_
        refine mx_p_ic ?_
        obtain ⟨v23, hE, hK⟩ := mx_bS hq
        have HJ : mx_Ev mx_k_X5_tableWorths mx_noS (mx_b_X5_tableWorths 41, [some (.ref l0), some (.ref l1), some (.int l2), some (.int s3), none, none], [.int v23, .int s3, .ref x17], hh, 0, 0) (none, res) := by
          replace hq := hK
          obtain ⟨h24, hh24, hq⟩ := mx_bS hq
          refine mx_e_as hh24 ?_
          refine mx_p_inc (loc' := [some (.ref l0), some (.ref l1), some (.int l2), some (.int (s3 + 1)), none, none]) rfl rfl ?_
          refine mx_p_gt ?_
          have HB := ih (s3 + 1) h24 _ hq
          exact mx_Ev.weak (mx_le.same _ (mx_le.same _ (mx_le.same _ (mx_le.same _ (mx_le.same _ (mx_le.same _ (mx_le.nil))))))) HB
        clear hK
        replace hq := hE
        by_cases hc20 : ¬ x18 = 2
        · rw [if_pos hc20] at hq
          refine mx_e_it (decide_eq_true hc20) ?_
          refine mx_p_ic ?_
          refine mx_p_np ?_
          cases hq; exact mx_Ev.weak (mx_le.same _ (mx_le.same _ (mx_le.same _ (mx_le.same _ (mx_le.same _ (mx_le.same _ (mx_le.nil))))))) HJ
        · rw [if_neg hc20] at hq
          refine mx_e_if (fun z => hc20 (of_decide_eq_true z)) ?_
          refine mx_p_aln rfl ?_
          refine mx_p_iln rfl ?_
          have ho22 : l1 < hh.1 ∧ (mx_lay l1).1 = 3 := by
            by_cases hh : l1 < hh.1 ∧ (mx_lay l1).1 = 3
            · exact hh
            · rw [if_neg hh] at hq; cases hq
          rw [if_pos ho22] at hq
          obtain ⟨x21, hx21, hq⟩ := mx_bS hq
          refine mx_e_cv mx_t_X0_worthOf ho22 rfl rfl rfl ⟨Nat.le_of_ble_eq_true rfl, Nat.le_of_ble_eq_true rfl, Nat.le_of_ble_eq_true rfl⟩ (Nat.le_of_ble_eq_true rfl) rfl rfl rfl ⟨Nat.zero_le _, Nat.zero_le _⟩ (t_X0_worthOf hx21) ?_
          refine mx_p_gt ?_
          cases hq; exact mx_Ev.weak (mx_le.same _ (mx_le.same _ (mx_le.same _ (mx_le.same _ (mx_le.same _ (mx_le.same _ (mx_le.nil))))))) HJ
set_option maxRecDepth 20000 in
set_option maxHeartbeats 1000000 in
theorem e_f_X5_tableWorths_L64 (l0 : Nat) (l1 : Nat) (l2 : Int32) (l3 : Int32) (k143 : Int32 × mx_Hp → Option (mx_Hp)) (Hk143 : ∀ (s4 : Int32) (hh : mx_Hp) res, k143 (s4, hh) = some res → mx_Ev mx_k_X5_tableWorths mx_noS (mx_b_X5_tableWorths 143, [some (.ref l0), some (.ref l1), some (.int l2), some (.int l3), none, none], [], hh, 0, 0) (none, res)) : ∀ (n : Nat) (s4 : Int32) (hh : mx_Hp) res, mx_fix (f_X5_tableWorths_L64 l0 l1 l2 l3 k143) n (s4, hh) = some res → mx_Ev mx_k_X5_tableWorths mx_noS (mx_b_X5_tableWorths 64, [some (.ref l0), some (.ref l1), some (.int l2), some (.int l3), some (.int s4), none], [], hh, 0, 0) (none, res) := by
  intro n
  induction n with
  | zero => intro s4 hh res hq; cases hq
  | succ n ih =>
    intro s4 hh res hq
    unfold mx_fix at hq
    generalize mx_fix (f_X5_tableWorths_L64 l0 l1 l2 l3 k143) n = S at hq ih
    unfold f_X5_tableWorths_L64 at hq
    try dsimp only at hq
    refine mx_p_il rfl ?_
    refine mx_p_aln rfl ?_
    obtain ⟨x44, hx44, hq⟩ := mx_bS hq
    refine mx_e_gi hx44 (by decide) ?_
    by_cases hc45 : x44 ≤ s4
    · rw [if_pos hc45] at hq
      refine mx_e_it (decide_eq_true hc45) ?_
      have HB := Hk143 s4 hh _ hq
      exact mx_Ev.weak (mx_le.same _ (mx_le.same _ (mx_le.same _ (mx_le.same _ (mx_le.drop _ (mx_le.same _ (mx_le.nil))))))) HB
    · rw [if_neg hc45] at hq
      refine mx_e_if (fun z => hc45 (of_decide_eq_true z)) ?_
      refine mx_p_il rfl ?_
      refine mx_p_bp ?_
      by_cases hc46 : 10 ≤ s4
      · rw [if_pos hc46] at hq
        refine mx_e_it (decide_eq_true hc46) ?_
        have HB := Hk143 s4 hh _ hq
        exact mx_Ev.weak (mx_le.same _ (mx_le.same _ (mx_le.same _ (mx_le.same _ (mx_le.drop _ (mx_le.same _ (mx_le.nil))))))) HB
      · rw [if_neg hc46] at hq
        refine mx_e_if (fun z => hc46 (of_decide_eq_true z)) ?_
        refine mx_p_aln rfl ?_
        obtain ⟨x47, hx47, hq⟩ := mx_bS hq
        refine mx_e_gi hx47 (by decide) ?_
        refine mx_p_il rfl ?_
        obtain ⟨x48, hx48, hq⟩ := mx_bS hq
        refine mx_e_cs mx_t_X11_bit rfl rfl rfl ⟨Nat.le_of_ble_eq_true rfl, Nat.le_of_ble_eq_true rfl, Nat.le_of_ble_eq_true rfl⟩ (Nat.le_of_ble_eq_true rfl) rfl rfl ⟨Nat.zero_le _, Nat.zero_le _⟩ (t_X11_bit hx48) ?_
        refine mx_p_iand ?_
        obtain ⟨v52, hE, hK⟩ := mx_bS hq
        have HJ : mx_Ev mx_k_X5_tableWorths mx_noS (mx_b_X5_tableWorths 107, [some (.ref l0), some (.ref l1), some (.int l2), some (.int l3), some (.int s4), none], [.int v52], hh, 0, 0) (none, res) := by
          replace hq := hK
          refine mx_p_is (loc' := [some (.ref l0), some (.ref l1), some (.int l2), some (.int l3), some (.int s4), some (.int v52)]) rfl ?_
          refine mx_p_aln rfl ?_
          obtain ⟨x53, hx53, hq⟩ := mx_bS hq
          refine mx_e_gr hx53 rfl ?_
          refine mx_p_iln rfl ?_
          obtain ⟨x54, hx54, hq⟩ := mx_bS hq
          refine mx_e_rl hx54 ?_
          refine mx_p_il rfl ?_
          refine mx_p_il rfl ?_
          refine mx_p_ic ?_
          obtain ⟨v58, hE, hK⟩ := mx_bS hq
          have HJ : mx_Ev mx_k_X5_tableWorths mx_noS (mx_b_X5_tableWorths 136, [some (.ref l0), some (.ref l1), some (.int l2), some (.int l3), some (.int s4), none], [.int v58, .int s4, .ref x54], hh, 0, 0) (none, res) := by
            replace hq := hK
            obtain ⟨h59, hh59, hq⟩ := mx_bS hq
            refine mx_e_as hh59 ?_
            refine mx_p_inc (loc' := [some (.ref l0), some (.ref l1), some (.int l2), some (.int l3), some (.int (s4 + 1)), none]) rfl rfl ?_
            refine mx_p_gt ?_
            have HB := ih (s4 + 1) h59 _ hq
            exact mx_Ev.weak (mx_le.same _ (mx_le.same _ (mx_le.same _ (mx_le.same _ (mx_le.same _ (mx_le.same _ (mx_le.nil))))))) HB
          clear hK
          replace hq := hE
          by_cases hc55 : ¬ v52 = (-1)
          · rw [if_pos hc55] at hq
            refine mx_e_it (decide_eq_true hc55) ?_
            refine mx_p_il rfl ?_
            refine mx_p_aln rfl ?_
            refine mx_p_il rfl ?_
            have ho57 : l1 < hh.1 ∧ (mx_lay l1).1 = 3 := by
              by_cases hh : l1 < hh.1 ∧ (mx_lay l1).1 = 3
              · exact hh
              · rw [if_neg hh] at hq; cases hq
            rw [if_pos ho57] at hq
            obtain ⟨x56, hx56, hq⟩ := mx_bS hq
            refine mx_e_cv mx_t_X0_worthOf ho57 rfl rfl rfl ⟨Nat.le_of_ble_eq_true rfl, Nat.le_of_ble_eq_true rfl, Nat.le_of_ble_eq_true rfl⟩ (Nat.le_of_ble_eq_true rfl) rfl rfl rfl ⟨Nat.zero_le _, Nat.zero_le _⟩ (t_X0_worthOf hx56) ?_
            refine mx_p_iadd ?_
            refine mx_p_np ?_
            cases hq; exact mx_Ev.weak (mx_le.same _ (mx_le.same _ (mx_le.same _ (mx_le.same _ (mx_le.same _ (mx_le.drop _ (mx_le.nil))))))) HJ
          · rw [if_neg hc55] at hq
            refine mx_e_if (fun z => hc55 (of_decide_eq_true z)) ?_
            refine mx_p_ic ?_
            refine mx_p_gt ?_
            cases hq; exact mx_Ev.weak (mx_le.same _ (mx_le.same _ (mx_le.same _ (mx_le.same _ (mx_le.same _ (mx_le.drop _ (mx_le.nil))))))) HJ
        clear hK
        replace hq := hE
        by_cases hc49 : (x47 &&& x48) = 0
        · rw [if_pos hc49] at hq
          refine mx_e_zt (decide_eq_true hc49) ?_
          refine mx_p_aln rfl ?_
          refine mx_p_aln rfl ?_
          refine mx_p_il rfl ?_
          refine mx_p_iln rfl ?_
          refine mx_p_ic ?_
          refine mx_p_isub ?_
          have ho51 : l0 < hh.1 ∧ (mx_lay l0).1 = 8 := by
            by_cases hh : l0 < hh.1 ∧ (mx_lay l0).1 = 8
            · exact hh
            · rw [if_neg hh] at hq; cases hq
          rw [if_pos ho51] at hq
          obtain ⟨x50, hx50, hq⟩ := mx_bS hq
          refine mx_e_cv mx_t_X5_mostBehind ho51 rfl rfl rfl ⟨Nat.le_of_ble_eq_true rfl, Nat.le_of_ble_eq_true rfl, Nat.le_of_ble_eq_true rfl⟩ (Nat.le_of_ble_eq_true rfl) rfl rfl rfl ⟨Nat.zero_le _, Nat.zero_le _⟩ (t_X5_mostBehind hx50) ?_
          refine mx_p_np ?_
          cases hq; exact mx_Ev.weak (mx_le.same _ (mx_le.same _ (mx_le.same _ (mx_le.same _ (mx_le.same _ (mx_le.same _ (mx_le.nil))))))) HJ
        · rw [if_neg hc49] at hq
          refine mx_e_zf (fun z => hc49 (of_decide_eq_true z)) ?_
          refine mx_p_ic ?_
          refine mx_p_gt ?_
          cases hq; exact mx_Ev.weak (mx_le.same _ (mx_le.same _ (mx_le.same _ (mx_le.same _ (mx_le.same _ (mx_le.same _ (mx_le.nil))))))) HJ
set_option maxRecDepth 20000 in
set_option maxHeartbeats 1000000 in
theorem e_f_X5_tableWorths_L50 (l0 : Nat) (l1 : Nat) (l2 : Int32)   : ∀ (n : Nat) (s3 : Int32) (hh : mx_Hp) res, mx_fix (f_X5_tableWorths_L50 l0 l1 l2 ) n (s3, hh) = some res → mx_Ev mx_k_X5_tableWorths mx_noS (mx_b_X5_tableWorths 50, [some (.ref l0), some (.ref l1), some (.int l2), some (.int s3), none, none], [], hh, 0, 0) (none, res) := by
  intro n
  induction n with
  | zero => intro s3 hh res hq; cases hq
  | succ n ih =>
    intro s3 hh res hq
    unfold mx_fix at hq
    generalize mx_fix (f_X5_tableWorths_L50 l0 l1 l2 ) n = S at hq ih
    unfold f_X5_tableWorths_L50 at hq
    try dsimp only at hq
    refine mx_p_iln rfl ?_
    refine mx_p_iln rfl ?_
    by_cases hc61 : l2 ≤ s3
    · rw [if_pos hc61] at hq
      refine mx_e_it (decide_eq_true hc61) ?_
      cases hq; exact mx_p_rv
    · rw [if_neg hc61] at hq
      refine mx_e_if (fun z => hc61 (of_decide_eq_true z)) ?_
      refine mx_p_iln rfl ?_
      refine mx_p_bp ?_
      by_cases hc62 : 10 ≤ s3
      · rw [if_pos hc62] at hq
        refine mx_e_it (decide_eq_true hc62) ?_
        cases hq; exact mx_p_rv
      · rw [if_neg hc62] at hq
        refine mx_e_if (fun z => hc62 (of_decide_eq_true z)) ?_
        refine mx_p_ic ?_
        refine mx_p_is (loc' := [some (.ref l0), some (.ref l1), some (.int l2), some (.int s3), some (.int 0), none]) rfl ?_
        refine mx_p_np ?_
        refine mx_Ev.weak (mx_le.same _ (mx_le.same _ (mx_le.same _ (mx_le.same _ (mx_le.same _ (mx_le.same _ (mx_le.nil))))))) (e_f_X5_tableWorths_L64 _ _ _ _ _ ?_ _ _ _ _ hq)
        · intro c63 c64 res hq
          try dsimp only at hq
          refine mx_p_inc (loc' := [some (.ref l0), some (.ref l1), some (.int l2), some (.int (s3 + 1)), none, none]) rfl rfl ?_
          refine mx_p_gt ?_
          have HB := ih (s3 + 1) c64 _ hq
          exact mx_Ev.weak (mx_le.same _ (mx_le.same _ (mx_le.same _ (mx_le.same _ (mx_le.same _ (mx_le.same _ (mx_le.nil))))))) HB
set_option maxRecDepth 20000 in
set_option maxHeartbeats 1000000 in
theorem t_X5_tableWorths {a0 : Nat} {a1 : Nat} {a2 : Int32} {h : mx_Hp} {res} (hq : f_X5_tableWorths a0 a1 a2 h = some res) : mx_Ms mx_k_X5_tableWorths [.ref a0, .ref a1, .int a2] h (none, res) := by
  unfold f_X5_tableWorths at hq
  show mx_Ev mx_k_X5_tableWorths mx_noS (mx_b_X5_tableWorths 0, [some (.ref a0), some (.ref a1), some (.int a2), none, none, none], [], h, 0, 0) _
  refine mx_p_ic ?_
  refine mx_p_isn (loc' := [some (.ref a0), some (.ref a1), some (.int a2), some (.int 0), none, none]) rfl ?_
  refine mx_p_np ?_
  refine mx_Ev.weak (mx_le.same _ (mx_le.same _ (mx_le.same _ (mx_le.same _ (mx_le.same _ (mx_le.same _ (mx_le.nil))))))) (e_f_X5_tableWorths_L2 _ _ _ _ ?_ _ _ _ _ hq)
  · intro c65 c66 res hq
    try dsimp only at hq
    refine mx_p_ic ?_
    refine mx_p_isn (loc' := [some (.ref a0), some (.ref a1), some (.int a2), some (.int 1), none, none]) rfl ?_
    refine mx_p_np ?_
    refine mx_Ev.weak (mx_le.same _ (mx_le.same _ (mx_le.same _ (mx_le.same _ (mx_le.same _ (mx_le.same _ (mx_le.nil))))))) (e_f_X5_tableWorths_L50 _ _ _  _ _ _ _ hq)
set_option maxRecDepth 20000 in
set_option maxHeartbeats 1000000 in
theorem e_f_X5_sumBehind_L13 (l0 : Nat) (l1 : Nat) (l3 : Int32) (l4 : Int32) (h : mx_Hp)   : ∀ (n : Nat) (s5 : Int32) (s6 : Int32) res, mx_fix (f_X5_sumBehind_L13 l0 l1 l3 l4 h ) n (s5, s6) = some res → mx_Ev mx_k_X5_sumBehind mx_noS (mx_b_X5_sumBehind 13, [some (.ref l0), some (.ref l1), none, some (.int l3), some (.int l4), some (.int s5), some (.int s6)], [], h, 0, 0) (some (.int res), h) := by
  intro n
  induction n with
  | zero => intro s5 s6 res hq; cases hq
  | succ n ih =>
    intro s5 s6 res hq
    unfold mx_fix at hq
    generalize mx_fix (f_X5_sumBehind_L13 l0 l1 l3 l4 h ) n = S at hq ih
    unfold f_X5_sumBehind_L13 at hq
    try dsimp only at hq
    refine mx_p_il rfl ?_
    refine mx_p_aln rfl ?_
    obtain ⟨x10, hx10, hq⟩ := mx_bS hq
    refine mx_e_gi hx10 (by decide) ?_
    by_cases hc11 : x10 ≤ s6
    · rw [if_pos hc11] at hq
      refine mx_e_it (decide_eq_true hc11) ?_
      refine mx_p_il rfl ?_
      cases hq; exact mx_e_ri rfl
    · rw [if_neg hc11] at hq
      refine mx_e_if (fun z => hc11 (of_decide_eq_true z)) ?_
      refine mx_p_il rfl ?_
      refine mx_p_il rfl ?_
      obtain ⟨x12, hx12, hq⟩ := mx_bS hq
      refine mx_e_cs mx_t_X11_bit rfl rfl rfl ⟨Nat.le_of_ble_eq_true rfl, Nat.le_of_ble_eq_true rfl, Nat.le_of_ble_eq_true rfl⟩ (Nat.le_of_ble_eq_true rfl) rfl rfl ⟨Nat.zero_le _, Nat.zero_le _⟩ (t_X11_bit hx12) ?_
      refine mx_p_iand ?_
      obtain ⟨v16, hE, hK⟩ := mx_bS hq
      have HJ : mx_Ev mx_k_X5_sumBehind mx_noS (mx_b_X5_sumBehind 45, [some (.ref l0), some (.ref l1), none, some (.int l3), some (.int l4), some (.int v16), some (.int s6)], [], h, 0, 0) (some (.int res), h) := by
        replace hq := hK
        refine mx_p_inc (loc' := [some (.ref l0), some (.ref l1), none, some (.int l3), some (.int l4), some (.int v16), some (.int (s6 + 1))]) rfl rfl ?_
        refine mx_p_gt ?_
        have HB := ih v16 (s6 + 1) _ hq
        exact mx_Ev.weak (mx_le.same _ (mx_le.same _ (mx_le.same _ (mx_le.same _ (mx_le.same _ (mx_le.same _ (mx_le.same _ (mx_le.nil)))))))) HB
      clear hK
      replace hq := hE
      by_cases hc13 : (l4 &&& x12) = 0
      · rw [if_pos hc13] at hq
        refine mx_e_zt (decide_eq_true hc13) ?_
        cases hq; exact mx_Ev.weak (mx_le.same _ (mx_le.same _ (mx_le.same _ (mx_le.same _ (mx_le.same _ (mx_le.same _ (mx_le.same _ (mx_le.nil)))))))) HJ
      · rw [if_neg hc13] at hq
        refine mx_e_zf (fun z => hc13 (of_decide_eq_true z)) ?_
        refine mx_p_il rfl ?_
        refine mx_p_aln rfl ?_
        refine mx_p_iln rfl ?_
        refine mx_p_il rfl ?_
        have ho15 : l0 < h.1 ∧ (mx_lay l0).1 = 8 := by
          by_cases hh : l0 < h.1 ∧ (mx_lay l0).1 = 8
          · exact hh
          · rw [if_neg hh] at hq; cases hq
        rw [if_pos ho15] at hq
        obtain ⟨x14, hx14, hq⟩ := mx_bS hq
        refine mx_e_cv mx_t_X5_tableAt ho15 rfl rfl rfl ⟨Nat.le_of_ble_eq_true rfl, Nat.le_of_ble_eq_true rfl, Nat.le_of_ble_eq_true rfl⟩ (Nat.le_of_ble_eq_true rfl) rfl rfl rfl ⟨Nat.zero_le _, Nat.zero_le _⟩ (t_X5_tableAt hx14) ?_
        refine mx_p_iadd ?_
        refine mx_p_is (loc' := [some (.ref l0), some (.ref l1), none, some (.int l3), some (.int l4), some (.int (s5 + x14)), some (.int s6)]) rfl ?_
        refine mx_p_np ?_
        cases hq; exact mx_Ev.weak (mx_le.same _ (mx_le.same _ (mx_le.same _ (mx_le.same _ (mx_le.same _ (mx_le.same _ (mx_le.same _ (mx_le.nil)))))))) HJ
set_option maxRecDepth 20000 in
set_option maxHeartbeats 1000000 in
theorem t_X5_sumBehind {a0 : Nat} {a1 : Nat} {a2 : Int32} {a3 : Int32} {h : mx_Hp} {res} (hq : f_X5_sumBehind a0 a1 a2 a3 h = some res) : mx_Ms mx_k_X5_sumBehind [.ref a0, .ref a1, .int a2, .int a3] h (some (.int res), h) := by
  unfold f_X5_sumBehind at hq
  show mx_Ev mx_k_X5_sumBehind mx_noS (mx_b_X5_sumBehind 0, [some (.ref a0), some (.ref a1), some (.int a2), some (.int a3), none, none, none], [], h, 0, 0) _
  refine mx_p_aln rfl ?_
  refine mx_p_iln rfl ?_
  have ho18 : a1 < h.1 ∧ (mx_lay a1).1 = 3 := by
    by_cases hh : a1 < h.1 ∧ (mx_lay a1).1 = 3
    · exact hh
    · rw [if_neg hh] at hq; cases hq
  rw [if_pos ho18] at hq
  obtain ⟨x17, hx17, hq⟩ := mx_bS hq
  refine mx_e_cv mx_t_X0_behindOf ho18 rfl rfl rfl ⟨Nat.le_of_ble_eq_true rfl, Nat.le_of_ble_eq_true rfl, Nat.le_of_ble_eq_true rfl⟩ (Nat.le_of_ble_eq_true rfl) rfl rfl rfl ⟨Nat.zero_le _, Nat.zero_le _⟩ (t_X0_behindOf hx17) ?_
  refine mx_p_is (loc' := [some (.ref a0), some (.ref a1), some (.int a2), some (.int a3), some (.int x17), none, none]) rfl ?_
  refine mx_p_ic ?_
  refine mx_p_is (loc' := [some (.ref a0), some (.ref a1), some (.int a2), some (.int a3), some (.int x17), some (.int 0), none]) rfl ?_
  refine mx_p_ic ?_
  refine mx_p_is (loc' := [some (.ref a0), some (.ref a1), some (.int a2), some (.int a3), some (.int x17), some (.int 0), some (.int 0)]) rfl ?_
  refine mx_p_np ?_
  refine mx_Ev.weak (mx_le.same _ (mx_le.same _ (mx_le.drop _ (mx_le.same _ (mx_le.same _ (mx_le.same _ (mx_le.same _ (mx_le.nil)))))))) (e_f_X5_sumBehind_L13 _ _ _ _ _  _ _ _ _ hq)
