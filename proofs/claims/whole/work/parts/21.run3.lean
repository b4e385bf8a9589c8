/-! their runs come to them: by wip/gen/dec.py -/
set_option maxRecDepth 20000 in
set_option maxHeartbeats 1000000 in
theorem t_X11_write {a0 : Nat} {a1 : Int32} {h : mx_Hp} {res} (hq : f_X11_write a0 a1 h = some res) : mx_Ms mx_k_X11_write [.ref a0, .int a1] h (some (.int res.1), res.2) := by
  unfold f_X11_write at hq
  show mx_Ev mx_k_X11_write mx_noS (mx_b_X11_write 0, [some (.ref a0), some (.int a1)], [], h, 0, 0) _
  refine mx_p_iln rfl ?_
  refine mx_p_bp ?_
  by_cases hc10 : a1 < 32
  · rw [if_pos hc10] at hq
    refine mx_e_it (decide_eq_true hc10) ?_
    refine mx_p_ic ?_
    cases hq; exact mx_e_ri rfl
  · rw [if_neg hc10] at hq
    refine mx_e_if (fun z => hc10 (of_decide_eq_true z)) ?_
    refine mx_p_iln rfl ?_
    refine mx_p_bp ?_
    by_cases hc11 : a1 ≤ 126
    · rw [if_pos hc11] at hq
      refine mx_e_it (decide_eq_true hc11) ?_
      refine mx_p_aln rfl ?_
      obtain ⟨x12, hx12, hq⟩ := mx_bS hq
      refine mx_e_gr hx12 rfl ?_
      refine mx_p_iln rfl ?_
      have ho14 : x12 < h.1 ∧ (mx_lay x12).1 = 13 := by
        by_cases hh : x12 < h.1 ∧ (mx_lay x12).1 = 13
        · exact hh
        · rw [if_neg hh] at hq; cases hq
      rw [if_pos ho14] at hq
      obtain ⟨x13, hx13, hq⟩ := mx_bS hq
      refine mx_e_cv mx_t_X10_add ho14 rfl rfl rfl ⟨Nat.le_of_ble_eq_true rfl, Nat.le_of_ble_eq_true rfl, Nat.le_of_ble_eq_true rfl⟩ (Nat.le_of_ble_eq_true rfl) rfl rfl rfl ⟨Nat.zero_le _, Nat.zero_le _⟩ (t_X10_add hx13) ?_
      obtain ⟨v18, hE, hK⟩ := mx_bS hq
      have HJ : mx_Ev mx_k_X11_write mx_noS (mx_b_X11_write 37, [none, none], [.int v18], x13.2, 0, 0) (some (.int res.1), res.2) := by
        replace hq := hK
        cases hq; exact mx_e_ri rfl
      clear hK
      replace hq := hE
      by_cases hc15 : x13.1 = 0
      · rw [if_pos hc15] at hq
        refine mx_e_zt (decide_eq_true hc15) ?_
        refine mx_p_bp ?_
        refine mx_p_np ?_
        cases hq; exact mx_Ev.weak (mx_le.drop _ (mx_le.drop _ (mx_le.nil))) HJ
      · rw [if_neg hc15] at hq
        refine mx_e_zf (fun z => hc15 (of_decide_eq_true z)) ?_
        refine mx_p_aln rfl ?_
        obtain ⟨x16, hx16, hq⟩ := mx_bS hq
        refine mx_e_gr hx16 rfl ?_
        obtain ⟨x17, hx17, hq⟩ := mx_bS hq
        refine mx_e_gi hx17 (by decide) ?_
        refine mx_p_gt ?_
        cases hq; exact mx_Ev.weak (mx_le.drop _ (mx_le.drop _ (mx_le.nil))) HJ
    · rw [if_neg hc11] at hq
      refine mx_e_if (fun z => hc11 (of_decide_eq_true z)) ?_
      refine mx_p_np ?_
      refine mx_p_ic ?_
      cases hq; exact mx_e_ri rfl
set_option maxRecDepth 20000 in
set_option maxHeartbeats 1000000 in
theorem t_X11_wipe {a0 : Nat} {h : mx_Hp} {res} (hq : f_X11_wipe a0 h = some res) : mx_Ms mx_k_X11_wipe [.ref a0] h (some (.int res.1), res.2) := by
  unfold f_X11_wipe at hq
  show mx_Ev mx_k_X11_wipe mx_noS (mx_b_X11_wipe 0, [some (.ref a0), none], [], h, 0, 0) _
  refine mx_p_aln rfl ?_
  obtain ⟨x6, hx6, hq⟩ := mx_bS hq
  refine mx_e_gr hx6 rfl ?_
  obtain ⟨x7, hx7, hq⟩ := mx_bS hq
  refine mx_e_gi hx7 (by decide) ?_
  refine mx_p_isn (loc' := [some (.ref a0), some (.int x7)]) rfl ?_
  refine mx_p_aln rfl ?_
  obtain ⟨x8, hx8, hq⟩ := mx_bS hq
  refine mx_e_gr hx8 rfl ?_
  have ho10 : x8 < h.1 ∧ (mx_lay x8).1 = 13 := by
    by_cases hh : x8 < h.1 ∧ (mx_lay x8).1 = 13
    · exact hh
    · rw [if_neg hh] at hq; cases hq
  rw [if_pos ho10] at hq
  obtain ⟨x9, hx9, hq⟩ := mx_bS hq
  refine mx_e_cv mx_t_X10_clear ho10 rfl rfl rfl ⟨Nat.le_of_ble_eq_true rfl, Nat.le_of_ble_eq_true rfl, Nat.le_of_ble_eq_true rfl⟩ (Nat.le_of_ble_eq_true rfl) rfl rfl rfl ⟨Nat.zero_le _, Nat.zero_le _⟩ (t_X10_clear hx9) ?_
  refine mx_p_iln rfl ?_
  cases hq; exact mx_e_ri rfl
set_option maxRecDepth 20000 in
set_option maxHeartbeats 1000000 in
theorem t_X11_fault {a0 : Nat} {h : mx_Hp} {res} (hq : f_X11_fault a0 h = some res) : mx_Ms mx_k_X11_fault [.ref a0] h (some (.int res.1), res.2) := by
  unfold f_X11_fault at hq
  show mx_Ev mx_k_X11_fault mx_noS (mx_b_X11_fault 0, [some (.ref a0)], [], h, 0, 0) _
  refine mx_p_aln rfl ?_
  obtain ⟨x5, hx5, hq⟩ := mx_bS hq
  refine mx_e_gr hx5 rfl ?_
  refine mx_p_aln rfl ?_
  obtain ⟨x6, hx6, hq⟩ := mx_bS hq
  refine mx_e_gr hx6 rfl ?_
  have ho8 : x5 < h.1 ∧ (mx_lay x5).1 = 13 := by
    by_cases hh : x5 < h.1 ∧ (mx_lay x5).1 = 13
    · exact hh
    · rw [if_neg hh] at hq; cases hq
  rw [if_pos ho8] at hq
  obtain ⟨x7, hx7, hq⟩ := mx_bS hq
  refine mx_e_cv mx_t_X10_readInto ho8 rfl rfl rfl ⟨Nat.le_of_ble_eq_true rfl, Nat.le_of_ble_eq_true rfl, Nat.le_of_ble_eq_true rfl⟩ (Nat.le_of_ble_eq_true rfl) rfl rfl rfl ⟨Nat.zero_le _, Nat.zero_le _⟩ (t_X10_readInto hx7) ?_
  cases hq; exact mx_e_ri rfl
set_option maxRecDepth 20000 in
set_option maxHeartbeats 1000000 in
theorem t_X11_lay {a0 : Nat} {h : mx_Hp} {res} (hq : f_X11_lay a0 h = some res) : mx_Ms mx_k_X11_lay [.ref a0] h (some (.int res.1), res.2) := by
  unfold f_X11_lay at hq
  show mx_Ev mx_k_X11_lay mx_noS (mx_b_X11_lay 0, [some (.ref a0)], [], h, 0, 0) _
  refine mx_p_aln rfl ?_
  have ho4 : a0 < h.1 ∧ (mx_lay a0).1 = 14 := by
    by_cases hh : a0 < h.1 ∧ (mx_lay a0).1 = 14
    · exact hh
    · rw [if_neg hh] at hq; cases hq
  rw [if_pos ho4] at hq
  obtain ⟨x3, hx3, hq⟩ := mx_bS hq
  refine mx_e_cv mx_t_X11_layText ho4 rfl rfl rfl ⟨Nat.le_of_ble_eq_true rfl, Nat.le_of_ble_eq_true rfl, Nat.le_of_ble_eq_true rfl⟩ (Nat.le_of_ble_eq_true rfl) rfl rfl rfl ⟨Nat.zero_le _, Nat.zero_le _⟩ (t_X11_layText hx3) ?_
  cases hq; exact mx_e_ri rfl
set_option maxRecDepth 20000 in
set_option maxHeartbeats 1000000 in
theorem t_X11_word {a0 : Nat} {a1 : Int32} {a2 : Int32} {h : mx_Hp} {res} (hq : f_X11_word a0 a1 a2 h = some res) : mx_Ms mx_k_X11_word [.ref a0, .int a1, .int a2] h (some (.int res), h) := by
  unfold f_X11_word at hq
  show mx_Ev mx_k_X11_word mx_noS (mx_b_X11_word 0, [some (.ref a0), some (.int a1), some (.int a2)], [], h, 0, 0) _
  refine mx_p_aln rfl ?_
  obtain ⟨x21, hx21, hq⟩ := mx_bS hq
  refine mx_e_gr hx21 rfl ?_
  refine mx_p_iln rfl ?_
  have ho23 : x21 < h.1 ∧ (mx_lay x21).1 = 3 := by
    by_cases hh : x21 < h.1 ∧ (mx_lay x21).1 = 3
    · exact hh
    · rw [if_neg hh] at hq; cases hq
  rw [if_pos ho23] at hq
  obtain ⟨x22, hx22, hq⟩ := mx_bS hq
  refine mx_e_cv mx_t_X0_has ho23 rfl rfl rfl ⟨Nat.le_of_ble_eq_true rfl, Nat.le_of_ble_eq_true rfl, Nat.le_of_ble_eq_true rfl⟩ (Nat.le_of_ble_eq_true rfl) rfl rfl rfl ⟨Nat.zero_le _, Nat.zero_le _⟩ (t_X0_has hx22) ?_
  by_cases hc24 : ¬ x22 = 0
  · rw [if_pos hc24] at hq
    refine mx_e_zt (decide_eq_true hc24) ?_
    refine mx_p_iln rfl ?_
    by_cases hw25 : a2 = 0
    · rw [if_pos hw25] at hq
      refine mx_e_sw (mx_sw_t hw25) ?_
      refine mx_p_aln rfl ?_
      obtain ⟨x26, hx26, hq⟩ := mx_bS hq
      refine mx_e_gr hx26 rfl ?_
      refine mx_p_iln rfl ?_
      have ho28 : x26 < h.1 ∧ (mx_lay x26).1 = 3 := by
        by_cases hh : x26 < h.1 ∧ (mx_lay x26).1 = 3
        · exact hh
        · rw [if_neg hh] at hq; cases hq
      rw [if_pos ho28] at hq
      obtain ⟨x27, hx27, hq⟩ := mx_bS hq
      refine mx_e_cv mx_t_X0_kindOf ho28 rfl rfl rfl ⟨Nat.le_of_ble_eq_true rfl, Nat.le_of_ble_eq_true rfl, Nat.le_of_ble_eq_true rfl⟩ (Nat.le_of_ble_eq_true rfl) rfl rfl rfl ⟨Nat.zero_le _, Nat.zero_le _⟩ (t_X0_kindOf hx27) ?_
      cases hq; exact mx_e_ri rfl
    rw [if_neg hw25] at hq
    by_cases hw29 : a2 = 1
    · rw [if_pos hw29] at hq
      refine mx_e_sw (mx_sw_f hw25 (mx_sw_t hw29)) ?_
      refine mx_p_aln rfl ?_
      obtain ⟨x30, hx30, hq⟩ := mx_bS hq
      refine mx_e_gr hx30 rfl ?_
      refine mx_p_iln rfl ?_
      have ho32 : x30 < h.1 ∧ (mx_lay x30).1 = 3 := by
        by_cases hh : x30 < h.1 ∧ (mx_lay x30).1 = 3
        · exact hh
        · rw [if_neg hh] at hq; cases hq
      rw [if_pos ho32] at hq
      obtain ⟨x31, hx31, hq⟩ := mx_bS hq
      refine mx_e_cv mx_t_X0_worthOf ho32 rfl rfl rfl ⟨Nat.le_of_ble_eq_true rfl, Nat.le_of_ble_eq_true rfl, Nat.le_of_ble_eq_true rfl⟩ (Nat.le_of_ble_eq_true rfl) rfl rfl rfl ⟨Nat.zero_le _, Nat.zero_le _⟩ (t_X0_worthOf hx31) ?_
      cases hq; exact mx_e_ri rfl
    rw [if_neg hw29] at hq
    by_cases hw33 : a2 = 2
    · rw [if_pos hw33] at hq
      refine mx_e_sw (mx_sw_f hw25 (mx_sw_f hw29 (mx_sw_t hw33))) ?_
      refine mx_p_aln rfl ?_
      obtain ⟨x34, hx34, hq⟩ := mx_bS hq
      refine mx_e_gr hx34 rfl ?_
      refine mx_p_iln rfl ?_
      have ho36 : x34 < h.1 ∧ (mx_lay x34).1 = 3 := by
        by_cases hh : x34 < h.1 ∧ (mx_lay x34).1 = 3
        · exact hh
        · rw [if_neg hh] at hq; cases hq
      rw [if_pos ho36] at hq
      obtain ⟨x35, hx35, hq⟩ := mx_bS hq
      refine mx_e_cv mx_t_X0_behindOf ho36 rfl rfl rfl ⟨Nat.le_of_ble_eq_true rfl, Nat.le_of_ble_eq_true rfl, Nat.le_of_ble_eq_true rfl⟩ (Nat.le_of_ble_eq_true rfl) rfl rfl rfl ⟨Nat.zero_le _, Nat.zero_le _⟩ (t_X0_behindOf hx35) ?_
      cases hq; exact mx_e_ri rfl
    rw [if_neg hw33] at hq
    by_cases hw37 : a2 = 3
    · rw [if_pos hw37] at hq
      refine mx_e_sw (mx_sw_f hw25 (mx_sw_f hw29 (mx_sw_f hw33 (mx_sw_t hw37)))) ?_
      refine mx_p_aln rfl ?_
      obtain ⟨x38, hx38, hq⟩ := mx_bS hq
      refine mx_e_gr hx38 rfl ?_
      refine mx_p_iln rfl ?_
      have ho40 : x38 < h.1 ∧ (mx_lay x38).1 = 12 := by
        by_cases hh : x38 < h.1 ∧ (mx_lay x38).1 = 12
        · exact hh
        · rw [if_neg hh] at hq; cases hq
      rw [if_pos ho40] at hq
      obtain ⟨x39, hx39, hq⟩ := mx_bS hq
      refine mx_e_cv mx_t_X9_knowersOf ho40 rfl rfl rfl ⟨Nat.le_of_ble_eq_true rfl, Nat.le_of_ble_eq_true rfl, Nat.le_of_ble_eq_true rfl⟩ (Nat.le_of_ble_eq_true rfl) rfl rfl rfl ⟨Nat.zero_le _, Nat.zero_le _⟩ (t_X9_knowersOf hx39) ?_
      cases hq; exact mx_e_ri rfl
    rw [if_neg hw37] at hq
    refine mx_e_sw (mx_sw_f hw25 (mx_sw_f hw29 (mx_sw_f hw33 (mx_sw_f hw37 rfl)))) ?_
    refine mx_p_ic ?_
    cases hq; exact mx_e_ri rfl
  · rw [if_neg hc24] at hq
    refine mx_e_zf (fun z => hc24 (of_decide_eq_true z)) ?_
    refine mx_p_ic ?_
    cases hq; exact mx_e_ri rfl
set_option maxRecDepth 20000 in
set_option maxHeartbeats 1000000 in
theorem t_X11_mayor {a0 : Nat} {a1 : Int32} {a2 : Int32} {h : mx_Hp} {res} (hq : f_X11_mayor a0 a1 a2 h = some res) : mx_Ms mx_k_X11_mayor [.ref a0, .int a1, .int a2] h (some (.int res), h) := by
  unfold f_X11_mayor at hq
  show mx_Ev mx_k_X11_mayor mx_noS (mx_b_X11_mayor 0, [some (.ref a0), some (.int a1), some (.int a2), none], [], h, 0, 0) _
  refine mx_p_iln rfl ?_
  obtain ⟨x17, hx17, hq⟩ := mx_bS hq
  refine mx_e_cs mx_t_X11_isMayor rfl rfl rfl ⟨Nat.le_of_ble_eq_true rfl, Nat.le_of_ble_eq_true rfl, Nat.le_of_ble_eq_true rfl⟩ (Nat.le_of_ble_eq_true rfl) rfl rfl ⟨Nat.zero_le _, Nat.zero_le _⟩ (t_X11_isMayor hx17) ?_
  by_cases hc18 : ¬ x17 = 0
  · rw [if_pos hc18] at hq
    refine mx_e_zt (decide_eq_true hc18) ?_
    refine mx_p_aln rfl ?_
    obtain ⟨x19, hx19, hq⟩ := mx_bS hq
    refine mx_e_gr hx19 rfl ?_
    refine mx_p_iln rfl ?_
    have ho21 : x19 < h.1 ∧ (mx_lay x19).1 = 12 := by
      by_cases hh : x19 < h.1 ∧ (mx_lay x19).1 = 12
      · exact hh
      · rw [if_neg hh] at hq; cases hq
    rw [if_pos ho21] at hq
    obtain ⟨x20, hx20, hq⟩ := mx_bS hq
    refine mx_e_cv mx_t_X9_mayorOf ho21 rfl rfl rfl ⟨Nat.le_of_ble_eq_true rfl, Nat.le_of_ble_eq_true rfl, Nat.le_of_ble_eq_true rfl⟩ (Nat.le_of_ble_eq_true rfl) rfl rfl rfl ⟨Nat.zero_le _, Nat.zero_le _⟩ (t_X9_mayorOf hx20) ?_
    refine mx_p_asn (loc' := [some (.ref a0), some (.int a1), some (.int a2), some (.ref x20)]) rfl ?_
    refine mx_p_iln rfl ?_
    by_cases hw22 : a2 = 0
    · rw [if_pos hw22] at hq
      refine mx_e_sw (mx_sw_t hw22) ?_
      refine mx_p_aln rfl ?_
      obtain ⟨x23, hx23, hq⟩ := mx_bS hq
      refine mx_e_gr hx23 rfl ?_
      obtain ⟨x24, hx24, hq⟩ := mx_bS hq
      refine mx_e_gi hx24 (by decide) ?_
      refine mx_p_iln rfl ?_
      obtain ⟨v26, hE, hK⟩ := mx_bS hq
      have HJ : mx_Ev mx_k_X11_mayor mx_noS (mx_b_X11_mayor 64, [none, none, none, none], [.int v26], h, 0, 0) (some (.int res), h) := by
        replace hq := hK
        cases hq; exact mx_e_ri rfl
      clear hK
      replace hq := hE
      by_cases hc25 : ¬ x24 = a1
      · rw [if_pos hc25] at hq
        refine mx_e_it (decide_eq_true hc25) ?_
        refine mx_p_ic ?_
        refine mx_p_np ?_
        cases hq; exact mx_Ev.weak (mx_le.drop _ (mx_le.drop _ (mx_le.drop _ (mx_le.drop _ (mx_le.nil))))) HJ
      · rw [if_neg hc25] at hq
        refine mx_e_if (fun z => hc25 (of_decide_eq_true z)) ?_
        refine mx_p_ic ?_
        refine mx_p_gt ?_
        cases hq; exact mx_Ev.weak (mx_le.drop _ (mx_le.drop _ (mx_le.drop _ (mx_le.drop _ (mx_le.nil))))) HJ
    rw [if_neg hw22] at hq
    by_cases hw27 : a2 = 1
    · rw [if_pos hw27] at hq
      refine mx_e_sw (mx_sw_f hw22 (mx_sw_t hw27)) ?_
      refine mx_p_aln rfl ?_
      obtain ⟨x28, hx28, hq⟩ := mx_bS hq
      refine mx_e_gi hx28 (by decide) ?_
      cases hq; exact mx_e_ri rfl
    rw [if_neg hw27] at hq
    by_cases hw29 : a2 = 2
    · rw [if_pos hw29] at hq
      refine mx_e_sw (mx_sw_f hw22 (mx_sw_f hw27 (mx_sw_t hw29))) ?_
      refine mx_p_aln rfl ?_
      obtain ⟨x30, hx30, hq⟩ := mx_bS hq
      refine mx_e_gi hx30 (by decide) ?_
      cases hq; exact mx_e_ri rfl
    rw [if_neg hw29] at hq
    by_cases hw31 : a2 = 3
    · rw [if_pos hw31] at hq
      refine mx_e_sw (mx_sw_f hw22 (mx_sw_f hw27 (mx_sw_f hw29 (mx_sw_t hw31)))) ?_
      refine mx_p_aln rfl ?_
      obtain ⟨x32, hx32, hq⟩ := mx_bS hq
      refine mx_e_gi hx32 (by decide) ?_
      cases hq; exact mx_e_ri rfl
    rw [if_neg hw31] at hq
    refine mx_e_sw (mx_sw_f hw22 (mx_sw_f hw27 (mx_sw_f hw29 (mx_sw_f hw31 rfl)))) ?_
    refine mx_p_ic ?_
    cases hq; exact mx_e_ri rfl
  · rw [if_neg hc18] at hq
    refine mx_e_zf (fun z => hc18 (of_decide_eq_true z)) ?_
    refine mx_p_ic ?_
    cases hq; exact mx_e_ri rfl
set_option maxRecDepth 20000 in
set_option maxHeartbeats 1000000 in
theorem t_X11_said {a0 : Nat} {a1 : Int32} {h : mx_Hp} {res} (hq : f_X11_said a0 a1 h = some res) : mx_Ms mx_k_X11_said [.ref a0, .int a1] h (some (.int res), h) := by
  unfold f_X11_said at hq
  show mx_Ev mx_k_X11_said mx_noS (mx_b_X11_said 0, [some (.ref a0), some (.int a1)], [], h, 0, 0) _
  refine mx_p_iln rfl ?_
  obtain ⟨v12, hE, hK⟩ := mx_bS hq
  have HJ : mx_Ev mx_k_X11_said mx_noS (mx_b_X11_said 19, [none, none], [.int v12], h, 0, 0) (some (.int res), h) := by
    replace hq := hK
    cases hq; exact mx_e_ri rfl
  clear hK
  replace hq := hE
  by_cases hc7 : 0 ≤ a1
  · rw [if_pos hc7] at hq
    refine mx_e_zt (decide_eq_true hc7) ?_
    refine mx_p_aln rfl ?_
    obtain ⟨x8, hx8, hq⟩ := mx_bS hq
    refine mx_e_gr hx8 rfl ?_
    obtain ⟨x9, hx9, hq⟩ := mx_bS hq
    refine mx_e_gr hx9 rfl ?_
    refine mx_p_iln rfl ?_
    have ho11 : x9 < h.1 ∧ (mx_lay x9).1 = 10 := by
      by_cases hh : x9 < h.1 ∧ (mx_lay x9).1 = 10
      · exact hh
      · rw [if_neg hh] at hq; cases hq
    rw [if_pos ho11] at hq
    obtain ⟨x10, hx10, hq⟩ := mx_bS hq
    refine mx_e_cv mx_t_X7_at ho11 rfl rfl rfl ⟨Nat.le_of_ble_eq_true rfl, Nat.le_of_ble_eq_true rfl, Nat.le_of_ble_eq_true rfl⟩ (Nat.le_of_ble_eq_true rfl) rfl rfl rfl ⟨Nat.zero_le _, Nat.zero_le _⟩ (t_X7_at hx10) ?_
    refine mx_p_np ?_
    cases hq; exact mx_Ev.weak (mx_le.drop _ (mx_le.drop _ (mx_le.nil))) HJ
  · rw [if_neg hc7] at hq
    refine mx_e_zf (fun z => hc7 (of_decide_eq_true z)) ?_
    refine mx_p_ic ?_
    refine mx_p_gt ?_
    cases hq; exact mx_Ev.weak (mx_le.drop _ (mx_le.drop _ (mx_le.nil))) HJ
set_option maxRecDepth 20000 in
set_option maxHeartbeats 1000000 in
theorem t_X11_say {a0 : Nat} {a1 : Int32} {h : mx_Hp} {res} (hq : f_X11_say a0 a1 h = some res) : mx_Ms mx_k_X11_say [.ref a0, .int a1] h (some (.int res.1), res.2) := by
  unfold f_X11_say at hq
  show mx_Ev mx_k_X11_say mx_noS (mx_b_X11_say 0, [some (.ref a0), some (.int a1)], [], h, 0, 0) _
  refine mx_p_aln rfl ?_
  obtain ⟨x24, hx24, hq⟩ := mx_bS hq
  refine mx_e_gr hx24 rfl ?_
  refine mx_p_iln rfl ?_
  have ho26 : x24 < h.1 ∧ (mx_lay x24).1 = 3 := by
    by_cases hh : x24 < h.1 ∧ (mx_lay x24).1 = 3
    · exact hh
    · rw [if_neg hh] at hq; cases hq
  rw [if_pos ho26] at hq
  obtain ⟨x25, hx25, hq⟩ := mx_bS hq
  refine mx_e_cv mx_t_X0_has ho26 rfl rfl rfl ⟨Nat.le_of_ble_eq_true rfl, Nat.le_of_ble_eq_true rfl, Nat.le_of_ble_eq_true rfl⟩ (Nat.le_of_ble_eq_true rfl) rfl rfl rfl ⟨Nat.zero_le _, Nat.zero_le _⟩ (t_X0_has hx25) ?_
  by_cases hc27 : ¬ x25 = 0
  · rw [if_pos hc27] at hq
    refine mx_e_zt (decide_eq_true hc27) ?_
    refine mx_p_aln rfl ?_
    obtain ⟨x28, hx28, hq⟩ := mx_bS hq
    refine mx_e_gr hx28 rfl ?_
    refine mx_p_aln rfl ?_
    obtain ⟨x29, hx29, hq⟩ := mx_bS hq
    refine mx_e_gr hx29 rfl ?_
    refine mx_p_iln rfl ?_
    have ho31 : x28 < h.1 ∧ (mx_lay x28).1 = 12 := by
      by_cases hh : x28 < h.1 ∧ (mx_lay x28).1 = 12
      · exact hh
      · rw [if_neg hh] at hq; cases hq
    rw [if_pos ho31] at hq
    obtain ⟨x30, hx30, hq⟩ := mx_bS hq
    refine mx_e_cv mx_t_X9_fits ho31 rfl rfl rfl ⟨Nat.le_of_ble_eq_true rfl, Nat.le_of_ble_eq_true rfl, Nat.le_of_ble_eq_true rfl⟩ (Nat.le_of_ble_eq_true rfl) rfl rfl rfl ⟨Nat.zero_le _, Nat.zero_le _⟩ (t_X9_fits hx30) ?_
    by_cases hc32 : ¬ x30 = 0
    · rw [if_pos hc32] at hq
      refine mx_e_zt (decide_eq_true hc32) ?_
      refine mx_p_aln rfl ?_
      obtain ⟨x33, hx33, hq⟩ := mx_bS hq
      refine mx_e_gr hx33 rfl ?_
      obtain ⟨x34, hx34, hq⟩ := mx_bS hq
      refine mx_e_gr hx34 rfl ?_
      obtain ⟨x35, hx35, hq⟩ := mx_bS hq
      refine mx_e_gi hx35 (by decide) ?_
      refine mx_p_bp ?_
      by_cases hc36 : x35 < 12
      · rw [if_pos hc36] at hq
        refine mx_e_it (decide_eq_true hc36) ?_
        refine mx_p_aln rfl ?_
        obtain ⟨x37, hx37, hq⟩ := mx_bS hq
        refine mx_e_gr hx37 rfl ?_
        refine mx_p_aln rfl ?_
        obtain ⟨x38, hx38, hq⟩ := mx_bS hq
        refine mx_e_gr hx38 rfl ?_
        have ho40 : x37 < h.1 ∧ (mx_lay x37).1 = 9 := by
          by_cases hh : x37 < h.1 ∧ (mx_lay x37).1 = 9
          · exact hh
          · rw [if_neg hh] at hq; cases hq
        rw [if_pos ho40] at hq
        obtain ⟨x39, hx39, hq⟩ := mx_bS hq
        refine mx_e_cv mx_t_X6_put ho40 rfl rfl rfl ⟨Nat.le_of_ble_eq_true rfl, Nat.le_of_ble_eq_true rfl, Nat.le_of_ble_eq_true rfl⟩ (Nat.le_of_ble_eq_true rfl) rfl rfl rfl ⟨Nat.zero_le _, Nat.zero_le _⟩ (t_X6_put hx39) ?_
        refine mx_p_aln rfl ?_
        obtain ⟨x41, hx41, hq⟩ := mx_bS hq
        refine mx_e_gr hx41 rfl ?_
        refine mx_p_iln rfl ?_
        have ho43 : x41 < x39.1 ∧ (mx_lay x41).1 = 12 := by
          by_cases hh : x41 < x39.1 ∧ (mx_lay x41).1 = 12
          · exact hh
          · rw [if_neg hh] at hq; cases hq
        rw [if_pos ho43] at hq
        obtain ⟨x42, hx42, hq⟩ := mx_bS hq
        refine mx_e_cv mx_t_X9_speak ho43 rfl rfl rfl ⟨Nat.le_of_ble_eq_true rfl, Nat.le_of_ble_eq_true rfl, Nat.le_of_ble_eq_true rfl⟩ (Nat.le_of_ble_eq_true rfl) rfl rfl rfl ⟨Nat.zero_le _, Nat.zero_le _⟩ (t_X9_speak hx42) ?_
        refine mx_p_aln rfl ?_
        obtain ⟨x44, hx44, hq⟩ := mx_bS hq
        refine mx_e_gr hx44 rfl ?_
        obtain ⟨x45, hx45, hq⟩ := mx_bS hq
        refine mx_e_gr hx45 rfl ?_
        obtain ⟨x46, hx46, hq⟩ := mx_bS hq
        refine mx_e_gi hx46 (by decide) ?_
        cases hq; exact mx_e_ri rfl
      · rw [if_neg hc36] at hq
        refine mx_e_if (fun z => hc36 (of_decide_eq_true z)) ?_
        refine mx_p_bp ?_
        cases hq; exact mx_e_ri rfl
    · rw [if_neg hc32] at hq
      refine mx_e_zf (fun z => hc32 (of_decide_eq_true z)) ?_
      refine mx_p_bp ?_
      cases hq; exact mx_e_ri rfl
  · rw [if_neg hc27] at hq
    refine mx_e_zf (fun z => hc27 (of_decide_eq_true z)) ?_
    refine mx_p_ic ?_
    cases hq; exact mx_e_ri rfl
set_option maxRecDepth 20000 in
set_option maxHeartbeats 1000000 in
theorem t_X11_end {a0 : Nat} {h : mx_Hp} {res} (hq : f_X11_end a0 h = some res) : mx_Ms mx_k_X11_end [.ref a0] h (some (.int res.1), res.2) := by
  unfold f_X11_end at hq
  show mx_Ev mx_k_X11_end mx_noS (mx_b_X11_end 0, [some (.ref a0)], [], h, 0, 0) _
  refine mx_p_aln rfl ?_
  obtain ⟨x14, hx14, hq⟩ := mx_bS hq
  refine mx_e_gr hx14 rfl ?_
  refine mx_p_aln rfl ?_
  obtain ⟨x15, hx15, hq⟩ := mx_bS hq
  refine mx_e_gr hx15 rfl ?_
  have ho17 : x14 < h.1 ∧ (mx_lay x14).1 = 12 := by
    by_cases hh : x14 < h.1 ∧ (mx_lay x14).1 = 12
    · exact hh
    · rw [if_neg hh] at hq; cases hq
  rw [if_pos ho17] at hq
  obtain ⟨x16, hx16, hq⟩ := mx_bS hq
  refine mx_e_cv mx_t_X9_isEndable ho17 rfl rfl rfl ⟨Nat.le_of_ble_eq_true rfl, Nat.le_of_ble_eq_true rfl, Nat.le_of_ble_eq_true rfl⟩ (Nat.le_of_ble_eq_true rfl) rfl rfl rfl ⟨Nat.zero_le _, Nat.zero_le _⟩ (t_X9_isEndable hx16) ?_
  by_cases hc18 : ¬ x16 = 0
  · rw [if_pos hc18] at hq
    refine mx_e_zt (decide_eq_true hc18) ?_
    refine mx_p_aln rfl ?_
    obtain ⟨x19, hx19, hq⟩ := mx_bS hq
    refine mx_e_gr hx19 rfl ?_
    refine mx_p_aln rfl ?_
    obtain ⟨x20, hx20, hq⟩ := mx_bS hq
    refine mx_e_gr hx20 rfl ?_
    have ho22 : x19 < h.1 ∧ (mx_lay x19).1 = 9 := by
      by_cases hh : x19 < h.1 ∧ (mx_lay x19).1 = 9
      · exact hh
      · rw [if_neg hh] at hq; cases hq
    rw [if_pos ho22] at hq
    obtain ⟨x21, hx21, hq⟩ := mx_bS hq
    refine mx_e_cv mx_t_X6_put ho22 rfl rfl rfl ⟨Nat.le_of_ble_eq_true rfl, Nat.le_of_ble_eq_true rfl, Nat.le_of_ble_eq_true rfl⟩ (Nat.le_of_ble_eq_true rfl) rfl rfl rfl ⟨Nat.zero_le _, Nat.zero_le _⟩ (t_X6_put hx21) ?_
    refine mx_p_aln rfl ?_
    obtain ⟨x23, hx23, hq⟩ := mx_bS hq
    refine mx_e_gr hx23 rfl ?_
    refine mx_p_aln rfl ?_
    obtain ⟨x24, hx24, hq⟩ := mx_bS hq
    refine mx_e_gr hx24 rfl ?_
    have ho26 : x23 < x21.1 ∧ (mx_lay x23).1 = 12 := by
      by_cases hh : x23 < x21.1 ∧ (mx_lay x23).1 = 12
      · exact hh
      · rw [if_neg hh] at hq; cases hq
    rw [if_pos ho26] at hq
    obtain ⟨x25, hx25, hq⟩ := mx_bS hq
    refine mx_e_cv mx_t_X9_decree ho26 rfl rfl rfl ⟨Nat.le_of_ble_eq_true rfl, Nat.le_of_ble_eq_true rfl, Nat.le_of_ble_eq_true rfl⟩ (Nat.le_of_ble_eq_true rfl) rfl rfl rfl ⟨Nat.zero_le _, Nat.zero_le _⟩ (t_X9_decree hx25) ?_
    cases hq; exact mx_e_ri rfl
  · rw [if_neg hc18] at hq
    refine mx_e_zf (fun z => hc18 (of_decide_eq_true z)) ?_
    refine mx_p_bp ?_
    cases hq; exact mx_e_ri rfl
set_option maxRecDepth 20000 in
set_option maxHeartbeats 1000000 in
theorem t_X11_findFinishing {a0 : Nat} {h : mx_Hp} {res} (hq : f_X11_findFinishing a0 h = some res) : mx_Ms mx_k_X11_findFinishing [.ref a0] h (none, res) := by
  unfold f_X11_findFinishing at hq
  show mx_Ev mx_k_X11_findFinishing mx_noS (mx_b_X11_findFinishing 0, [some (.ref a0)], [], h, 0, 0) _
  refine mx_p_aln rfl ?_
  obtain ⟨x12, hx12, hq⟩ := mx_bS hq
  refine mx_e_gr hx12 rfl ?_
  refine mx_p_aln rfl ?_
  obtain ⟨x13, hx13, hq⟩ := mx_bS hq
  refine mx_e_gr hx13 rfl ?_
  refine mx_p_aln rfl ?_
  obtain ⟨x14, hx14, hq⟩ := mx_bS hq
  refine mx_e_gr hx14 rfl ?_
  have ho16 : x14 < h.1 ∧ (mx_lay x14).1 = 12 := by
    by_cases hh : x14 < h.1 ∧ (mx_lay x14).1 = 12
    · exact hh
    · rw [if_neg hh] at hq; cases hq
  rw [if_pos ho16] at hq
  obtain ⟨x15, hx15, hq⟩ := mx_bS hq
  refine mx_e_cv mx_t_X9_lastWord ho16 rfl rfl rfl ⟨Nat.le_of_ble_eq_true rfl, Nat.le_of_ble_eq_true rfl, Nat.le_of_ble_eq_true rfl⟩ (Nat.le_of_ble_eq_true rfl) rfl rfl rfl ⟨Nat.zero_le _, Nat.zero_le _⟩ (t_X9_lastWord hx15) ?_
  refine mx_p_aln rfl ?_
  obtain ⟨x17, hx17, hq⟩ := mx_bS hq
  refine mx_e_gr hx17 rfl ?_
  refine mx_p_aln rfl ?_
  obtain ⟨x18, hx18, hq⟩ := mx_bS hq
  refine mx_e_gr hx18 rfl ?_
  have ho20 : x17 < h.1 ∧ (mx_lay x17).1 = 12 := by
    by_cases hh : x17 < h.1 ∧ (mx_lay x17).1 = 12
    · exact hh
    · rw [if_neg hh] at hq; cases hq
  rw [if_pos ho20] at hq
  obtain ⟨x19, hx19, hq⟩ := mx_bS hq
  refine mx_e_cv mx_t_X9_sayableByOther ho20 rfl rfl rfl ⟨Nat.le_of_ble_eq_true rfl, Nat.le_of_ble_eq_true rfl, Nat.le_of_ble_eq_true rfl⟩ (Nat.le_of_ble_eq_true rfl) rfl rfl rfl ⟨Nat.zero_le _, Nat.zero_le _⟩ (t_X9_sayableByOther hx19) ?_
  have ho22 : x12 < h.1 ∧ (mx_lay x12).1 = 5 := by
    by_cases hh : x12 < h.1 ∧ (mx_lay x12).1 = 5
    · exact hh
    · rw [if_neg hh] at hq; cases hq
  rw [if_pos ho22] at hq
  obtain ⟨x21, hx21, hq⟩ := mx_bS hq
  refine mx_e_cv mx_t_X2_find ho22 rfl rfl rfl ⟨Nat.le_of_ble_eq_true rfl, Nat.le_of_ble_eq_true rfl, Nat.le_of_ble_eq_true rfl⟩ (Nat.le_of_ble_eq_true rfl) rfl rfl rfl ⟨Nat.zero_le _, Nat.zero_le _⟩ (t_X2_find hx21) ?_
  cases hq; exact mx_p_rv
set_option maxRecDepth 20000 in
set_option maxHeartbeats 1000000 in
theorem t_X11_finish {a0 : Nat} {h : mx_Hp} {res} (hq : f_X11_finish a0 h = some res) : mx_Ms mx_k_X11_finish [.ref a0] h (some (.int res.1), res.2) := by
  unfold f_X11_finish at hq
  show mx_Ev mx_k_X11_finish mx_noS (mx_b_X11_finish 0, [some (.ref a0)], [], h, 0, 0) _
  refine mx_p_aln rfl ?_
  have ho18 : a0 < h.1 ∧ (mx_lay a0).1 = 14 := by
    by_cases hh : a0 < h.1 ∧ (mx_lay a0).1 = 14
    · exact hh
    · rw [if_neg hh] at hq; cases hq
  rw [if_pos ho18] at hq
  obtain ⟨x17, hx17, hq⟩ := mx_bS hq
  refine mx_e_cv mx_t_X11_findFinishing ho18 rfl rfl rfl ⟨Nat.le_of_ble_eq_true rfl, Nat.le_of_ble_eq_true rfl, Nat.le_of_ble_eq_true rfl⟩ (Nat.le_of_ble_eq_true rfl) rfl rfl rfl ⟨Nat.zero_le _, Nat.zero_le _⟩ (t_X11_findFinishing hx17) ?_
  refine mx_p_aln rfl ?_
  obtain ⟨x19, hx19, hq⟩ := mx_bS hq
  refine mx_e_gr hx19 rfl ?_
  obtain ⟨x20, hx20, hq⟩ := mx_bS hq
  refine mx_e_gr hx20 rfl ?_
  obtain ⟨x21, hx21, hq⟩ := mx_bS hq
  refine mx_e_gi hx21 (by decide) ?_
  by_cases hc22 : ¬ x21 = 0
  · rw [if_pos hc22] at hq
    refine mx_e_zt (decide_eq_true hc22) ?_
    refine mx_p_aln rfl ?_
    obtain ⟨x23, hx23, hq⟩ := mx_bS hq
    refine mx_e_gr hx23 rfl ?_
    refine mx_p_aln rfl ?_
    obtain ⟨x24, hx24, hq⟩ := mx_bS hq
    refine mx_e_gr hx24 rfl ?_
    have ho26 : x23 < x17.1 ∧ (mx_lay x23).1 = 9 := by
      by_cases hh : x23 < x17.1 ∧ (mx_lay x23).1 = 9
      · exact hh
      · rw [if_neg hh] at hq; cases hq
    rw [if_pos ho26] at hq
    obtain ⟨x25, hx25, hq⟩ := mx_bS hq
    refine mx_e_cv mx_t_X6_put ho26 rfl rfl rfl ⟨Nat.le_of_ble_eq_true rfl, Nat.le_of_ble_eq_true rfl, Nat.le_of_ble_eq_true rfl⟩ (Nat.le_of_ble_eq_true rfl) rfl rfl rfl ⟨Nat.zero_le _, Nat.zero_le _⟩ (t_X6_put hx25) ?_
    refine mx_p_aln rfl ?_
    obtain ⟨x27, hx27, hq⟩ := mx_bS hq
    refine mx_e_gr hx27 rfl ?_
    refine mx_p_aln rfl ?_
    obtain ⟨x28, hx28, hq⟩ := mx_bS hq
    refine mx_e_gr hx28 rfl ?_
    refine mx_p_aln rfl ?_
    obtain ⟨x29, hx29, hq⟩ := mx_bS hq
    refine mx_e_gr hx29 rfl ?_
    obtain ⟨x30, hx30, hq⟩ := mx_bS hq
    refine mx_e_gr hx30 rfl ?_
    have ho32 : x27 < x25.1 ∧ (mx_lay x27).1 = 12 := by
      by_cases hh : x27 < x25.1 ∧ (mx_lay x27).1 = 12
      · exact hh
      · rw [if_neg hh] at hq; cases hq
    rw [if_pos ho32] at hq
    obtain ⟨x31, hx31, hq⟩ := mx_bS hq
    refine mx_e_cv mx_t_X9_passOver ho32 rfl rfl rfl ⟨Nat.le_of_ble_eq_true rfl, Nat.le_of_ble_eq_true rfl, Nat.le_of_ble_eq_true rfl⟩ (Nat.le_of_ble_eq_true rfl) rfl rfl rfl ⟨Nat.zero_le _, Nat.zero_le _⟩ (t_X9_passOver hx31) ?_
    cases hq; exact mx_e_ri rfl
  · rw [if_neg hc22] at hq
    refine mx_e_zf (fun z => hc22 (of_decide_eq_true z)) ?_
    refine mx_p_bp ?_
    cases hq; exact mx_e_ri rfl
set_option maxRecDepth 20000 in
set_option maxHeartbeats 1000000 in
theorem t_X11_drop {a0 : Nat} {h : mx_Hp} {res} (hq : f_X11_drop a0 h = some res) : mx_Ms mx_k_X11_drop [.ref a0] h (some (.int res.1), res.2) := by
  unfold f_X11_drop at hq
  show mx_Ev mx_k_X11_drop mx_noS (mx_b_X11_drop 0, [some (.ref a0), none], [], h, 0, 0) _
  refine mx_p_aln rfl ?_
  obtain ⟨x12, hx12, hq⟩ := mx_bS hq
  refine mx_e_gr hx12 rfl ?_
  obtain ⟨x13, hx13, hq⟩ := mx_bS hq
  refine mx_e_gr hx13 rfl ?_
  obtain ⟨x14, hx14, hq⟩ := mx_bS hq
  refine mx_e_gi hx14 (by decide) ?_
  refine mx_p_isn (loc' := [some (.ref a0), some (.int x14)]) rfl ?_
  refine mx_p_iln rfl ?_
  by_cases hc15 : ¬ x14 = 0
  · rw [if_pos hc15] at hq
    refine mx_e_zt (decide_eq_true hc15) ?_
    refine mx_p_aln rfl ?_
    obtain ⟨x16, hx16, hq⟩ := mx_bS hq
    refine mx_e_gr hx16 rfl ?_
    refine mx_p_aln rfl ?_
    obtain ⟨x17, hx17, hq⟩ := mx_bS hq
    refine mx_e_gr hx17 rfl ?_
    have ho19 : x16 < h.1 ∧ (mx_lay x16).1 = 9 := by
      by_cases hh : x16 < h.1 ∧ (mx_lay x16).1 = 9
      · exact hh
      · rw [if_neg hh] at hq; cases hq
    rw [if_pos ho19] at hq
    obtain ⟨x18, hx18, hq⟩ := mx_bS hq
    refine mx_e_cv mx_t_X6_put ho19 rfl rfl rfl ⟨Nat.le_of_ble_eq_true rfl, Nat.le_of_ble_eq_true rfl, Nat.le_of_ble_eq_true rfl⟩ (Nat.le_of_ble_eq_true rfl) rfl rfl rfl ⟨Nat.zero_le _, Nat.zero_le _⟩ (t_X6_put hx18) ?_
    refine mx_p_aln rfl ?_
    obtain ⟨x20, hx20, hq⟩ := mx_bS hq
    refine mx_e_gr hx20 rfl ?_
    have ho22 : x20 < x18.1 ∧ (mx_lay x20).1 = 12 := by
      by_cases hh : x20 < x18.1 ∧ (mx_lay x20).1 = 12
      · exact hh
      · rw [if_neg hh] at hq; cases hq
    rw [if_pos ho22] at hq
    obtain ⟨x21, hx21, hq⟩ := mx_bS hq
    refine mx_e_cv mx_t_X9_letFall ho22 rfl rfl rfl ⟨Nat.le_of_ble_eq_true rfl, Nat.le_of_ble_eq_true rfl, Nat.le_of_ble_eq_true rfl⟩ (Nat.le_of_ble_eq_true rfl) rfl rfl rfl ⟨Nat.zero_le _, Nat.zero_le _⟩ (t_X9_letFall hx21) ?_
    refine mx_p_iln rfl ?_
    cases hq; exact mx_e_ri rfl
  · rw [if_neg hc15] at hq
    refine mx_e_zf (fun z => hc15 (of_decide_eq_true z)) ?_
    refine mx_p_bp ?_
    cases hq; exact mx_e_ri rfl
set_option maxRecDepth 20000 in
set_option maxHeartbeats 1000000 in
theorem t_X11_learn {a0 : Nat} {a1 : Int32} {a2 : Int32} {h : mx_Hp} {res} (hq : f_X11_learn a0 a1 a2 h = some res) : mx_Ms mx_k_X11_learn [.ref a0, .int a1, .int a2] h (some (.int res.1), res.2) := by
  unfold f_X11_learn at hq
  show mx_Ev mx_k_X11_learn mx_noS (mx_b_X11_learn 0, [some (.ref a0), some (.int a1), some (.int a2), none], [], h, 0, 0) _
  refine mx_p_iln rfl ?_
  obtain ⟨x21, hx21, hq⟩ := mx_bS hq
  refine mx_e_cs mx_t_X11_isMayor rfl rfl rfl ⟨Nat.le_of_ble_eq_true rfl, Nat.le_of_ble_eq_true rfl, Nat.le_of_ble_eq_true rfl⟩ (Nat.le_of_ble_eq_true rfl) rfl rfl ⟨Nat.zero_le _, Nat.zero_le _⟩ (t_X11_isMayor hx21) ?_
  by_cases hc22 : x21 = 0
  · rw [if_pos hc22] at hq
    refine mx_e_zt (decide_eq_true hc22) ?_
    refine mx_p_ic ?_
    cases hq; exact mx_e_ri rfl
  · rw [if_neg hc22] at hq
    refine mx_e_zf (fun z => hc22 (of_decide_eq_true z)) ?_
    refine mx_p_aln rfl ?_
    obtain ⟨x23, hx23, hq⟩ := mx_bS hq
    refine mx_e_gr hx23 rfl ?_
    refine mx_p_iln rfl ?_
    have ho25 : x23 < h.1 ∧ (mx_lay x23).1 = 3 := by
      by_cases hh : x23 < h.1 ∧ (mx_lay x23).1 = 3
      · exact hh
      · rw [if_neg hh] at hq; cases hq
    rw [if_pos ho25] at hq
    obtain ⟨x24, hx24, hq⟩ := mx_bS hq
    refine mx_e_cv mx_t_X0_has ho25 rfl rfl rfl ⟨Nat.le_of_ble_eq_true rfl, Nat.le_of_ble_eq_true rfl, Nat.le_of_ble_eq_true rfl⟩ (Nat.le_of_ble_eq_true rfl) rfl rfl rfl ⟨Nat.zero_le _, Nat.zero_le _⟩ (t_X0_has hx24) ?_
    by_cases hc26 : ¬ x24 = 0
    · rw [if_pos hc26] at hq
      refine mx_e_zt (decide_eq_true hc26) ?_
      refine mx_p_aln rfl ?_
      obtain ⟨x27, hx27, hq⟩ := mx_bS hq
      refine mx_e_gr hx27 rfl ?_
      refine mx_p_aln rfl ?_
      obtain ⟨x28, hx28, hq⟩ := mx_bS hq
      refine mx_e_gr hx28 rfl ?_
      have ho30 : x27 < h.1 ∧ (mx_lay x27).1 = 9 := by
        by_cases hh : x27 < h.1 ∧ (mx_lay x27).1 = 9
        · exact hh
        · rw [if_neg hh] at hq; cases hq
      rw [if_pos ho30] at hq
      obtain ⟨x29, hx29, hq⟩ := mx_bS hq
      refine mx_e_cv mx_t_X6_put ho30 rfl rfl rfl ⟨Nat.le_of_ble_eq_true rfl, Nat.le_of_ble_eq_true rfl, Nat.le_of_ble_eq_true rfl⟩ (Nat.le_of_ble_eq_true rfl) rfl rfl rfl ⟨Nat.zero_le _, Nat.zero_le _⟩ (t_X6_put hx29) ?_
      refine mx_p_aln rfl ?_
      obtain ⟨x31, hx31, hq⟩ := mx_bS hq
      refine mx_e_gr hx31 rfl ?_
      refine mx_p_iln rfl ?_
      have ho33 : x31 < x29.1 ∧ (mx_lay x31).1 = 12 := by
        by_cases hh : x31 < x29.1 ∧ (mx_lay x31).1 = 12
        · exact hh
        · rw [if_neg hh] at hq; cases hq
      rw [if_pos ho33] at hq
      obtain ⟨x32, hx32, hq⟩ := mx_bS hq
      refine mx_e_cv mx_t_X9_mayorOf ho33 rfl rfl rfl ⟨Nat.le_of_ble_eq_true rfl, Nat.le_of_ble_eq_true rfl, Nat.le_of_ble_eq_true rfl⟩ (Nat.le_of_ble_eq_true rfl) rfl rfl rfl ⟨Nat.zero_le _, Nat.zero_le _⟩ (t_X9_mayorOf hx32) ?_
      refine mx_p_asn (loc' := [some (.ref a0), some (.int a1), some (.int a2), some (.ref x32)]) rfl ?_
      refine mx_p_aln rfl ?_
      refine mx_p_dup rfl ?_
      obtain ⟨x34, hx34, hq⟩ := mx_bS hq
      refine mx_e_gi hx34 (by decide) ?_
      refine mx_p_iln rfl ?_
      obtain ⟨x35, hx35, hq⟩ := mx_bS hq
      refine mx_e_cs mx_t_X11_bit rfl rfl rfl ⟨Nat.le_of_ble_eq_true rfl, Nat.le_of_ble_eq_true rfl, Nat.le_of_ble_eq_true rfl⟩ (Nat.le_of_ble_eq_true rfl) rfl rfl ⟨Nat.zero_le _, Nat.zero_le _⟩ (t_X11_bit hx35) ?_
      refine mx_p_ixor ?_
      obtain ⟨h36, hh36, hq⟩ := mx_bS hq
      refine mx_e_pi hh36 ?_
      refine mx_p_aln rfl ?_
      obtain ⟨x37, hx37, hq⟩ := mx_bS hq
      refine mx_e_gi hx37 (by decide) ?_
      refine mx_p_iln rfl ?_
      obtain ⟨x38, hx38, hq⟩ := mx_bS hq
      refine mx_e_cs mx_t_X11_bit rfl rfl rfl ⟨Nat.le_of_ble_eq_true rfl, Nat.le_of_ble_eq_true rfl, Nat.le_of_ble_eq_true rfl⟩ (Nat.le_of_ble_eq_true rfl) rfl rfl ⟨Nat.zero_le _, Nat.zero_le _⟩ (t_X11_bit hx38) ?_
      refine mx_p_iand ?_
      obtain ⟨v40, hE, hK⟩ := mx_bS hq
      have HJ : mx_Ev mx_k_X11_learn mx_noS (mx_b_X11_learn 70, [none, none, none, none], [.int v40], h36, 0, 0) (some (.int res.1), res.2) := by
        replace hq := hK
        cases hq; exact mx_e_ri rfl
      clear hK
      replace hq := hE
      by_cases hc39 : (x37 &&& x38) = 0
      · rw [if_pos hc39] at hq
        refine mx_e_zt (decide_eq_true hc39) ?_
        refine mx_p_ic ?_
        refine mx_p_np ?_
        cases hq; exact mx_Ev.weak (mx_le.drop _ (mx_le.drop _ (mx_le.drop _ (mx_le.drop _ (mx_le.nil))))) HJ
      · rw [if_neg hc39] at hq
        refine mx_e_zf (fun z => hc39 (of_decide_eq_true z)) ?_
        refine mx_p_ic ?_
        refine mx_p_gt ?_
        cases hq; exact mx_Ev.weak (mx_le.drop _ (mx_le.drop _ (mx_le.drop _ (mx_le.drop _ (mx_le.nil))))) HJ
    · rw [if_neg hc26] at hq
      refine mx_e_zf (fun z => hc26 (of_decide_eq_true z)) ?_
      refine mx_p_np ?_
      refine mx_p_ic ?_
      cases hq; exact mx_e_ri rfl
set_option maxRecDepth 20000 in
set_option maxHeartbeats 1000000 in
theorem t_X11_undo {a0 : Nat} {h : mx_Hp} {res} (hq : f_X11_undo a0 h = some res) : mx_Ms mx_k_X11_undo [.ref a0] h (some (.int res.1), res.2) := by
  unfold f_X11_undo at hq
  show mx_Ev mx_k_X11_undo mx_noS (mx_b_X11_undo 0, [some (.ref a0)], [], h, 0, 0) _
  refine mx_p_aln rfl ?_
  obtain ⟨x9, hx9, hq⟩ := mx_bS hq
  refine mx_e_gr hx9 rfl ?_
  refine mx_p_aln rfl ?_
  obtain ⟨x10, hx10, hq⟩ := mx_bS hq
  refine mx_e_gr hx10 rfl ?_
  have ho12 : x9 < h.1 ∧ (mx_lay x9).1 = 9 := by
    by_cases hh : x9 < h.1 ∧ (mx_lay x9).1 = 9
    · exact hh
    · rw [if_neg hh] at hq; cases hq
  rw [if_pos ho12] at hq
  obtain ⟨x11, hx11, hq⟩ := mx_bS hq
  refine mx_e_cv mx_t_X6_takeInto ho12 rfl rfl rfl ⟨Nat.le_of_ble_eq_true rfl, Nat.le_of_ble_eq_true rfl, Nat.le_of_ble_eq_true rfl⟩ (Nat.le_of_ble_eq_true rfl) rfl rfl rfl ⟨Nat.zero_le _, Nat.zero_le _⟩ (t_X6_takeInto hx11) ?_
  obtain ⟨v16, hE, hK⟩ := mx_bS hq
  have HJ : mx_Ev mx_k_X11_undo mx_noS (mx_b_X11_undo 26, [none], [.int v16], x11.2, 0, 0) (some (.int res.1), res.2) := by
    replace hq := hK
    cases hq; exact mx_e_ri rfl
  clear hK
  replace hq := hE
  by_cases hc13 : x11.1 = 0
  · rw [if_pos hc13] at hq
    refine mx_e_zt (decide_eq_true hc13) ?_
    refine mx_p_bp ?_
    refine mx_p_np ?_
    cases hq; exact mx_Ev.weak (mx_le.drop _ (mx_le.nil)) HJ
  · rw [if_neg hc13] at hq
    refine mx_e_zf (fun z => hc13 (of_decide_eq_true z)) ?_
    refine mx_p_aln rfl ?_
    obtain ⟨x14, hx14, hq⟩ := mx_bS hq
    refine mx_e_gr hx14 rfl ?_
    obtain ⟨x15, hx15, hq⟩ := mx_bS hq
    refine mx_e_gi hx15 (by decide) ?_
    refine mx_p_gt ?_
    cases hq; exact mx_Ev.weak (mx_le.drop _ (mx_le.nil)) HJ
set_option maxRecDepth 20000 in
set_option maxHeartbeats 1000000 in
theorem t_X11_told {a0 : Nat} {a1 : Int32} {h : mx_Hp} {res} (hq : f_X11_told a0 a1 h = some res) : mx_Ms mx_k_X11_told [.ref a0, .int a1] h (some (.int res), h) := by
  unfold f_X11_told at hq
  show mx_Ev mx_k_X11_told mx_noS (mx_b_X11_told 0, [some (.ref a0), some (.int a1)], [], h, 0, 0) _
  refine mx_p_aln rfl ?_
  obtain ⟨x8, hx8, hq⟩ := mx_bS hq
  refine mx_e_gi hx8 (by decide) ?_
  by_cases hc9 : ¬ x8 = 0
  · rw [if_pos hc9] at hq
    refine mx_e_zt (decide_eq_true hc9) ?_
    refine mx_p_iln rfl ?_
    refine mx_p_ic ?_
    obtain ⟨v14, hE, hK⟩ := mx_bS hq
    have HJ : mx_Ev mx_k_X11_told mx_noS (mx_b_X11_told 27, [none, none], [.int v14], h, 0, 0) (some (.int res), h) := by
      replace hq := hK
      cases hq; exact mx_e_ri rfl
    clear hK
    replace hq := hE
    by_cases hc10 : ¬ a1 = (-1)
    · rw [if_pos hc10] at hq
      refine mx_e_it (decide_eq_true hc10) ?_
      refine mx_p_aln rfl ?_
      refine mx_p_iln rfl ?_
      have ho12 : a0 < h.1 ∧ (mx_lay a0).1 = 10 := by
        by_cases hh : a0 < h.1 ∧ (mx_lay a0).1 = 10
        · exact hh
        · rw [if_neg hh] at hq; cases hq
      rw [if_pos ho12] at hq
      obtain ⟨x11, hx11, hq⟩ := mx_bS hq
      refine mx_e_cv mx_t_X7_at ho12 rfl rfl rfl ⟨Nat.le_of_ble_eq_true rfl, Nat.le_of_ble_eq_true rfl, Nat.le_of_ble_eq_true rfl⟩ (Nat.le_of_ble_eq_true rfl) rfl rfl rfl ⟨Nat.zero_le _, Nat.zero_le _⟩ (t_X7_at hx11) ?_
      refine mx_p_np ?_
      cases hq; exact mx_Ev.weak (mx_le.drop _ (mx_le.drop _ (mx_le.nil))) HJ
    · rw [if_neg hc10] at hq
      refine mx_e_if (fun z => hc10 (of_decide_eq_true z)) ?_
      refine mx_p_aln rfl ?_
      obtain ⟨x13, hx13, hq⟩ := mx_bS hq
      refine mx_e_gi hx13 (by decide) ?_
      refine mx_p_gt ?_
      cases hq; exact mx_Ev.weak (mx_le.drop _ (mx_le.drop _ (mx_le.nil))) HJ
  · rw [if_neg hc9] at hq
    refine mx_e_zf (fun z => hc9 (of_decide_eq_true z)) ?_
    refine mx_p_bp ?_
    cases hq; exact mx_e_ri rfl
set_option maxRecDepth 20000 in
set_option maxHeartbeats 1000000 in
theorem t_X11_finishing {a0 : Nat} {a1 : Int32} {h : mx_Hp} {res} (hq : f_X11_finishing a0 a1 h = some res) : mx_Ms mx_k_X11_finishing [.ref a0, .int a1] h (some (.int res.1), res.2) := by
  unfold f_X11_finishing at hq
  show mx_Ev mx_k_X11_finishing mx_noS (mx_b_X11_finishing 0, [some (.ref a0), some (.int a1)], [], h, 0, 0) _
  refine mx_p_iln rfl ?_
  refine mx_p_ic ?_
  by_cases hc8 : a1 < (-1)
  · rw [if_pos hc8] at hq
    refine mx_e_it (decide_eq_true hc8) ?_
    refine mx_p_ic ?_
    cases hq; exact mx_e_ri rfl
  · rw [if_neg hc8] at hq
    refine mx_e_if (fun z => hc8 (of_decide_eq_true z)) ?_
    refine mx_p_iln rfl ?_
    refine mx_p_ic ?_
    by_cases hc9 : a1 < 4
    · rw [if_pos hc9] at hq
      refine mx_e_it (decide_eq_true hc9) ?_
      refine mx_p_aln rfl ?_
      have ho11 : a0 < h.1 ∧ (mx_lay a0).1 = 14 := by
        by_cases hh : a0 < h.1 ∧ (mx_lay a0).1 = 14
        · exact hh
        · rw [if_neg hh] at hq; cases hq
      rw [if_pos ho11] at hq
      obtain ⟨x10, hx10, hq⟩ := mx_bS hq
      refine mx_e_cv mx_t_X11_findFinishing ho11 rfl rfl rfl ⟨Nat.le_of_ble_eq_true rfl, Nat.le_of_ble_eq_true rfl, Nat.le_of_ble_eq_true rfl⟩ (Nat.le_of_ble_eq_true rfl) rfl rfl rfl ⟨Nat.zero_le _, Nat.zero_le _⟩ (t_X11_findFinishing hx10) ?_
      refine mx_p_aln rfl ?_
      obtain ⟨x12, hx12, hq⟩ := mx_bS hq
      refine mx_e_gr hx12 rfl ?_
      obtain ⟨x13, hx13, hq⟩ := mx_bS hq
      refine mx_e_gr hx13 rfl ?_
      refine mx_p_iln rfl ?_
      obtain ⟨x14, hx14, hq⟩ := mx_bS hq
      refine mx_e_cs mx_t_X11_told rfl rfl rfl ⟨Nat.le_of_ble_eq_true rfl, Nat.le_of_ble_eq_true rfl, Nat.le_of_ble_eq_true rfl⟩ (Nat.le_of_ble_eq_true rfl) rfl rfl ⟨Nat.zero_le _, Nat.zero_le _⟩ (t_X11_told hx14) ?_
      cases hq; exact mx_e_ri rfl
    · rw [if_neg hc9] at hq
      refine mx_e_if (fun z => hc9 (of_decide_eq_true z)) ?_
      refine mx_p_np ?_
      refine mx_p_ic ?_
      cases hq; exact mx_e_ri rfl
set_option maxRecDepth 20000 in
set_option maxHeartbeats 1000000 in
theorem t_X11_safe {a0 : Nat} {a1 : Int32} {a2 : Int32} {h : mx_Hp} {res} (hq : f_X11_safe a0 a1 a2 h = some res) : mx_Ms mx_k_X11_safe [.ref a0, .int a1, .int a2] h (some (.int res.1), res.2) := by
  unfold f_X11_safe at hq
  show mx_Ev mx_k_X11_safe mx_noS (mx_b_X11_safe 0, [some (.ref a0), some (.int a1), some (.int a2)], [], h, 0, 0) _
  refine mx_p_aln rfl ?_
  obtain ⟨x15, hx15, hq⟩ := mx_bS hq
  refine mx_e_gr hx15 rfl ?_
  refine mx_p_iln rfl ?_
  have ho17 : x15 < h.1 ∧ (mx_lay x15).1 = 3 := by
    by_cases hh : x15 < h.1 ∧ (mx_lay x15).1 = 3
    · exact hh
    · rw [if_neg hh] at hq; cases hq
  rw [if_pos ho17] at hq
  obtain ⟨x16, hx16, hq⟩ := mx_bS hq
  refine mx_e_cv mx_t_X0_has ho17 rfl rfl rfl ⟨Nat.le_of_ble_eq_true rfl, Nat.le_of_ble_eq_true rfl, Nat.le_of_ble_eq_true rfl⟩ (Nat.le_of_ble_eq_true rfl) rfl rfl rfl ⟨Nat.zero_le _, Nat.zero_le _⟩ (t_X0_has hx16) ?_
  by_cases hc18 : x16 = 0
  · rw [if_pos hc18] at hq
    refine mx_e_zt (decide_eq_true hc18) ?_
    refine mx_p_ic ?_
    cases hq; exact mx_e_ri rfl
  · rw [if_neg hc18] at hq
    refine mx_e_zf (fun z => hc18 (of_decide_eq_true z)) ?_
    refine mx_p_iln rfl ?_
    refine mx_p_ic ?_
    by_cases hc19 : a2 < (-1)
    · rw [if_pos hc19] at hq
      refine mx_e_it (decide_eq_true hc19) ?_
      refine mx_p_ic ?_
      cases hq; exact mx_e_ri rfl
    · rw [if_neg hc19] at hq
      refine mx_e_if (fun z => hc19 (of_decide_eq_true z)) ?_
      refine mx_p_iln rfl ?_
      refine mx_p_bp ?_
      by_cases hc20 : a2 < 10
      · rw [if_pos hc20] at hq
        refine mx_e_it (decide_eq_true hc20) ?_
        refine mx_p_aln rfl ?_
        obtain ⟨x21, hx21, hq⟩ := mx_bS hq
        refine mx_e_gr hx21 rfl ?_
        refine mx_p_aln rfl ?_
        obtain ⟨x22, hx22, hq⟩ := mx_bS hq
        refine mx_e_gr hx22 rfl ?_
        refine mx_p_aln rfl ?_
        obtain ⟨x23, hx23, hq⟩ := mx_bS hq
        refine mx_e_gr hx23 rfl ?_
        refine mx_p_iln rfl ?_
        have ho25 : x21 < h.1 ∧ (mx_lay x21).1 = 11 := by
          by_cases hh : x21 < h.1 ∧ (mx_lay x21).1 = 11
          · exact hh
          · rw [if_neg hh] at hq; cases hq
        rw [if_pos ho25] at hq
        obtain ⟨x24, hx24, hq⟩ := mx_bS hq
        refine mx_e_cv mx_t_X8_findSafe ho25 rfl rfl rfl ⟨Nat.le_of_ble_eq_true rfl, Nat.le_of_ble_eq_true rfl, Nat.le_of_ble_eq_true rfl⟩ (Nat.le_of_ble_eq_true rfl) rfl rfl rfl ⟨Nat.zero_le _, Nat.zero_le _⟩ (t_X8_findSafe hx24) ?_
        refine mx_p_aln rfl ?_
        obtain ⟨x26, hx26, hq⟩ := mx_bS hq
        refine mx_e_gr hx26 rfl ?_
        obtain ⟨x27, hx27, hq⟩ := mx_bS hq
        refine mx_e_gr hx27 rfl ?_
        refine mx_p_iln rfl ?_
        obtain ⟨x28, hx28, hq⟩ := mx_bS hq
        refine mx_e_cs mx_t_X11_told rfl rfl rfl ⟨Nat.le_of_ble_eq_true rfl, Nat.le_of_ble_eq_true rfl, Nat.le_of_ble_eq_true rfl⟩ (Nat.le_of_ble_eq_true rfl) rfl rfl ⟨Nat.zero_le _, Nat.zero_le _⟩ (t_X11_told hx28) ?_
        cases hq; exact mx_e_ri rfl
      · rw [if_neg hc20] at hq
        refine mx_e_if (fun z => hc20 (of_decide_eq_true z)) ?_
        refine mx_p_np ?_
        refine mx_p_ic ?_
        cases hq; exact mx_e_ri rfl
set_option maxRecDepth 20000 in
set_option maxHeartbeats 1000000 in
theorem t_X11_best {a0 : Nat} {a1 : Int32} {a2 : Int32} {h : mx_Hp} {res} (hq : f_X11_best a0 a1 a2 h = some res) : mx_Ms mx_k_X11_best [.ref a0, .int a1, .int a2] h (some (.int res.1), res.2) := by
  unfold f_X11_best at hq
  show mx_Ev mx_k_X11_best mx_noS (mx_b_X11_best 0, [some (.ref a0), some (.int a1), some (.int a2), none], [], h, 0, 0) _
  refine mx_p_iln rfl ?_
  refine mx_p_ic ?_
  by_cases hc24 : a1 < 1
  · rw [if_pos hc24] at hq
    refine mx_e_it (decide_eq_true hc24) ?_
    refine mx_p_ic ?_
    cases hq; exact mx_e_ri rfl
  · rw [if_neg hc24] at hq
    refine mx_e_if (fun z => hc24 (of_decide_eq_true z)) ?_
    refine mx_p_iln rfl ?_
    refine mx_p_bp ?_
    by_cases hc25 : 10 < a1
    · rw [if_pos hc25] at hq
      refine mx_e_it (decide_eq_true hc25) ?_
      refine mx_p_ic ?_
      cases hq; exact mx_e_ri rfl
    · rw [if_neg hc25] at hq
      refine mx_e_if (fun z => hc25 (of_decide_eq_true z)) ?_
      refine mx_p_iln rfl ?_
      refine mx_p_bp ?_
      by_cases hc26 : a2 < (-2)
      · rw [if_pos hc26] at hq
        refine mx_e_it (decide_eq_true hc26) ?_
        refine mx_p_ic ?_
        cases hq; exact mx_e_ri rfl
      · rw [if_neg hc26] at hq
        refine mx_e_if (fun z => hc26 (of_decide_eq_true z)) ?_
        refine mx_p_iln rfl ?_
        refine mx_p_bp ?_
        by_cases hc27 : a2 < 10
        · rw [if_pos hc27] at hq
          refine mx_e_it (decide_eq_true hc27) ?_
          refine mx_p_aln rfl ?_
          obtain ⟨x28, hx28, hq⟩ := mx_bS hq
          refine mx_e_gr hx28 rfl ?_
          refine mx_p_aln rfl ?_
          obtain ⟨x29, hx29, hq⟩ := mx_bS hq
          refine mx_e_gr hx29 rfl ?_
          refine mx_p_aln rfl ?_
          obtain ⟨x30, hx30, hq⟩ := mx_bS hq
          refine mx_e_gr hx30 rfl ?_
          refine mx_p_iln rfl ?_
          have ho32 : x28 < h.1 ∧ (mx_lay x28).1 = 11 := by
            by_cases hh : x28 < h.1 ∧ (mx_lay x28).1 = 11
            · exact hh
            · rw [if_neg hh] at hq; cases hq
          rw [if_pos ho32] at hq
          obtain ⟨x31, hx31, hq⟩ := mx_bS hq
          refine mx_e_cv mx_t_X8_findBest ho32 rfl rfl rfl ⟨Nat.le_of_ble_eq_true rfl, Nat.le_of_ble_eq_true rfl, Nat.le_of_ble_eq_true rfl⟩ (Nat.le_of_ble_eq_true rfl) rfl rfl rfl ⟨Nat.zero_le _, Nat.zero_le _⟩ (t_X8_findBest hx31) ?_
          refine mx_p_isn (loc' := [some (.ref a0), some (.int a1), some (.int a2), some (.int x31.1)]) rfl ?_
          refine mx_p_aln rfl ?_
          obtain ⟨x33, hx33, hq⟩ := mx_bS hq
          refine mx_e_gr hx33 rfl ?_
          obtain ⟨x34, hx34, hq⟩ := mx_bS hq
          refine mx_e_gr hx34 rfl ?_
          obtain ⟨x35, hx35, hq⟩ := mx_bS hq
          refine mx_e_gi hx35 (by decide) ?_
          by_cases hc36 : ¬ x35 = 0
          · rw [if_pos hc36] at hq
            refine mx_e_zt (decide_eq_true hc36) ?_
            refine mx_p_iln rfl ?_
            refine mx_p_bp ?_
            by_cases hc37 : ¬ a2 = (-2)
            · rw [if_pos hc37] at hq
              refine mx_e_it (decide_eq_true hc37) ?_
              refine mx_p_iln rfl ?_
              refine mx_p_ic ?_
              obtain ⟨v43, hE, hK⟩ := mx_bS hq
              have HJ : mx_Ev mx_k_X11_best mx_noS (mx_b_X11_best 95, [none, none, none, none], [.int v43], x31.2, 0, 0) (some (.int res.1), res.2) := by
                replace hq := hK
                cases hq; exact mx_e_ri rfl
              clear hK
              replace hq := hE
              by_cases hc38 : ¬ a2 = (-1)
              · rw [if_pos hc38] at hq
                refine mx_e_it (decide_eq_true hc38) ?_
                refine mx_p_aln rfl ?_
                obtain ⟨x39, hx39, hq⟩ := mx_bS hq
                refine mx_e_gr hx39 rfl ?_
                obtain ⟨x40, hx40, hq⟩ := mx_bS hq
                refine mx_e_gr hx40 rfl ?_
                refine mx_p_iln rfl ?_
                have ho42 : x40 < x31.2.1 ∧ (mx_lay x40).1 = 10 := by
                  by_cases hh : x40 < x31.2.1 ∧ (mx_lay x40).1 = 10
                  · exact hh
                  · rw [if_neg hh] at hq; cases hq
                rw [if_pos ho42] at hq
                obtain ⟨x41, hx41, hq⟩ := mx_bS hq
                refine mx_e_cv mx_t_X7_at ho42 rfl rfl rfl ⟨Nat.le_of_ble_eq_true rfl, Nat.le_of_ble_eq_true rfl, Nat.le_of_ble_eq_true rfl⟩ (Nat.le_of_ble_eq_true rfl) rfl rfl rfl ⟨Nat.zero_le _, Nat.zero_le _⟩ (t_X7_at hx41) ?_
                refine mx_p_np ?_
                cases hq; exact mx_Ev.weak (mx_le.drop _ (mx_le.drop _ (mx_le.drop _ (mx_le.drop _ (mx_le.nil))))) HJ
              · rw [if_neg hc38] at hq
                refine mx_e_if (fun z => hc38 (of_decide_eq_true z)) ?_
                refine mx_p_iln rfl ?_
                refine mx_p_gt ?_
                cases hq; exact mx_Ev.weak (mx_le.drop _ (mx_le.drop _ (mx_le.drop _ (mx_le.drop _ (mx_le.nil))))) HJ
            · rw [if_neg hc37] at hq
              refine mx_e_if (fun z => hc37 (of_decide_eq_true z)) ?_
              refine mx_p_aln rfl ?_
              obtain ⟨x44, hx44, hq⟩ := mx_bS hq
              refine mx_e_gr hx44 rfl ?_
              obtain ⟨x45, hx45, hq⟩ := mx_bS hq
              refine mx_e_gr hx45 rfl ?_
              obtain ⟨x46, hx46, hq⟩ := mx_bS hq
              refine mx_e_gi hx46 (by decide) ?_
              cases hq; exact mx_e_ri rfl
          · rw [if_neg hc36] at hq
            refine mx_e_zf (fun z => hc36 (of_decide_eq_true z)) ?_
            refine mx_p_bp ?_
            cases hq; exact mx_e_ri rfl
        · rw [if_neg hc27] at hq
          refine mx_e_if (fun z => hc27 (of_decide_eq_true z)) ?_
          refine mx_p_np ?_
          refine mx_p_ic ?_
          cases hq; exact mx_e_ri rfl
set_option maxRecDepth 20000 in
set_option maxHeartbeats 1000000 in
theorem t_X11_lure {a0 : Nat} {a1 : Int32} {a2 : Int32} {h : mx_Hp} {res} (hq : f_X11_lure a0 a1 a2 h = some res) : mx_Ms mx_k_X11_lure [.ref a0, .int a1, .int a2] h (some (.int res.1), res.2) := by
  unfold f_X11_lure at hq
  show mx_Ev mx_k_X11_lure mx_noS (mx_b_X11_lure 0, [some (.ref a0), some (.int a1), some (.int a2)], [], h, 0, 0) _
  refine mx_p_aln rfl ?_
  obtain ⟨x15, hx15, hq⟩ := mx_bS hq
  refine mx_e_gr hx15 rfl ?_
  refine mx_p_iln rfl ?_
  have ho17 : x15 < h.1 ∧ (mx_lay x15).1 = 3 := by
    by_cases hh : x15 < h.1 ∧ (mx_lay x15).1 = 3
    · exact hh
    · rw [if_neg hh] at hq; cases hq
  rw [if_pos ho17] at hq
  obtain ⟨x16, hx16, hq⟩ := mx_bS hq
  refine mx_e_cv mx_t_X0_has ho17 rfl rfl rfl ⟨Nat.le_of_ble_eq_true rfl, Nat.le_of_ble_eq_true rfl, Nat.le_of_ble_eq_true rfl⟩ (Nat.le_of_ble_eq_true rfl) rfl rfl rfl ⟨Nat.zero_le _, Nat.zero_le _⟩ (t_X0_has hx16) ?_
  by_cases hc18 : x16 = 0
  · rw [if_pos hc18] at hq
    refine mx_e_zt (decide_eq_true hc18) ?_
    refine mx_p_ic ?_
    cases hq; exact mx_e_ri rfl
  · rw [if_neg hc18] at hq
    refine mx_e_zf (fun z => hc18 (of_decide_eq_true z)) ?_
    refine mx_p_iln rfl ?_
    refine mx_p_ic ?_
    by_cases hc19 : a2 < (-1)
    · rw [if_pos hc19] at hq
      refine mx_e_it (decide_eq_true hc19) ?_
      refine mx_p_ic ?_
      cases hq; exact mx_e_ri rfl
    · rw [if_neg hc19] at hq
      refine mx_e_if (fun z => hc19 (of_decide_eq_true z)) ?_
      refine mx_p_iln rfl ?_
      refine mx_p_bp ?_
      by_cases hc20 : a2 < 10
      · rw [if_pos hc20] at hq
        refine mx_e_it (decide_eq_true hc20) ?_
        refine mx_p_aln rfl ?_
        obtain ⟨x21, hx21, hq⟩ := mx_bS hq
        refine mx_e_gr hx21 rfl ?_
        refine mx_p_aln rfl ?_
        obtain ⟨x22, hx22, hq⟩ := mx_bS hq
        refine mx_e_gr hx22 rfl ?_
        refine mx_p_aln rfl ?_
        obtain ⟨x23, hx23, hq⟩ := mx_bS hq
        refine mx_e_gr hx23 rfl ?_
        refine mx_p_iln rfl ?_
        have ho25 : x21 < h.1 ∧ (mx_lay x21).1 = 11 := by
          by_cases hh : x21 < h.1 ∧ (mx_lay x21).1 = 11
          · exact hh
          · rw [if_neg hh] at hq; cases hq
        rw [if_pos ho25] at hq
        obtain ⟨x24, hx24, hq⟩ := mx_bS hq
        refine mx_e_cv mx_t_X8_findLure ho25 rfl rfl rfl ⟨Nat.le_of_ble_eq_true rfl, Nat.le_of_ble_eq_true rfl, Nat.le_of_ble_eq_true rfl⟩ (Nat.le_of_ble_eq_true rfl) rfl rfl rfl ⟨Nat.zero_le _, Nat.zero_le _⟩ (t_X8_findLure hx24) ?_
        refine mx_p_aln rfl ?_
        obtain ⟨x26, hx26, hq⟩ := mx_bS hq
        refine mx_e_gr hx26 rfl ?_
        obtain ⟨x27, hx27, hq⟩ := mx_bS hq
        refine mx_e_gr hx27 rfl ?_
        refine mx_p_iln rfl ?_
        obtain ⟨x28, hx28, hq⟩ := mx_bS hq
        refine mx_e_cs mx_t_X11_told rfl rfl rfl ⟨Nat.le_of_ble_eq_true rfl, Nat.le_of_ble_eq_true rfl, Nat.le_of_ble_eq_true rfl⟩ (Nat.le_of_ble_eq_true rfl) rfl rfl ⟨Nat.zero_le _, Nat.zero_le _⟩ (t_X11_told hx28) ?_
        cases hq; exact mx_e_ri rfl
      · rw [if_neg hc20] at hq
        refine mx_e_if (fun z => hc20 (of_decide_eq_true z)) ?_
        refine mx_p_np ?_
        refine mx_p_ic ?_
        cases hq; exact mx_e_ri rfl
set_option maxRecDepth 20000 in
set_option maxHeartbeats 1000000 in
theorem t_X11_sitting {a0 : Nat} {a1 : Int32} {h : mx_Hp} {res} (hq : f_X11_sitting a0 a1 h = some res) : mx_Ms mx_k_X11_sitting [.ref a0, .int a1] h (some (.int res), h) := by
  unfold f_X11_sitting at hq
  show mx_Ev mx_k_X11_sitting mx_noS (mx_b_X11_sitting 0, [some (.ref a0), some (.int a1)], [], h, 0, 0) _
  refine mx_p_aln rfl ?_
  obtain ⟨x10, hx10, hq⟩ := mx_bS hq
  refine mx_e_gr hx10 rfl ?_
  refine mx_p_iln rfl ?_
  have ho12 : x10 < h.1 ∧ (mx_lay x10).1 = 3 := by
    by_cases hh : x10 < h.1 ∧ (mx_lay x10).1 = 3
    · exact hh
    · rw [if_neg hh] at hq; cases hq
  rw [if_pos ho12] at hq
  obtain ⟨x11, hx11, hq⟩ := mx_bS hq
  refine mx_e_cv mx_t_X0_has ho12 rfl rfl rfl ⟨Nat.le_of_ble_eq_true rfl, Nat.le_of_ble_eq_true rfl, Nat.le_of_ble_eq_true rfl⟩ (Nat.le_of_ble_eq_true rfl) rfl rfl rfl ⟨Nat.zero_le _, Nat.zero_le _⟩ (t_X0_has hx11) ?_
  obtain ⟨v18, hE, hK⟩ := mx_bS hq
  have HJ : mx_Ev mx_k_X11_sitting mx_noS (mx_b_X11_sitting 27, [none, none], [.int v18], h, 0, 0) (some (.int res), h) := by
    replace hq := hK
    cases hq; exact mx_e_ri rfl
  clear hK
  replace hq := hE
  by_cases hc13 : x11 = 0
  · rw [if_pos hc13] at hq
    refine mx_e_zt (decide_eq_true hc13) ?_
    refine mx_p_ic ?_
    refine mx_p_np ?_
    cases hq; exact mx_Ev.weak (mx_le.drop _ (mx_le.drop _ (mx_le.nil))) HJ
  · rw [if_neg hc13] at hq
    refine mx_e_zf (fun z => hc13 (of_decide_eq_true z)) ?_
    refine mx_p_aln rfl ?_
    obtain ⟨x14, hx14, hq⟩ := mx_bS hq
    refine mx_e_gr hx14 rfl ?_
    refine mx_p_aln rfl ?_
    obtain ⟨x15, hx15, hq⟩ := mx_bS hq
    refine mx_e_gr hx15 rfl ?_
    refine mx_p_iln rfl ?_
    have ho17 : x14 < h.1 ∧ (mx_lay x14).1 = 11 := by
      by_cases hh : x14 < h.1 ∧ (mx_lay x14).1 = 11
      · exact hh
      · rw [if_neg hh] at hq; cases hq
    rw [if_pos ho17] at hq
    obtain ⟨x16, hx16, hq⟩ := mx_bS hq
    refine mx_e_cv mx_t_X8_winnerBehind ho17 rfl rfl rfl ⟨Nat.le_of_ble_eq_true rfl, Nat.le_of_ble_eq_true rfl, Nat.le_of_ble_eq_true rfl⟩ (Nat.le_of_ble_eq_true rfl) rfl rfl rfl ⟨Nat.zero_le _, Nat.zero_le _⟩ (t_X8_winnerBehind hx16) ?_
    refine mx_p_gt ?_
    cases hq; exact mx_Ev.weak (mx_le.drop _ (mx_le.drop _ (mx_le.nil))) HJ
set_option maxRecDepth 20000 in
set_option maxHeartbeats 1000000 in
theorem t_X11_ways {a0 : Nat} {a1 : Int32} {a2 : Int32} {h : mx_Hp} {res} (hq : f_X11_ways a0 a1 a2 h = some res) : mx_Ms mx_k_X11_ways [.ref a0, .int a1, .int a2] h (some (.int res.1), res.2) := by
  unfold f_X11_ways at hq
  show mx_Ev mx_k_X11_ways mx_noS (mx_b_X11_ways 0, [some (.ref a0), some (.int a1), some (.int a2)], [], h, 0, 0) _
  refine mx_p_iln rfl ?_
  refine mx_p_ic ?_
  by_cases hc12 : a1 < 1
  · rw [if_pos hc12] at hq
    refine mx_e_it (decide_eq_true hc12) ?_
    refine mx_p_ic ?_
    cases hq; exact mx_e_ri rfl
  · rw [if_neg hc12] at hq
    refine mx_e_if (fun z => hc12 (of_decide_eq_true z)) ?_
    refine mx_p_iln rfl ?_
    refine mx_p_bp ?_
    by_cases hc13 : 8 < a1
    · rw [if_pos hc13] at hq
      refine mx_e_it (decide_eq_true hc13) ?_
      refine mx_p_ic ?_
      cases hq; exact mx_e_ri rfl
    · rw [if_neg hc13] at hq
      refine mx_e_if (fun z => hc13 (of_decide_eq_true z)) ?_
      refine mx_p_iln rfl ?_
      by_cases hc14 : a2 < 0
      · rw [if_pos hc14] at hq
        refine mx_e_zt (decide_eq_true hc14) ?_
        refine mx_p_ic ?_
        cases hq; exact mx_e_ri rfl
      · rw [if_neg hc14] at hq
        refine mx_e_zf (fun z => hc14 (of_decide_eq_true z)) ?_
        refine mx_p_iln rfl ?_
        refine mx_p_ic ?_
        by_cases hc15 : a2 ≤ 1
        · rw [if_pos hc15] at hq
          refine mx_e_it (decide_eq_true hc15) ?_
          refine mx_p_aln rfl ?_
          obtain ⟨x16, hx16, hq⟩ := mx_bS hq
          refine mx_e_gr hx16 rfl ?_
          refine mx_p_aln rfl ?_
          obtain ⟨x17, hx17, hq⟩ := mx_bS hq
          refine mx_e_gr hx17 rfl ?_
          refine mx_p_aln rfl ?_
          obtain ⟨x18, hx18, hq⟩ := mx_bS hq
          refine mx_e_gr hx18 rfl ?_
          refine mx_p_iln rfl ?_
          refine mx_p_iln rfl ?_
          refine mx_p_ic ?_
          obtain ⟨v20, hE, hK⟩ := mx_bS hq
          have HJ : mx_Ev mx_k_X11_ways mx_noS (mx_b_X11_ways 45, [none, none, none], [.int v20, .int a1, .ref x18, .ref x17, .ref x16], h, 0, 0) (some (.int res.1), res.2) := by
            replace hq := hK
            have ho22 : x16 < h.1 ∧ (mx_lay x16).1 = 11 := by
              by_cases hh : x16 < h.1 ∧ (mx_lay x16).1 = 11
              · exact hh
              · rw [if_neg hh] at hq; cases hq
            rw [if_pos ho22] at hq
            obtain ⟨x21, hx21, hq⟩ := mx_bS hq
            refine mx_e_cv mx_t_X8_countWays ho22 rfl rfl rfl ⟨Nat.le_of_ble_eq_true rfl, Nat.le_of_ble_eq_true rfl, Nat.le_of_ble_eq_true rfl⟩ (Nat.le_of_ble_eq_true rfl) rfl rfl rfl ⟨Nat.zero_le _, Nat.zero_le _⟩ (t_X8_countWays hx21) ?_
            cases hq; exact mx_e_ri rfl
          clear hK
          replace hq := hE
          by_cases hc19 : ¬ a2 = 1
          · rw [if_pos hc19] at hq
            refine mx_e_it (decide_eq_true hc19) ?_
            refine mx_p_ic ?_
            refine mx_p_np ?_
            cases hq; exact mx_Ev.weak (mx_le.drop _ (mx_le.drop _ (mx_le.drop _ (mx_le.nil)))) HJ
          · rw [if_neg hc19] at hq
            refine mx_e_if (fun z => hc19 (of_decide_eq_true z)) ?_
            refine mx_p_ic ?_
            refine mx_p_gt ?_
            cases hq; exact mx_Ev.weak (mx_le.drop _ (mx_le.drop _ (mx_le.drop _ (mx_le.nil)))) HJ
        · rw [if_neg hc15] at hq
          refine mx_e_if (fun z => hc15 (of_decide_eq_true z)) ?_
          refine mx_p_np ?_
          refine mx_p_ic ?_
          cases hq; exact mx_e_ri rfl
set_option maxRecDepth 20000 in
set_option maxHeartbeats 1000000 in
theorem t_X11_seen {a0 : Nat} {a1 : Int32} {a2 : Int32} {h : mx_Hp} {res} (hq : f_X11_seen a0 a1 a2 h = some res) : mx_Ms mx_k_X11_seen [.ref a0, .int a1, .int a2] h (some (.int res.1), res.2) := by
  unfold f_X11_seen at hq
  show mx_Ev mx_k_X11_seen mx_noS (mx_b_X11_seen 0, [some (.ref a0), some (.int a1), some (.int a2)], [], h, 0, 0) _
  refine mx_p_aln rfl ?_
  obtain ⟨x16, hx16, hq⟩ := mx_bS hq
  refine mx_e_gr hx16 rfl ?_
  refine mx_p_iln rfl ?_
  have ho18 : x16 < h.1 ∧ (mx_lay x16).1 = 3 := by
    by_cases hh : x16 < h.1 ∧ (mx_lay x16).1 = 3
    · exact hh
    · rw [if_neg hh] at hq; cases hq
  rw [if_pos ho18] at hq
  obtain ⟨x17, hx17, hq⟩ := mx_bS hq
  refine mx_e_cv mx_t_X0_has ho18 rfl rfl rfl ⟨Nat.le_of_ble_eq_true rfl, Nat.le_of_ble_eq_true rfl, Nat.le_of_ble_eq_true rfl⟩ (Nat.le_of_ble_eq_true rfl) rfl rfl rfl ⟨Nat.zero_le _, Nat.zero_le _⟩ (t_X0_has hx17) ?_
  by_cases hc19 : x17 = 0
  · rw [if_pos hc19] at hq
    refine mx_e_zt (decide_eq_true hc19) ?_
    refine mx_p_ic ?_
    cases hq; exact mx_e_ri rfl
  · rw [if_neg hc19] at hq
    refine mx_e_zf (fun z => hc19 (of_decide_eq_true z)) ?_
    refine mx_p_iln rfl ?_
    by_cases hc20 : a2 < 0
    · rw [if_pos hc20] at hq
      refine mx_e_zt (decide_eq_true hc20) ?_
      refine mx_p_ic ?_
      cases hq; exact mx_e_ri rfl
    · rw [if_neg hc20] at hq
      refine mx_e_zf (fun z => hc20 (of_decide_eq_true z)) ?_
      refine mx_p_iln rfl ?_
      refine mx_p_ic ?_
      by_cases hc21 : a2 ≤ 1
      · rw [if_pos hc21] at hq
        refine mx_e_it (decide_eq_true hc21) ?_
        refine mx_p_aln rfl ?_
        obtain ⟨x22, hx22, hq⟩ := mx_bS hq
        refine mx_e_gr hx22 rfl ?_
        refine mx_p_iln rfl ?_
        refine mx_p_iln rfl ?_
        refine mx_p_ic ?_
        obtain ⟨v24, hE, hK⟩ := mx_bS hq
        have HJ : mx_Ev mx_k_X11_seen mx_noS (mx_b_X11_seen 37, [some (.ref a0), none, none], [.int v24, .int a1, .ref x22], h, 0, 0) (some (.int res.1), res.2) := by
          replace hq := hK
          have ho26 : x22 < h.1 ∧ (mx_lay x22).1 = 6 := by
            by_cases hh : x22 < h.1 ∧ (mx_lay x22).1 = 6
            · exact hh
            · rw [if_neg hh] at hq; cases hq
          rw [if_pos ho26] at hq
          obtain ⟨x25, hx25, hq⟩ := mx_bS hq
          refine mx_e_cv mx_t_X3_note ho26 rfl rfl rfl ⟨Nat.le_of_ble_eq_true rfl, Nat.le_of_ble_eq_true rfl, Nat.le_of_ble_eq_true rfl⟩ (Nat.le_of_ble_eq_true rfl) rfl rfl rfl ⟨Nat.zero_le _, Nat.zero_le _⟩ (t_X3_note hx25) ?_
          obtain ⟨v30, hE, hK⟩ := mx_bS hq
          have HJ : mx_Ev mx_k_X11_seen mx_noS (mx_b_X11_seen 55, [none, none, none], [.int v30], x25.2, 0, 0) (some (.int res.1), res.2) := by
            replace hq := hK
            cases hq; exact mx_e_ri rfl
          clear hK
          replace hq := hE
          by_cases hc27 : x25.1 = 0
          · rw [if_pos hc27] at hq
            refine mx_e_zt (decide_eq_true hc27) ?_
            refine mx_p_bp ?_
            refine mx_p_np ?_
            cases hq; exact mx_Ev.weak (mx_le.drop _ (mx_le.same _ (mx_le.same _ (mx_le.nil)))) HJ
          · rw [if_neg hc27] at hq
            refine mx_e_zf (fun z => hc27 (of_decide_eq_true z)) ?_
            refine mx_p_aln rfl ?_
            obtain ⟨x28, hx28, hq⟩ := mx_bS hq
            refine mx_e_gr hx28 rfl ?_
            obtain ⟨x29, hx29, hq⟩ := mx_bS hq
            refine mx_e_gi hx29 (by decide) ?_
            refine mx_p_gt ?_
            cases hq; exact mx_Ev.weak (mx_le.drop _ (mx_le.same _ (mx_le.same _ (mx_le.nil)))) HJ
        clear hK
        replace hq := hE
        by_cases hc23 : ¬ a2 = 1
        · rw [if_pos hc23] at hq
          refine mx_e_it (decide_eq_true hc23) ?_
          refine mx_p_ic ?_
          refine mx_p_np ?_
          cases hq; exact mx_Ev.weak (mx_le.same _ (mx_le.drop _ (mx_le.drop _ (mx_le.nil)))) HJ
        · rw [if_neg hc23] at hq
          refine mx_e_if (fun z => hc23 (of_decide_eq_true z)) ?_
          refine mx_p_ic ?_
          refine mx_p_gt ?_
          cases hq; exact mx_Ev.weak (mx_le.same _ (mx_le.drop _ (mx_le.drop _ (mx_le.nil)))) HJ
      · rw [if_neg hc21] at hq
        refine mx_e_if (fun z => hc21 (of_decide_eq_true z)) ?_
        refine mx_p_np ?_
        refine mx_p_ic ?_
        cases hq; exact mx_e_ri rfl
set_option maxRecDepth 20000 in
set_option maxHeartbeats 1000000 in
theorem t_X11_forget {a0 : Nat} {h : mx_Hp} {res} (hq : f_X11_forget a0 h = some res) : mx_Ms mx_k_X11_forget [.ref a0] h (some (.int res.1), res.2) := by
  unfold f_X11_forget at hq
  show mx_Ev mx_k_X11_forget mx_noS (mx_b_X11_forget 0, [some (.ref a0), none], [], h, 0, 0) _
  refine mx_p_aln rfl ?_
  obtain ⟨x6, hx6, hq⟩ := mx_bS hq
  refine mx_e_gr hx6 rfl ?_
  obtain ⟨x7, hx7, hq⟩ := mx_bS hq
  refine mx_e_gi hx7 (by decide) ?_
  refine mx_p_isn (loc' := [some (.ref a0), some (.int x7)]) rfl ?_
  refine mx_p_aln rfl ?_
  obtain ⟨x8, hx8, hq⟩ := mx_bS hq
  refine mx_e_gr hx8 rfl ?_
  have ho10 : x8 < h.1 ∧ (mx_lay x8).1 = 6 := by
    by_cases hh : x8 < h.1 ∧ (mx_lay x8).1 = 6
    · exact hh
    · rw [if_neg hh] at hq; cases hq
  rw [if_pos ho10] at hq
  obtain ⟨x9, hx9, hq⟩ := mx_bS hq
  refine mx_e_cv mx_t_X3_clear ho10 rfl rfl rfl ⟨Nat.le_of_ble_eq_true rfl, Nat.le_of_ble_eq_true rfl, Nat.le_of_ble_eq_true rfl⟩ (Nat.le_of_ble_eq_true rfl) rfl rfl rfl ⟨Nat.zero_le _, Nat.zero_le _⟩ (t_X3_clear hx9) ?_
  refine mx_p_iln rfl ?_
  cases hq; exact mx_e_ri rfl
set_option maxRecDepth 20000 in
set_option maxHeartbeats 1000000 in
theorem t_X11_guessed {a0 : Nat} {a1 : Int32} {h : mx_Hp} {res} (hq : f_X11_guessed a0 a1 h = some res) : mx_Ms mx_k_X11_guessed [.ref a0, .int a1] h (some (.int res.1), res.2) := by
  unfold f_X11_guessed at hq
  show mx_Ev mx_k_X11_guessed mx_noS (mx_b_X11_guessed 0, [some (.ref a0), some (.int a1)], [], h, 0, 0) _
  refine mx_p_iln rfl ?_
  by_cases hc20 : a1 < 0
  · rw [if_pos hc20] at hq
    refine mx_e_zt (decide_eq_true hc20) ?_
    refine mx_p_ic ?_
    cases hq; exact mx_e_ri rfl
  · rw [if_neg hc20] at hq
    refine mx_e_zf (fun z => hc20 (of_decide_eq_true z)) ?_
    refine mx_p_iln rfl ?_
    refine mx_p_ic ?_
    by_cases hc21 : a1 ≤ 2
    · rw [if_pos hc21] at hq
      refine mx_e_it (decide_eq_true hc21) ?_
      refine mx_p_aln rfl ?_
      obtain ⟨x22, hx22, hq⟩ := mx_bS hq
      refine mx_e_gr hx22 rfl ?_
      refine mx_p_aln rfl ?_
      obtain ⟨x23, hx23, hq⟩ := mx_bS hq
      refine mx_e_gr hx23 rfl ?_
      refine mx_p_aln rfl ?_
      obtain ⟨x24, hx24, hq⟩ := mx_bS hq
      refine mx_e_gr hx24 rfl ?_
      have ho26 : x22 < h.1 ∧ (mx_lay x22).1 = 6 := by
        by_cases hh : x22 < h.1 ∧ (mx_lay x22).1 = 6
        · exact hh
        · rw [if_neg hh] at hq; cases hq
      rw [if_pos ho26] at hq
      obtain ⟨x25, hx25, hq⟩ := mx_bS hq
      refine mx_e_cv mx_t_X3_weigh ho26 rfl rfl rfl ⟨Nat.le_of_ble_eq_true rfl, Nat.le_of_ble_eq_true rfl, Nat.le_of_ble_eq_true rfl⟩ (Nat.le_of_ble_eq_true rfl) rfl rfl rfl ⟨Nat.zero_le _, Nat.zero_le _⟩ (t_X3_weigh hx25) ?_
      refine mx_p_iln rfl ?_
      by_cases hc27 : ¬ a1 = 0
      · rw [if_pos hc27] at hq
        refine mx_e_zt (decide_eq_true hc27) ?_
        refine mx_p_aln rfl ?_
        obtain ⟨x28, hx28, hq⟩ := mx_bS hq
        refine mx_e_gr hx28 rfl ?_
        obtain ⟨x29, hx29, hq⟩ := mx_bS hq
        refine mx_e_gi hx29 (by decide) ?_
        by_cases hc30 : ¬ x29 = 0
        · rw [if_pos hc30] at hq
          refine mx_e_zt (decide_eq_true hc30) ?_
          refine mx_p_iln rfl ?_
          refine mx_p_ic ?_
          obtain ⟨v36, hE, hK⟩ := mx_bS hq
          have HJ : mx_Ev mx_k_X11_guessed mx_noS (mx_b_X11_guessed 73, [none, none], [.int v36], x25, 0, 0) (some (.int res.1), res.2) := by
            replace hq := hK
            cases hq; exact mx_e_ri rfl
          clear hK
          replace hq := hE
          by_cases hc31 : ¬ a1 = 1
          · rw [if_pos hc31] at hq
            refine mx_e_it (decide_eq_true hc31) ?_
            refine mx_p_aln rfl ?_
            obtain ⟨x32, hx32, hq⟩ := mx_bS hq
            refine mx_e_gr hx32 rfl ?_
            obtain ⟨x33, hx33, hq⟩ := mx_bS hq
            refine mx_e_gi hx33 (by decide) ?_
            refine mx_p_np ?_
            cases hq; exact mx_Ev.weak (mx_le.drop _ (mx_le.drop _ (mx_le.nil))) HJ
          · rw [if_neg hc31] at hq
            refine mx_e_if (fun z => hc31 (of_decide_eq_true z)) ?_
            refine mx_p_aln rfl ?_
            obtain ⟨x34, hx34, hq⟩ := mx_bS hq
            refine mx_e_gr hx34 rfl ?_
            obtain ⟨x35, hx35, hq⟩ := mx_bS hq
            refine mx_e_gi hx35 (by decide) ?_
            refine mx_p_gt ?_
            cases hq; exact mx_Ev.weak (mx_le.drop _ (mx_le.drop _ (mx_le.nil))) HJ
        · rw [if_neg hc30] at hq
          refine mx_e_zf (fun z => hc30 (of_decide_eq_true z)) ?_
          refine mx_p_bp ?_
          cases hq; exact mx_e_ri rfl
      · rw [if_neg hc27] at hq
        refine mx_e_zf (fun z => hc27 (of_decide_eq_true z)) ?_
        refine mx_p_aln rfl ?_
        obtain ⟨x37, hx37, hq⟩ := mx_bS hq
        refine mx_e_gr hx37 rfl ?_
        obtain ⟨x38, hx38, hq⟩ := mx_bS hq
        refine mx_e_gi hx38 (by decide) ?_
        cases hq; exact mx_e_ri rfl
    · rw [if_neg hc21] at hq
      refine mx_e_if (fun z => hc21 (of_decide_eq_true z)) ?_
      refine mx_p_np ?_
      refine mx_p_ic ?_
      cases hq; exact mx_e_ri rfl
set_option maxRecDepth 20000 in
set_option maxHeartbeats 1000000 in
theorem t_X11_council {a0 : Nat} {a1 : Int32} {a2 : Int32} {a3 : Int32} {h : mx_Hp} {res} (hq : f_X11_council a0 a1 a2 a3 h = some res) : mx_Ms mx_k_X11_council [.ref a0, .int a1, .int a2, .int a3] h (some (.int res.1), res.2) := by
  unfold f_X11_council at hq
  show mx_Ev mx_k_X11_council mx_noS (mx_b_X11_council 0, [some (.ref a0), some (.int a1), some (.int a2), some (.int a3), none], [], h, 0, 0) _
  refine mx_p_iln rfl ?_
  by_cases hc21 : a1 < 0
  · rw [if_pos hc21] at hq
    refine mx_e_zt (decide_eq_true hc21) ?_
    refine mx_p_ic ?_
    cases hq; exact mx_e_ri rfl
  · rw [if_neg hc21] at hq
    refine mx_e_zf (fun z => hc21 (of_decide_eq_true z)) ?_
    refine mx_p_iln rfl ?_
    refine mx_p_sp ?_
    by_cases hc22 : 9999 < a1
    · rw [if_pos hc22] at hq
      refine mx_e_it (decide_eq_true hc22) ?_
      refine mx_p_ic ?_
      cases hq; exact mx_e_ri rfl
    · rw [if_neg hc22] at hq
      refine mx_e_if (fun z => hc22 (of_decide_eq_true z)) ?_
      refine mx_p_iln rfl ?_
      refine mx_p_ic ?_
      by_cases hc23 : a2 < 1
      · rw [if_pos hc23] at hq
        refine mx_e_it (decide_eq_true hc23) ?_
        refine mx_p_ic ?_
        cases hq; exact mx_e_ri rfl
      · rw [if_neg hc23] at hq
        refine mx_e_if (fun z => hc23 (of_decide_eq_true z)) ?_
        refine mx_p_iln rfl ?_
        refine mx_p_bp ?_
        by_cases hc24 : 60 < a2
        · rw [if_pos hc24] at hq
          refine mx_e_it (decide_eq_true hc24) ?_
          refine mx_p_ic ?_
          cases hq; exact mx_e_ri rfl
        · rw [if_neg hc24] at hq
          refine mx_e_if (fun z => hc24 (of_decide_eq_true z)) ?_
          refine mx_p_iln rfl ?_
          by_cases hc25 : a3 < 0
          · rw [if_pos hc25] at hq
            refine mx_e_zt (decide_eq_true hc25) ?_
            refine mx_p_ic ?_
            cases hq; exact mx_e_ri rfl
          · rw [if_neg hc25] at hq
            refine mx_e_zf (fun z => hc25 (of_decide_eq_true z)) ?_
            refine mx_p_iln rfl ?_
            refine mx_p_ic ?_
            by_cases hc26 : a3 ≤ 2
            · rw [if_pos hc26] at hq
              refine mx_e_it (decide_eq_true hc26) ?_
              refine mx_p_aln rfl ?_
              obtain ⟨x27, hx27, hq⟩ := mx_bS hq
              refine mx_e_gr hx27 rfl ?_
              refine mx_p_aln rfl ?_
              obtain ⟨x28, hx28, hq⟩ := mx_bS hq
              refine mx_e_gr hx28 rfl ?_
              refine mx_p_aln rfl ?_
              obtain ⟨x29, hx29, hq⟩ := mx_bS hq
              refine mx_e_gr hx29 rfl ?_
              refine mx_p_iln rfl ?_
              refine mx_p_iln rfl ?_
              have ho31 : x27 < h.1 ∧ (mx_lay x27).1 = 4 := by
                by_cases hh : x27 < h.1 ∧ (mx_lay x27).1 = 4
                · exact hh
                · rw [if_neg hh] at hq; cases hq
              rw [if_pos ho31] at hq
              obtain ⟨x30, hx30, hq⟩ := mx_bS hq
              refine mx_e_cv mx_t_X1_outcome ho31 rfl rfl rfl ⟨Nat.le_of_ble_eq_true rfl, Nat.le_of_ble_eq_true rfl, Nat.le_of_ble_eq_true rfl⟩ (Nat.le_of_ble_eq_true rfl) rfl rfl rfl ⟨Nat.zero_le _, Nat.zero_le _⟩ (t_X1_outcome hx30) ?_
              refine mx_p_as (loc' := [some (.ref a0), some (.int a1), some (.int a2), some (.int a3), some (.ref x30.1)]) rfl ?_
              refine mx_p_iln rfl ?_
              by_cases hw32 : a3 = 0
              · rw [if_pos hw32] at hq
                refine mx_e_lk (mx_sw_t hw32) ?_
                refine mx_p_al rfl ?_
                obtain ⟨x33, hx33, hq⟩ := mx_bS hq
                refine mx_e_gi hx33 (by decide) ?_
                cases hq; exact mx_e_ri rfl
              rw [if_neg hw32] at hq
              by_cases hw34 : a3 = 1
              · rw [if_pos hw34] at hq
                refine mx_e_lk (mx_sw_f hw32 (mx_sw_t hw34)) ?_
                refine mx_p_al rfl ?_
                have ho36 : x30.1 < x30.2.1 ∧ (mx_lay x30.1).1 = 12 := by
                  by_cases hh : x30.1 < x30.2.1 ∧ (mx_lay x30.1).1 = 12
                  · exact hh
                  · rw [if_neg hh] at hq; cases hq
                rw [if_pos ho36] at hq
                obtain ⟨x35, hx35, hq⟩ := mx_bS hq
                refine mx_e_cv mx_t_X9_decreesOfBoth ho36 rfl rfl rfl ⟨Nat.le_of_ble_eq_true rfl, Nat.le_of_ble_eq_true rfl, Nat.le_of_ble_eq_true rfl⟩ (Nat.le_of_ble_eq_true rfl) rfl rfl rfl ⟨Nat.zero_le _, Nat.zero_le _⟩ (t_X9_decreesOfBoth hx35) ?_
                cases hq; exact mx_e_ri rfl
              rw [if_neg hw34] at hq
              refine mx_e_lk (mx_sw_f hw32 (mx_sw_f hw34 rfl)) ?_
              refine mx_p_al rfl ?_
              obtain ⟨x37, hx37, hq⟩ := mx_bS hq
              refine mx_e_gr hx37 rfl ?_
              obtain ⟨x38, hx38, hq⟩ := mx_bS hq
              refine mx_e_gi hx38 (by decide) ?_
              refine mx_p_al rfl ?_
              obtain ⟨x39, hx39, hq⟩ := mx_bS hq
              refine mx_e_gr hx39 rfl ?_
              obtain ⟨x40, hx40, hq⟩ := mx_bS hq
              refine mx_e_gi hx40 (by decide) ?_
              refine mx_p_isub ?_
              refine mx_p_sp ?_
              refine mx_p_iadd ?_
              cases hq; exact mx_e_ri rfl
            · rw [if_neg hc26] at hq
              refine mx_e_if (fun z => hc26 (of_decide_eq_true z)) ?_
              refine mx_p_np ?_
              refine mx_p_ic ?_
              cases hq; exact mx_e_ri rfl
set_option maxRecDepth 20000 in
set_option maxHeartbeats 1000000 in
theorem t_X11_keep {a0 : Nat} {h : mx_Hp} {res} (hq : f_X11_keep a0 h = some res) : mx_Ms mx_k_X11_keep [.ref a0] h (some (.int res.1), res.2) := by
  unfold f_X11_keep at hq
  show mx_Ev mx_k_X11_keep mx_noS (mx_b_X11_keep 0, [some (.ref a0)], [], h, 0, 0) _
  refine mx_p_aln rfl ?_
  obtain ⟨x10, hx10, hq⟩ := mx_bS hq
  refine mx_e_gr hx10 rfl ?_
  obtain ⟨x11, hx11, hq⟩ := mx_bS hq
  refine mx_e_gi hx11 (by decide) ?_
  refine mx_p_ic ?_
  by_cases hc12 : x11 < 2
  · rw [if_pos hc12] at hq
    refine mx_e_it (decide_eq_true hc12) ?_
    refine mx_p_aln rfl ?_
    obtain ⟨x13, hx13, hq⟩ := mx_bS hq
    refine mx_e_gr hx13 rfl ?_
    refine mx_p_aln rfl ?_
    obtain ⟨x14, hx14, hq⟩ := mx_bS hq
    refine mx_e_gr hx14 rfl ?_
    have ho16 : x13 < h.1 ∧ (mx_lay x13).1 = 9 := by
      by_cases hh : x13 < h.1 ∧ (mx_lay x13).1 = 9
      · exact hh
      · rw [if_neg hh] at hq; cases hq
    rw [if_pos ho16] at hq
    obtain ⟨x15, hx15, hq⟩ := mx_bS hq
    refine mx_e_cv mx_t_X6_put ho16 rfl rfl rfl ⟨Nat.le_of_ble_eq_true rfl, Nat.le_of_ble_eq_true rfl, Nat.le_of_ble_eq_true rfl⟩ (Nat.le_of_ble_eq_true rfl) rfl rfl rfl ⟨Nat.zero_le _, Nat.zero_le _⟩ (t_X6_put hx15) ?_
    refine mx_p_aln rfl ?_
    obtain ⟨x17, hx17, hq⟩ := mx_bS hq
    refine mx_e_gr hx17 rfl ?_
    obtain ⟨x18, hx18, hq⟩ := mx_bS hq
    refine mx_e_gi hx18 (by decide) ?_
    cases hq; exact mx_e_ri rfl
  · rw [if_neg hc12] at hq
    refine mx_e_if (fun z => hc12 (of_decide_eq_true z)) ?_
    refine mx_p_bp ?_
    cases hq; exact mx_e_ri rfl
set_option maxRecDepth 20000 in
set_option maxHeartbeats 1000000 in
theorem t_X11_back {a0 : Nat} {h : mx_Hp} {res} (hq : f_X11_back a0 h = some res) : mx_Ms mx_k_X11_back [.ref a0] h (some (.int res.1), res.2) := by
  unfold f_X11_back at hq
  show mx_Ev mx_k_X11_back mx_noS (mx_b_X11_back 0, [some (.ref a0)], [], h, 0, 0) _
  refine mx_p_aln rfl ?_
  obtain ⟨x11, hx11, hq⟩ := mx_bS hq
  refine mx_e_gr hx11 rfl ?_
  refine mx_p_aln rfl ?_
  obtain ⟨x12, hx12, hq⟩ := mx_bS hq
  refine mx_e_gr hx12 rfl ?_
  have ho14 : x11 < h.1 ∧ (mx_lay x11).1 = 9 := by
    by_cases hh : x11 < h.1 ∧ (mx_lay x11).1 = 9
    · exact hh
    · rw [if_neg hh] at hq; cases hq
  rw [if_pos ho14] at hq
  obtain ⟨x13, hx13, hq⟩ := mx_bS hq
  refine mx_e_cv mx_t_X6_takeInto ho14 rfl rfl rfl ⟨Nat.le_of_ble_eq_true rfl, Nat.le_of_ble_eq_true rfl, Nat.le_of_ble_eq_true rfl⟩ (Nat.le_of_ble_eq_true rfl) rfl rfl rfl ⟨Nat.zero_le _, Nat.zero_le _⟩ (t_X6_takeInto hx13) ?_
  by_cases hc15 : ¬ x13.1 = 0
  · rw [if_pos hc15] at hq
    refine mx_e_zt (decide_eq_true hc15) ?_
    refine mx_p_aln rfl ?_
    obtain ⟨x16, hx16, hq⟩ := mx_bS hq
    refine mx_e_gr hx16 rfl ?_
    have ho18 : x16 < x13.2.1 ∧ (mx_lay x16).1 = 9 := by
      by_cases hh : x16 < x13.2.1 ∧ (mx_lay x16).1 = 9
      · exact hh
      · rw [if_neg hh] at hq; cases hq
    rw [if_pos ho18] at hq
    obtain ⟨x17, hx17, hq⟩ := mx_bS hq
    refine mx_e_cv mx_t_X6_clear ho18 rfl rfl rfl ⟨Nat.le_of_ble_eq_true rfl, Nat.le_of_ble_eq_true rfl, Nat.le_of_ble_eq_true rfl⟩ (Nat.le_of_ble_eq_true rfl) rfl rfl rfl ⟨Nat.zero_le _, Nat.zero_le _⟩ (t_X6_clear hx17) ?_
    refine mx_p_aln rfl ?_
    obtain ⟨x19, hx19, hq⟩ := mx_bS hq
    refine mx_e_gr hx19 rfl ?_
    obtain ⟨x20, hx20, hq⟩ := mx_bS hq
    refine mx_e_gi hx20 (by decide) ?_
    cases hq; exact mx_e_ri rfl
  · rw [if_neg hc15] at hq
    refine mx_e_zf (fun z => hc15 (of_decide_eq_true z)) ?_
    refine mx_p_bp ?_
    cases hq; exact mx_e_ri rfl
set_option maxRecDepth 20000 in
set_option maxHeartbeats 1000000 in
theorem t_X11_count {a0 : Nat} {a1 : Int32} {h : mx_Hp} {res} (hq : f_X11_count a0 a1 h = some res) : mx_Ms mx_k_X11_count [.ref a0, .int a1] h (some (.int res), h) := by
  unfold f_X11_count at hq
  show mx_Ev mx_k_X11_count mx_noS (mx_b_X11_count 0, [some (.ref a0), some (.int a1)], [], h, 0, 0) _
  refine mx_p_iln rfl ?_
  by_cases hw33 : a1 = 0
  · rw [if_pos hw33] at hq
    refine mx_e_sw (mx_sw_t hw33) ?_
    refine mx_p_aln rfl ?_
    obtain ⟨x34, hx34, hq⟩ := mx_bS hq
    refine mx_e_gr hx34 rfl ?_
    obtain ⟨x35, hx35, hq⟩ := mx_bS hq
    refine mx_e_gi hx35 (by decide) ?_
    cases hq; exact mx_e_ri rfl
  rw [if_neg hw33] at hq
  by_cases hw36 : a1 = 1
  · rw [if_pos hw36] at hq
    refine mx_e_sw (mx_sw_f hw33 (mx_sw_t hw36)) ?_
    refine mx_p_aln rfl ?_
    obtain ⟨x37, hx37, hq⟩ := mx_bS hq
    refine mx_e_gr hx37 rfl ?_
    obtain ⟨x38, hx38, hq⟩ := mx_bS hq
    refine mx_e_gi hx38 (by decide) ?_
    cases hq; exact mx_e_ri rfl
  rw [if_neg hw36] at hq
  by_cases hw39 : a1 = 2
  · rw [if_pos hw39] at hq
    refine mx_e_sw (mx_sw_f hw33 (mx_sw_f hw36 (mx_sw_t hw39))) ?_
    refine mx_p_aln rfl ?_
    obtain ⟨x40, hx40, hq⟩ := mx_bS hq
    refine mx_e_gr hx40 rfl ?_
    obtain ⟨x41, hx41, hq⟩ := mx_bS hq
    refine mx_e_gr hx41 rfl ?_
    obtain ⟨x42, hx42, hq⟩ := mx_bS hq
    refine mx_e_gi hx42 (by decide) ?_
    cases hq; exact mx_e_ri rfl
  rw [if_neg hw39] at hq
  by_cases hw43 : a1 = 3
  · rw [if_pos hw43] at hq
    refine mx_e_sw (mx_sw_f hw33 (mx_sw_f hw36 (mx_sw_f hw39 (mx_sw_t hw43)))) ?_
    refine mx_p_aln rfl ?_
    obtain ⟨x44, hx44, hq⟩ := mx_bS hq
    refine mx_e_gr hx44 rfl ?_
    have ho46 : x44 < h.1 ∧ (mx_lay x44).1 = 12 := by
      by_cases hh : x44 < h.1 ∧ (mx_lay x44).1 = 12
      · exact hh
      · rw [if_neg hh] at hq; cases hq
    rw [if_pos ho46] at hq
    obtain ⟨x45, hx45, hq⟩ := mx_bS hq
    refine mx_e_cv mx_t_X9_decreesOfBoth ho46 rfl rfl rfl ⟨Nat.le_of_ble_eq_true rfl, Nat.le_of_ble_eq_true rfl, Nat.le_of_ble_eq_true rfl⟩ (Nat.le_of_ble_eq_true rfl) rfl rfl rfl ⟨Nat.zero_le _, Nat.zero_le _⟩ (t_X9_decreesOfBoth hx45) ?_
    cases hq; exact mx_e_ri rfl
  rw [if_neg hw43] at hq
  by_cases hw47 : a1 = 4
  · rw [if_pos hw47] at hq
    refine mx_e_sw (mx_sw_f hw33 (mx_sw_f hw36 (mx_sw_f hw39 (mx_sw_f hw43 (mx_sw_t hw47))))) ?_
    refine mx_p_aln rfl ?_
    obtain ⟨x48, hx48, hq⟩ := mx_bS hq
    refine mx_e_gr hx48 rfl ?_
    obtain ⟨x49, hx49, hq⟩ := mx_bS hq
    refine mx_e_gi hx49 (by decide) ?_
    cases hq; exact mx_e_ri rfl
  rw [if_neg hw47] at hq
  by_cases hw50 : a1 = 5
  · rw [if_pos hw50] at hq
    refine mx_e_sw (mx_sw_f hw33 (mx_sw_f hw36 (mx_sw_f hw39 (mx_sw_f hw43 (mx_sw_f hw47 (mx_sw_t hw50)))))) ?_
    refine mx_p_aln rfl ?_
    obtain ⟨x51, hx51, hq⟩ := mx_bS hq
    refine mx_e_gr hx51 rfl ?_
    obtain ⟨x52, hx52, hq⟩ := mx_bS hq
    refine mx_e_gi hx52 (by decide) ?_
    cases hq; exact mx_e_ri rfl
  rw [if_neg hw50] at hq
  by_cases hw53 : a1 = 6
  · rw [if_pos hw53] at hq
    refine mx_e_sw (mx_sw_f hw33 (mx_sw_f hw36 (mx_sw_f hw39 (mx_sw_f hw43 (mx_sw_f hw47 (mx_sw_f hw50 (mx_sw_t hw53))))))) ?_
    refine mx_p_aln rfl ?_
    obtain ⟨x54, hx54, hq⟩ := mx_bS hq
    refine mx_e_gr hx54 rfl ?_
    obtain ⟨x55, hx55, hq⟩ := mx_bS hq
    refine mx_e_gi hx55 (by decide) ?_
    cases hq; exact mx_e_ri rfl
  rw [if_neg hw53] at hq
  by_cases hw56 : a1 = 7
  · rw [if_pos hw56] at hq
    refine mx_e_sw (mx_sw_f hw33 (mx_sw_f hw36 (mx_sw_f hw39 (mx_sw_f hw43 (mx_sw_f hw47 (mx_sw_f hw50 (mx_sw_f hw53 (mx_sw_t hw56)))))))) ?_
    refine mx_p_aln rfl ?_
    obtain ⟨x57, hx57, hq⟩ := mx_bS hq
    refine mx_e_gr hx57 rfl ?_
    obtain ⟨x58, hx58, hq⟩ := mx_bS hq
    refine mx_e_gi hx58 (by decide) ?_
    cases hq; exact mx_e_ri rfl
  rw [if_neg hw56] at hq
  by_cases hw59 : a1 = 8
  · rw [if_pos hw59] at hq
    refine mx_e_sw (mx_sw_f hw33 (mx_sw_f hw36 (mx_sw_f hw39 (mx_sw_f hw43 (mx_sw_f hw47 (mx_sw_f hw50 (mx_sw_f hw53 (mx_sw_f hw56 (mx_sw_t hw59))))))))) ?_
    refine mx_p_aln rfl ?_
    obtain ⟨x60, hx60, hq⟩ := mx_bS hq
    refine mx_e_gr hx60 rfl ?_
    obtain ⟨x61, hx61, hq⟩ := mx_bS hq
    refine mx_e_gi hx61 (by decide) ?_
    cases hq; exact mx_e_ri rfl
  rw [if_neg hw59] at hq
  by_cases hw62 : a1 = 9
  · rw [if_pos hw62] at hq
    refine mx_e_sw (mx_sw_f hw33 (mx_sw_f hw36 (mx_sw_f hw39 (mx_sw_f hw43 (mx_sw_f hw47 (mx_sw_f hw50 (mx_sw_f hw53 (mx_sw_f hw56 (mx_sw_f hw59 (mx_sw_t hw62)))))))))) ?_
    refine mx_p_aln rfl ?_
    obtain ⟨x63, hx63, hq⟩ := mx_bS hq
    refine mx_e_gr hx63 rfl ?_
    obtain ⟨x64, hx64, hq⟩ := mx_bS hq
    refine mx_e_gi hx64 (by decide) ?_
    cases hq; exact mx_e_ri rfl
  rw [if_neg hw62] at hq
  refine mx_e_sw (mx_sw_f hw33 (mx_sw_f hw36 (mx_sw_f hw39 (mx_sw_f hw43 (mx_sw_f hw47 (mx_sw_f hw50 (mx_sw_f hw53 (mx_sw_f hw56 (mx_sw_f hw59 (mx_sw_f hw62 rfl)))))))))) ?_
  refine mx_p_ic ?_
  cases hq; exact mx_e_ri rfl
set_option maxRecDepth 20000 in
set_option maxHeartbeats 1000000 in
theorem e_f_X12_begins_L2 (l0 : Nat)   : ∀ (n : Nat) (s1 : Int32) (hh : mx_Hp) res, mx_fix (f_X12_begins_L2 l0 ) n (s1, hh) = some res → mx_Ev mx_k_X12_begins mx_noS (mx_b_X12_begins 2, [some (.ref l0), some (.int s1)], [], hh, 0, 0) (none, res) := by
  intro n
  induction n with
  | zero => intro s1 hh res hq; cases hq
  | succ n ih =>
    intro s1 hh res hq
    unfold mx_fix at hq
    generalize mx_fix (f_X12_begins_L2 l0 ) n = S at hq ih
    unfold f_X12_begins_L2 at hq
    try dsimp only at hq
    refine mx_p_iln rfl ?_
    refine mx_p_bp ?_
    by_cases hc6 : 35 ≤ s1
    · rw [if_pos hc6] at hq
      refine mx_e_it (decide_eq_true hc6) ?_
      refine mx_p_aln rfl ?_
      obtain ⟨x7, hx7, hq⟩ := mx_bS hq
      refine mx_e_gr hx7 rfl ?_
      refine mx_p_ic ?_
      refine mx_p_ic ?_
      obtain ⟨h8, hh8, hq⟩ := mx_bS hq
      refine mx_e_as hh8 ?_
      cases hq; exact mx_p_rv
    · rw [if_neg hc6] at hq
      refine mx_e_if (fun z => hc6 (of_decide_eq_true z)) ?_
      refine mx_p_aln rfl ?_
      obtain ⟨x9, hx9, hq⟩ := mx_bS hq
      refine mx_e_gr hx9 rfl ?_
      refine mx_p_iln rfl ?_
      refine mx_p_ic ?_
      obtain ⟨h10, hh10, hq⟩ := mx_bS hq
      refine mx_e_as hh10 ?_
      refine mx_p_inc (loc' := [some (.ref l0), some (.int (s1 + 1))]) rfl rfl ?_
      refine mx_p_gt ?_
      have HB := ih (s1 + 1) h10 _ hq
      exact mx_Ev.weak (mx_le.same _ (mx_le.same _ (mx_le.nil))) HB
set_option maxRecDepth 20000 in
set_option maxHeartbeats 1000000 in
theorem t_X12_begins {a0 : Nat} {h : mx_Hp} {res} (hq : f_X12_begins a0 h = some res) : mx_Ms mx_k_X12_begins [.ref a0] h (none, res) := by
  unfold f_X12_begins at hq
  show mx_Ev mx_k_X12_begins mx_noS (mx_b_X12_begins 0, [some (.ref a0), none], [], h, 0, 0) _
  refine mx_p_ic ?_
  refine mx_p_isn (loc' := [some (.ref a0), some (.int 0)]) rfl ?_
  refine mx_p_np ?_
  refine mx_Ev.weak (mx_le.same _ (mx_le.same _ (mx_le.nil))) (e_f_X12_begins_L2 _  _ _ _ _ hq)
set_option maxRecDepth 20000 in
set_option maxHeartbeats 1000000 in
theorem t_X12_wordOf {a0 : Nat} {a1 : Int32} {a2 : Int32} {h : mx_Hp} {res} (hq : f_X12_wordOf a0 a1 a2 h = some res) : mx_Ms mx_k_X12_wordOf [.ref a0, .int a1, .int a2] h (none, res) := by
  unfold f_X12_wordOf at hq
  show mx_Ev mx_k_X12_wordOf mx_noS (mx_b_X12_wordOf 0, [some (.ref a0), some (.int a1), some (.int a2)], [], h, 0, 0) _
  refine mx_p_aln rfl ?_
  obtain ⟨x12, hx12, hq⟩ := mx_bS hq
  refine mx_e_gr hx12 rfl ?_
  refine mx_p_ic ?_
  refine mx_p_aln rfl ?_
  obtain ⟨x13, hx13, hq⟩ := mx_bS hq
  refine mx_e_gr hx13 rfl ?_
  refine mx_p_ic ?_
  obtain ⟨x14, hx14, hq⟩ := mx_bS hq
  refine mx_e_al hx14 ?_
  refine mx_p_iadd ?_
  refine mx_p_iln rfl ?_
  obtain ⟨h15, hh15, hq⟩ := mx_bS hq
  refine mx_e_as hh15 ?_
  refine mx_p_aln rfl ?_
  obtain ⟨x16, hx16, hq⟩ := mx_bS hq
  refine mx_e_gr hx16 rfl ?_
  refine mx_p_bp ?_
  refine mx_p_aln rfl ?_
  obtain ⟨x17, hx17, hq⟩ := mx_bS hq
  refine mx_e_gr hx17 rfl ?_
  refine mx_p_ic ?_
  obtain ⟨x18, hx18, hq⟩ := mx_bS hq
  refine mx_e_al hx18 ?_
  refine mx_p_iadd ?_
  refine mx_p_iln rfl ?_
  obtain ⟨h19, hh19, hq⟩ := mx_bS hq
  refine mx_e_as hh19 ?_
  refine mx_p_aln rfl ?_
  obtain ⟨x20, hx20, hq⟩ := mx_bS hq
  refine mx_e_gr hx20 rfl ?_
  refine mx_p_ic ?_
  refine mx_p_dup2 rfl rfl ?_
  obtain ⟨x21, hx21, hq⟩ := mx_bS hq
  refine mx_e_al hx21 ?_
  refine mx_p_ic ?_
  refine mx_p_iadd ?_
  obtain ⟨h22, hh22, hq⟩ := mx_bS hq
  refine mx_e_as hh22 ?_
  cases hq; exact mx_p_rv
