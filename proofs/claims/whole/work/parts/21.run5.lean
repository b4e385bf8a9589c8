/-! their runs come to them: by wip/gen/dec.py -/
set_option maxRecDepth 20000 in
set_option maxHeartbeats 1000000 in
theorem t_X12_finishesNow {a0 : Nat} {h : mx_Hp} {res} (hq : f_X12_finishesNow a0 h = some res) : mx_Ms mx_k_X12_finishesNow [.ref a0] h (some (.int res.1), res.2) := by
  unfold f_X12_finishesNow at hq
  show mx_Ev mx_k_X12_finishesNow mx_noS (mx_b_X12_finishesNow 0, [some (.ref a0)], [], h, 0, 0) _
  refine mx_p_aln rfl ?_
  obtain ⟨x13, hx13, hq⟩ := mx_bS hq
  refine mx_e_gr hx13 rfl ?_
  refine mx_p_bp ?_
  obtain ⟨x14, hx14, hq⟩ := mx_bS hq
  refine mx_e_al hx14 ?_
  obtain ⟨v24, hE, hK⟩ := mx_bS hq
  have HJ : mx_Ev mx_k_X12_finishesNow mx_noS (mx_b_X12_finishesNow 32, [none], [.int v24.1], v24.2, 0, 0) (some (.int res.1), res.2) := by
    replace hq := hK
    cases hq; exact mx_e_ri rfl
  clear hK
  replace hq := hE
  by_cases hc15 : ¬ x14 = 0
  · rw [if_pos hc15] at hq
    refine mx_e_zt (decide_eq_true hc15) ?_
    refine mx_p_aln rfl ?_
    refine mx_p_aln rfl ?_
    have ho17 : a0 < h.1 ∧ (mx_lay a0).1 = 15 := by
      by_cases hh : a0 < h.1 ∧ (mx_lay a0).1 = 15
      · exact hh
      · rw [if_neg hh] at hq; cases hq
    rw [if_pos ho17] at hq
    obtain ⟨x16, hx16, hq⟩ := mx_bS hq
    refine mx_e_cv mx_t_X12_last ho17 rfl rfl rfl ⟨Nat.le_of_ble_eq_true rfl, Nat.le_of_ble_eq_true rfl, Nat.le_of_ble_eq_true rfl⟩ (Nat.le_of_ble_eq_true rfl) rfl rfl rfl ⟨Nat.zero_le _, Nat.zero_le _⟩ (t_X12_last hx16) ?_
    refine mx_p_aln rfl ?_
    refine mx_p_aln rfl ?_
    obtain ⟨x18, hx18, hq⟩ := mx_bS hq
    refine mx_e_gr hx18 rfl ?_
    refine mx_p_ic ?_
    obtain ⟨x19, hx19, hq⟩ := mx_bS hq
    refine mx_e_al hx19 ?_
    have ho21 : a0 < h.1 ∧ (mx_lay a0).1 = 15 := by
      by_cases hh : a0 < h.1 ∧ (mx_lay a0).1 = 15
      · exact hh
      · rw [if_neg hh] at hq; cases hq
    rw [if_pos ho21] at hq
    obtain ⟨x20, hx20, hq⟩ := mx_bS hq
    refine mx_e_cv mx_t_X12_knowsFor ho21 rfl rfl rfl ⟨Nat.le_of_ble_eq_true rfl, Nat.le_of_ble_eq_true rfl, Nat.le_of_ble_eq_true rfl⟩ (Nat.le_of_ble_eq_true rfl) rfl rfl rfl ⟨Nat.zero_le _, Nat.zero_le _⟩ (t_X12_knowsFor hx20) ?_
    have ho23 : a0 < h.1 ∧ (mx_lay a0).1 = 15 := by
      by_cases hh : a0 < h.1 ∧ (mx_lay a0).1 = 15
      · exact hh
      · rw [if_neg hh] at hq; cases hq
    rw [if_pos ho23] at hq
    obtain ⟨x22, hx22, hq⟩ := mx_bS hq
    refine mx_e_cv mx_t_X12_finishes ho23 rfl rfl rfl ⟨Nat.le_of_ble_eq_true rfl, Nat.le_of_ble_eq_true rfl, Nat.le_of_ble_eq_true rfl⟩ (Nat.le_of_ble_eq_true rfl) rfl rfl rfl ⟨Nat.zero_le _, Nat.zero_le _⟩ (t_X12_finishes hx22) ?_
    refine mx_p_np ?_
    cases hq; exact mx_Ev.weak (mx_le.drop _ (mx_le.nil)) HJ
  · rw [if_neg hc15] at hq
    refine mx_e_zf (fun z => hc15 (of_decide_eq_true z)) ?_
    refine mx_p_ic ?_
    refine mx_p_gt ?_
    cases hq; exact mx_Ev.weak (mx_le.drop _ (mx_le.nil)) HJ
set_option maxRecDepth 20000 in
set_option maxHeartbeats 1000000 in
theorem e_f_X12_ends_L12 (l0 : Nat) (l1 : Int32) (h : mx_Hp) (k40 : Int32 × Int32 → Option (Int32 × mx_Hp)) (Hk40 : ∀ (s2 : Int32) (s3 : Int32) res, k40 (s2, s3) = some res → mx_Ev mx_k_X12_ends mx_noS (mx_b_X12_ends 40, [some (.ref l0), some (.int l1), some (.int s2), none], [], h, 0, 0) (some (.int res.1), res.2)) : ∀ (n : Nat) (s2 : Int32) (s3 : Int32) res, mx_fix (f_X12_ends_L12 l0 l1 h k40) n (s2, s3) = some res → mx_Ev mx_k_X12_ends mx_noS (mx_b_X12_ends 12, [some (.ref l0), some (.int l1), some (.int s2), some (.int s3)], [], h, 0, 0) (some (.int res.1), res.2) := by
  intro n
  induction n with
  | zero => intro s2 s3 res hq; cases hq
  | succ n ih =>
    intro s2 s3 res hq
    unfold mx_fix at hq
    generalize mx_fix (f_X12_ends_L12 l0 l1 h k40) n = S at hq ih
    unfold f_X12_ends_L12 at hq
    try dsimp only at hq
    refine mx_p_iln rfl ?_
    refine mx_p_iln rfl ?_
    by_cases hc10 : l1 ≤ s3
    · rw [if_pos hc10] at hq
      refine mx_e_it (decide_eq_true hc10) ?_
      have HB := Hk40 s2 s3 _ hq
      exact mx_Ev.weak (mx_le.same _ (mx_le.same _ (mx_le.same _ (mx_le.drop _ (mx_le.nil))))) HB
    · rw [if_neg hc10] at hq
      refine mx_e_if (fun z => hc10 (of_decide_eq_true z)) ?_
      refine mx_p_iln rfl ?_
      refine mx_p_aln rfl ?_
      obtain ⟨x11, hx11, hq⟩ := mx_bS hq
      refine mx_e_gr hx11 rfl ?_
      refine mx_p_bp ?_
      refine mx_p_aln rfl ?_
      obtain ⟨x12, hx12, hq⟩ := mx_bS hq
      refine mx_e_gr hx12 rfl ?_
      refine mx_p_iln rfl ?_
      obtain ⟨x13, hx13, hq⟩ := mx_bS hq
      refine mx_e_al hx13 ?_
      refine mx_p_iadd ?_
      obtain ⟨x14, hx14, hq⟩ := mx_bS hq
      refine mx_e_al hx14 ?_
      refine mx_p_iadd ?_
      refine mx_p_isn (loc' := [some (.ref l0), some (.int l1), some (.int (s2 + x14)), some (.int s3)]) rfl ?_
      refine mx_p_inc (loc' := [some (.ref l0), some (.int l1), some (.int (s2 + x14)), some (.int (s3 + 1))]) rfl rfl ?_
      refine mx_p_gt ?_
      have HB := ih (s2 + x14) (s3 + 1) _ hq
      exact mx_Ev.weak (mx_le.same _ (mx_le.same _ (mx_le.same _ (mx_le.same _ (mx_le.nil))))) HB
set_option maxRecDepth 20000 in
set_option maxHeartbeats 1000000 in
theorem t_X12_ends {a0 : Nat} {h : mx_Hp} {res} (hq : f_X12_ends a0 h = some res) : mx_Ms mx_k_X12_ends [.ref a0] h (some (.int res.1), res.2) := by
  unfold f_X12_ends at hq
  show mx_Ev mx_k_X12_ends mx_noS (mx_b_X12_ends 0, [some (.ref a0), none, none, none], [], h, 0, 0) _
  refine mx_p_aln rfl ?_
  have ho31 : a0 < h.1 ∧ (mx_lay a0).1 = 15 := by
    by_cases hh : a0 < h.1 ∧ (mx_lay a0).1 = 15
    · exact hh
    · rw [if_neg hh] at hq; cases hq
  rw [if_pos ho31] at hq
  obtain ⟨x30, hx30, hq⟩ := mx_bS hq
  refine mx_e_cv mx_t_X12_finishesNow ho31 rfl rfl rfl ⟨Nat.le_of_ble_eq_true rfl, Nat.le_of_ble_eq_true rfl, Nat.le_of_ble_eq_true rfl⟩ (Nat.le_of_ble_eq_true rfl) rfl rfl rfl ⟨Nat.zero_le _, Nat.zero_le _⟩ (t_X12_finishesNow hx30) ?_
  refine mx_p_isn (loc' := [some (.ref a0), some (.int x30.1), none, none]) rfl ?_
  refine mx_p_aln rfl ?_
  have ho33 : a0 < x30.2.1 ∧ (mx_lay a0).1 = 15 := by
    by_cases hh : a0 < x30.2.1 ∧ (mx_lay a0).1 = 15
    · exact hh
    · rw [if_neg hh] at hq; cases hq
  rw [if_pos ho33] at hq
  obtain ⟨x32, hx32, hq⟩ := mx_bS hq
  refine mx_e_cv mx_t_X12_worthNow ho33 rfl rfl rfl ⟨Nat.le_of_ble_eq_true rfl, Nat.le_of_ble_eq_true rfl, Nat.le_of_ble_eq_true rfl⟩ (Nat.le_of_ble_eq_true rfl) rfl rfl rfl ⟨Nat.zero_le _, Nat.zero_le _⟩ (t_X12_worthNow hx32) ?_
  refine mx_p_isn (loc' := [some (.ref a0), some (.int x30.1), some (.int x32), none]) rfl ?_
  refine mx_p_ic ?_
  refine mx_p_isn (loc' := [some (.ref a0), some (.int x30.1), some (.int x32), some (.int 0)]) rfl ?_
  refine mx_p_np ?_
  refine mx_Ev.weak (mx_le.same _ (mx_le.same _ (mx_le.same _ (mx_le.same _ (mx_le.nil))))) (e_f_X12_ends_L12 _ _ _ _ ?_ _ _ _ _ hq)
  · intro c34 c35 res hq
    try dsimp only at hq
    refine mx_p_aln rfl ?_
    obtain ⟨x36, hx36, hq⟩ := mx_bS hq
    refine mx_e_gr hx36 rfl ?_
    refine mx_p_bp ?_
    refine mx_p_dup2 rfl rfl ?_
    obtain ⟨x37, hx37, hq⟩ := mx_bS hq
    refine mx_e_al hx37 ?_
    refine mx_p_iln rfl ?_
    refine mx_p_iadd ?_
    obtain ⟨h38, hh38, hq⟩ := mx_bS hq
    refine mx_e_as hh38 ?_
    refine mx_p_aln rfl ?_
    obtain ⟨x39, hx39, hq⟩ := mx_bS hq
    refine mx_e_gr hx39 rfl ?_
    refine mx_p_bp ?_
    refine mx_p_ic ?_
    refine mx_p_aln rfl ?_
    obtain ⟨x40, hx40, hq⟩ := mx_bS hq
    refine mx_e_gr hx40 rfl ?_
    refine mx_p_bp ?_
    obtain ⟨x41, hx41, hq⟩ := mx_bS hq
    refine mx_e_al hx41 ?_
    refine mx_p_isub ?_
    obtain ⟨h42, hh42, hq⟩ := mx_bS hq
    refine mx_e_as hh42 ?_
    refine mx_p_aln rfl ?_
    obtain ⟨x43, hx43, hq⟩ := mx_bS hq
    refine mx_e_gr hx43 rfl ?_
    refine mx_p_bp ?_
    refine mx_p_dup2 rfl rfl ?_
    obtain ⟨x44, hx44, hq⟩ := mx_bS hq
    refine mx_e_al hx44 ?_
    refine mx_p_ic ?_
    refine mx_p_iadd ?_
    obtain ⟨h45, hh45, hq⟩ := mx_bS hq
    refine mx_e_as hh45 ?_
    refine mx_p_aln rfl ?_
    refine mx_p_aln rfl ?_
    obtain ⟨x46, hx46, hq⟩ := mx_bS hq
    refine mx_e_gr hx46 rfl ?_
    refine mx_p_bp ?_
    obtain ⟨x47, hx47, hq⟩ := mx_bS hq
    refine mx_e_al hx47 ?_
    refine mx_p_iln rfl ?_
    have ho49 : a0 < h45.1 ∧ (mx_lay a0).1 = 15 := by
      by_cases hh : a0 < h45.1 ∧ (mx_lay a0).1 = 15
      · exact hh
      · rw [if_neg hh] at hq; cases hq
    rw [if_pos ho49] at hq
    obtain ⟨x48, hx48, hq⟩ := mx_bS hq
    refine mx_e_cv mx_t_X12_decrees ho49 rfl rfl rfl ⟨Nat.le_of_ble_eq_true rfl, Nat.le_of_ble_eq_true rfl, Nat.le_of_ble_eq_true rfl⟩ (Nat.le_of_ble_eq_true rfl) rfl rfl rfl ⟨Nat.zero_le _, Nat.zero_le _⟩ (t_X12_decrees hx48) ?_
    refine mx_p_iln rfl ?_
    cases hq; exact mx_e_ri rfl
set_option maxRecDepth 20000 in
set_option maxHeartbeats 1000000 in
theorem t_X12_finish {a0 : Nat} {h : mx_Hp} {res} (hq : f_X12_finish a0 h = some res) : mx_Ms mx_k_X12_finish [.ref a0] h (some (.int res.1), res.2) := by
  unfold f_X12_finish at hq
  show mx_Ev mx_k_X12_finish mx_noS (mx_b_X12_finish 0, [some (.ref a0)], [], h, 0, 0) _
  refine mx_p_aln rfl ?_
  have ho9 : a0 < h.1 ∧ (mx_lay a0).1 = 15 := by
    by_cases hh : a0 < h.1 ∧ (mx_lay a0).1 = 15
    · exact hh
    · rw [if_neg hh] at hq; cases hq
  rw [if_pos ho9] at hq
  obtain ⟨x8, hx8, hq⟩ := mx_bS hq
  refine mx_e_cv mx_t_X12_finishesNow ho9 rfl rfl rfl ⟨Nat.le_of_ble_eq_true rfl, Nat.le_of_ble_eq_true rfl, Nat.le_of_ble_eq_true rfl⟩ (Nat.le_of_ble_eq_true rfl) rfl rfl rfl ⟨Nat.zero_le _, Nat.zero_le _⟩ (t_X12_finishesNow hx8) ?_
  by_cases hc10 : ¬ x8.1 = 0
  · rw [if_pos hc10] at hq
    refine mx_e_zt (decide_eq_true hc10) ?_
    refine mx_p_aln rfl ?_
    have ho12 : a0 < x8.2.1 ∧ (mx_lay a0).1 = 15 := by
      by_cases hh : a0 < x8.2.1 ∧ (mx_lay a0).1 = 15
      · exact hh
      · rw [if_neg hh] at hq; cases hq
    rw [if_pos ho12] at hq
    obtain ⟨x11, hx11, hq⟩ := mx_bS hq
    refine mx_e_cv mx_t_X12_keeps ho12 rfl rfl rfl ⟨Nat.le_of_ble_eq_true rfl, Nat.le_of_ble_eq_true rfl, Nat.le_of_ble_eq_true rfl⟩ (Nat.le_of_ble_eq_true rfl) rfl rfl rfl ⟨Nat.zero_le _, Nat.zero_le _⟩ (t_X12_keeps hx11) ?_
    refine mx_p_aln rfl ?_
    have ho14 : a0 < x11.1 ∧ (mx_lay a0).1 = 15 := by
      by_cases hh : a0 < x11.1 ∧ (mx_lay a0).1 = 15
      · exact hh
      · rw [if_neg hh] at hq; cases hq
    rw [if_pos ho14] at hq
    obtain ⟨x13, hx13, hq⟩ := mx_bS hq
    refine mx_e_cv mx_t_X12_ends ho14 rfl rfl rfl ⟨Nat.le_of_ble_eq_true rfl, Nat.le_of_ble_eq_true rfl, Nat.le_of_ble_eq_true rfl⟩ (Nat.le_of_ble_eq_true rfl) rfl rfl rfl ⟨Nat.zero_le _, Nat.zero_le _⟩ (t_X12_ends hx13) ?_
    cases hq; exact mx_e_ri rfl
  · rw [if_neg hc10] at hq
    refine mx_e_zf (fun z => hc10 (of_decide_eq_true z)) ?_
    refine mx_p_bp ?_
    cases hq; exact mx_e_ri rfl
set_option maxRecDepth 20000 in
set_option maxHeartbeats 1000000 in
theorem t_X12_drops {a0 : Nat} {h : mx_Hp} {res} (hq : f_X12_drops a0 h = some res) : mx_Ms mx_k_X12_drops [.ref a0] h (none, res) := by
  unfold f_X12_drops at hq
  show mx_Ev mx_k_X12_drops mx_noS (mx_b_X12_drops 0, [some (.ref a0)], [], h, 0, 0) _
  refine mx_p_aln rfl ?_
  obtain ⟨x6, hx6, hq⟩ := mx_bS hq
  refine mx_e_gr hx6 rfl ?_
  refine mx_p_bp ?_
  refine mx_p_ic ?_
  obtain ⟨h7, hh7, hq⟩ := mx_bS hq
  refine mx_e_as hh7 ?_
  refine mx_p_aln rfl ?_
  obtain ⟨x8, hx8, hq⟩ := mx_bS hq
  refine mx_e_gr hx8 rfl ?_
  refine mx_p_bp ?_
  refine mx_p_dup2 rfl rfl ?_
  obtain ⟨x9, hx9, hq⟩ := mx_bS hq
  refine mx_e_al hx9 ?_
  refine mx_p_ic ?_
  refine mx_p_iadd ?_
  obtain ⟨h10, hh10, hq⟩ := mx_bS hq
  refine mx_e_as hh10 ?_
  cases hq; exact mx_p_rv
set_option maxRecDepth 20000 in
set_option maxHeartbeats 1000000 in
theorem t_X12_drop {a0 : Nat} {h : mx_Hp} {res} (hq : f_X12_drop a0 h = some res) : mx_Ms mx_k_X12_drop [.ref a0] h (some (.int res.1), res.2) := by
  unfold f_X12_drop at hq
  show mx_Ev mx_k_X12_drop mx_noS (mx_b_X12_drop 0, [some (.ref a0), none], [], h, 0, 0) _
  refine mx_p_aln rfl ?_
  obtain ⟨x10, hx10, hq⟩ := mx_bS hq
  refine mx_e_gr hx10 rfl ?_
  refine mx_p_bp ?_
  obtain ⟨x11, hx11, hq⟩ := mx_bS hq
  refine mx_e_al hx11 ?_
  by_cases hc12 : ¬ x11 = 0
  · rw [if_pos hc12] at hq
    refine mx_e_zt (decide_eq_true hc12) ?_
    refine mx_p_aln rfl ?_
    have ho14 : a0 < h.1 ∧ (mx_lay a0).1 = 15 := by
      by_cases hh : a0 < h.1 ∧ (mx_lay a0).1 = 15
      · exact hh
      · rw [if_neg hh] at hq; cases hq
    rw [if_pos ho14] at hq
    obtain ⟨x13, hx13, hq⟩ := mx_bS hq
    refine mx_e_cv mx_t_X12_keeps ho14 rfl rfl rfl ⟨Nat.le_of_ble_eq_true rfl, Nat.le_of_ble_eq_true rfl, Nat.le_of_ble_eq_true rfl⟩ (Nat.le_of_ble_eq_true rfl) rfl rfl rfl ⟨Nat.zero_le _, Nat.zero_le _⟩ (t_X12_keeps hx13) ?_
    refine mx_p_aln rfl ?_
    obtain ⟨x15, hx15, hq⟩ := mx_bS hq
    refine mx_e_gr hx15 rfl ?_
    refine mx_p_bp ?_
    obtain ⟨x16, hx16, hq⟩ := mx_bS hq
    refine mx_e_al hx16 ?_
    refine mx_p_isn (loc' := [some (.ref a0), some (.int x16)]) rfl ?_
    refine mx_p_aln rfl ?_
    have ho18 : a0 < x13.1 ∧ (mx_lay a0).1 = 15 := by
      by_cases hh : a0 < x13.1 ∧ (mx_lay a0).1 = 15
      · exact hh
      · rw [if_neg hh] at hq; cases hq
    rw [if_pos ho18] at hq
    obtain ⟨x17, hx17, hq⟩ := mx_bS hq
    refine mx_e_cv mx_t_X12_drops ho18 rfl rfl rfl ⟨Nat.le_of_ble_eq_true rfl, Nat.le_of_ble_eq_true rfl, Nat.le_of_ble_eq_true rfl⟩ (Nat.le_of_ble_eq_true rfl) rfl rfl rfl ⟨Nat.zero_le _, Nat.zero_le _⟩ (t_X12_drops hx17) ?_
    refine mx_p_iln rfl ?_
    cases hq; exact mx_e_ri rfl
  · rw [if_neg hc12] at hq
    refine mx_e_zf (fun z => hc12 (of_decide_eq_true z)) ?_
    refine mx_p_bp ?_
    cases hq; exact mx_e_ri rfl
set_option maxRecDepth 20000 in
set_option maxHeartbeats 1000000 in
theorem t_X12_learn {a0 : Nat} {a1 : Int32} {a2 : Int32} {h : mx_Hp} {res} (hq : f_X12_learn a0 a1 a2 h = some res) : mx_Ms mx_k_X12_learn [.ref a0, .int a1, .int a2] h (some (.int res.1), res.2) := by
  unfold f_X12_learn at hq
  show mx_Ev mx_k_X12_learn mx_noS (mx_b_X12_learn 0, [some (.ref a0), some (.int a1), some (.int a2)], [], h, 0, 0) _
  refine mx_p_iln rfl ?_
  refine mx_p_ic ?_
  refine mx_p_ic ?_
  obtain ⟨x16, hx16, hq⟩ := mx_bS hq
  refine mx_e_cs mx_t_X12_in rfl rfl rfl ⟨Nat.le_of_ble_eq_true rfl, Nat.le_of_ble_eq_true rfl, Nat.le_of_ble_eq_true rfl⟩ (Nat.le_of_ble_eq_true rfl) rfl rfl ⟨Nat.zero_le _, Nat.zero_le _⟩ (t_X12_in hx16) ?_
  by_cases hc17 : x16 = 0
  · rw [if_pos hc17] at hq
    refine mx_e_zt (decide_eq_true hc17) ?_
    refine mx_p_ic ?_
    cases hq; exact mx_e_ri rfl
  · rw [if_neg hc17] at hq
    refine mx_e_zf (fun z => hc17 (of_decide_eq_true z)) ?_
    refine mx_p_aln rfl ?_
    refine mx_p_iln rfl ?_
    have ho19 : a0 < h.1 ∧ (mx_lay a0).1 = 15 := by
      by_cases hh : a0 < h.1 ∧ (mx_lay a0).1 = 15
      · exact hh
      · rw [if_neg hh] at hq; cases hq
    rw [if_pos ho19] at hq
    obtain ⟨x18, hx18, hq⟩ := mx_bS hq
    refine mx_e_cv mx_t_X12_isWord ho19 rfl rfl rfl ⟨Nat.le_of_ble_eq_true rfl, Nat.le_of_ble_eq_true rfl, Nat.le_of_ble_eq_true rfl⟩ (Nat.le_of_ble_eq_true rfl) rfl rfl rfl ⟨Nat.zero_le _, Nat.zero_le _⟩ (t_X12_isWord hx18) ?_
    by_cases hc20 : ¬ x18 = 0
    · rw [if_pos hc20] at hq
      refine mx_e_zt (decide_eq_true hc20) ?_
      refine mx_p_aln rfl ?_
      have ho22 : a0 < h.1 ∧ (mx_lay a0).1 = 15 := by
        by_cases hh : a0 < h.1 ∧ (mx_lay a0).1 = 15
        · exact hh
        · rw [if_neg hh] at hq; cases hq
      rw [if_pos ho22] at hq
      obtain ⟨x21, hx21, hq⟩ := mx_bS hq
      refine mx_e_cv mx_t_X12_keeps ho22 rfl rfl rfl ⟨Nat.le_of_ble_eq_true rfl, Nat.le_of_ble_eq_true rfl, Nat.le_of_ble_eq_true rfl⟩ (Nat.le_of_ble_eq_true rfl) rfl rfl rfl ⟨Nat.zero_le _, Nat.zero_le _⟩ (t_X12_keeps hx21) ?_
      refine mx_p_aln rfl ?_
      obtain ⟨x23, hx23, hq⟩ := mx_bS hq
      refine mx_e_gr hx23 rfl ?_
      refine mx_p_bp ?_
      refine mx_p_iln rfl ?_
      refine mx_p_iadd ?_
      refine mx_p_dup2 rfl rfl ?_
      obtain ⟨x24, hx24, hq⟩ := mx_bS hq
      refine mx_e_al hx24 ?_
      refine mx_p_ic ?_
      refine mx_p_iln rfl ?_
      refine mx_p_ishl ?_
      refine mx_p_ixor ?_
      obtain ⟨h25, hh25, hq⟩ := mx_bS hq
      refine mx_e_as hh25 ?_
      refine mx_p_aln rfl ?_
      obtain ⟨x26, hx26, hq⟩ := mx_bS hq
      refine mx_e_gr hx26 rfl ?_
      refine mx_p_bp ?_
      refine mx_p_iln rfl ?_
      refine mx_p_iadd ?_
      obtain ⟨x27, hx27, hq⟩ := mx_bS hq
      refine mx_e_al hx27 ?_
      refine mx_p_iln rfl ?_
      obtain ⟨x28, hx28, hq⟩ := mx_bS hq
      refine mx_e_cs mx_t_X12_has rfl rfl rfl ⟨Nat.le_of_ble_eq_true rfl, Nat.le_of_ble_eq_true rfl, Nat.le_of_ble_eq_true rfl⟩ (Nat.le_of_ble_eq_true rfl) rfl rfl ⟨Nat.zero_le _, Nat.zero_le _⟩ (t_X12_has hx28) ?_
      obtain ⟨v30, hE, hK⟩ := mx_bS hq
      have HJ : mx_Ev mx_k_X12_learn mx_noS (mx_b_X12_learn 59, [none, none, none], [.int v30], h25, 0, 0) (some (.int res.1), res.2) := by
        replace hq := hK
        cases hq; exact mx_e_ri rfl
      clear hK
      replace hq := hE
      by_cases hc29 : x28 = 0
      · rw [if_pos hc29] at hq
        refine mx_e_zt (decide_eq_true hc29) ?_
        refine mx_p_ic ?_
        refine mx_p_np ?_
        cases hq; exact mx_Ev.weak (mx_le.drop _ (mx_le.drop _ (mx_le.drop _ (mx_le.nil)))) HJ
      · rw [if_neg hc29] at hq
        refine mx_e_zf (fun z => hc29 (of_decide_eq_true z)) ?_
        refine mx_p_ic ?_
        refine mx_p_gt ?_
        cases hq; exact mx_Ev.weak (mx_le.drop _ (mx_le.drop _ (mx_le.drop _ (mx_le.nil)))) HJ
    · rw [if_neg hc20] at hq
      refine mx_e_zf (fun z => hc20 (of_decide_eq_true z)) ?_
      refine mx_p_np ?_
      refine mx_p_ic ?_
      cases hq; exact mx_e_ri rfl
set_option maxRecDepth 20000 in
set_option maxHeartbeats 1000000 in
theorem e_f_X12_undo_L22 (l0 : Nat)   : ∀ (n : Nat) (s1 : Int32) (hh : mx_Hp) res, mx_fix (f_X12_undo_L22 l0 ) n (s1, hh) = some res → mx_Ev mx_k_X12_undo mx_noS (mx_b_X12_undo 22, [some (.ref l0), some (.int s1)], [], hh, 0, 0) (some (.int res.1), res.2) := by
  intro n
  induction n with
  | zero => intro s1 hh res hq; cases hq
  | succ n ih =>
    intro s1 hh res hq
    unfold mx_fix at hq
    generalize mx_fix (f_X12_undo_L22 l0 ) n = S at hq ih
    unfold f_X12_undo_L22 at hq
    try dsimp only at hq
    refine mx_p_iln rfl ?_
    refine mx_p_bp ?_
    by_cases hc12 : 22 ≤ s1
    · rw [if_pos hc12] at hq
      refine mx_e_it (decide_eq_true hc12) ?_
      refine mx_p_aln rfl ?_
      obtain ⟨x13, hx13, hq⟩ := mx_bS hq
      refine mx_e_gi hx13 (by decide) ?_
      cases hq; exact mx_e_ri rfl
    · rw [if_neg hc12] at hq
      refine mx_e_if (fun z => hc12 (of_decide_eq_true z)) ?_
      refine mx_p_aln rfl ?_
      obtain ⟨x14, hx14, hq⟩ := mx_bS hq
      refine mx_e_gr hx14 rfl ?_
      refine mx_p_iln rfl ?_
      refine mx_p_aln rfl ?_
      obtain ⟨x15, hx15, hq⟩ := mx_bS hq
      refine mx_e_gr hx15 rfl ?_
      refine mx_p_bp ?_
      refine mx_p_aln rfl ?_
      obtain ⟨x16, hx16, hq⟩ := mx_bS hq
      refine mx_e_gi hx16 (by decide) ?_
      refine mx_p_imul ?_
      refine mx_p_iln rfl ?_
      refine mx_p_iadd ?_
      obtain ⟨x17, hx17, hq⟩ := mx_bS hq
      refine mx_e_al hx17 ?_
      obtain ⟨h18, hh18, hq⟩ := mx_bS hq
      refine mx_e_as hh18 ?_
      refine mx_p_inc (loc' := [some (.ref l0), some (.int (s1 + 1))]) rfl rfl ?_
      refine mx_p_gt ?_
      have HB := ih (s1 + 1) h18 _ hq
      exact mx_Ev.weak (mx_le.same _ (mx_le.same _ (mx_le.nil))) HB
set_option maxRecDepth 20000 in
set_option maxHeartbeats 1000000 in
theorem t_X12_undo {a0 : Nat} {h : mx_Hp} {res} (hq : f_X12_undo a0 h = some res) : mx_Ms mx_k_X12_undo [.ref a0] h (some (.int res.1), res.2) := by
  unfold f_X12_undo at hq
  show mx_Ev mx_k_X12_undo mx_noS (mx_b_X12_undo 0, [some (.ref a0), none], [], h, 0, 0) _
  refine mx_p_aln rfl ?_
  obtain ⟨x19, hx19, hq⟩ := mx_bS hq
  refine mx_e_gi hx19 (by decide) ?_
  by_cases hc20 : ¬ x19 = 0
  · rw [if_pos hc20] at hq
    refine mx_e_zt (decide_eq_true hc20) ?_
    refine mx_p_aln rfl ?_
    refine mx_p_dup rfl ?_
    obtain ⟨x21, hx21, hq⟩ := mx_bS hq
    refine mx_e_gi hx21 (by decide) ?_
    refine mx_p_ic ?_
    refine mx_p_isub ?_
    obtain ⟨h22, hh22, hq⟩ := mx_bS hq
    refine mx_e_pi hh22 ?_
    refine mx_p_ic ?_
    refine mx_p_isn (loc' := [some (.ref a0), some (.int 0)]) rfl ?_
    refine mx_p_np ?_
    refine mx_Ev.weak (mx_le.same _ (mx_le.same _ (mx_le.nil))) (e_f_X12_undo_L22 _  _ _ _ _ hq)
  · rw [if_neg hc20] at hq
    refine mx_e_zf (fun z => hc20 (of_decide_eq_true z)) ?_
    refine mx_p_bp ?_
    cases hq; exact mx_e_ri rfl
set_option maxRecDepth 20000 in
set_option maxHeartbeats 1000000 in
theorem t_X12_finishing {a0 : Nat} {a1 : Int32} {h : mx_Hp} {res} (hq : f_X12_finishing a0 a1 h = some res) : mx_Ms mx_k_X12_finishing [.ref a0, .int a1] h (some (.int res.1), res.2) := by
  unfold f_X12_finishing at hq
  show mx_Ev mx_k_X12_finishing mx_noS (mx_b_X12_finishing 0, [some (.ref a0), some (.int a1), none], [], h, 0, 0) _
  refine mx_p_iln rfl ?_
  refine mx_p_ic ?_
  refine mx_p_ic ?_
  obtain ⟨x11, hx11, hq⟩ := mx_bS hq
  refine mx_e_cs mx_t_X12_in rfl rfl rfl ⟨Nat.le_of_ble_eq_true rfl, Nat.le_of_ble_eq_true rfl, Nat.le_of_ble_eq_true rfl⟩ (Nat.le_of_ble_eq_true rfl) rfl rfl ⟨Nat.zero_le _, Nat.zero_le _⟩ (t_X12_in hx11) ?_
  by_cases hc12 : ¬ x11 = 0
  · rw [if_pos hc12] at hq
    refine mx_e_zt (decide_eq_true hc12) ?_
    refine mx_p_aln rfl ?_
    have ho14 : a0 < h.1 ∧ (mx_lay a0).1 = 15 := by
      by_cases hh : a0 < h.1 ∧ (mx_lay a0).1 = 15
      · exact hh
      · rw [if_neg hh] at hq; cases hq
    rw [if_pos ho14] at hq
    obtain ⟨x13, hx13, hq⟩ := mx_bS hq
    refine mx_e_cv mx_t_X12_finishesNow ho14 rfl rfl rfl ⟨Nat.le_of_ble_eq_true rfl, Nat.le_of_ble_eq_true rfl, Nat.le_of_ble_eq_true rfl⟩ (Nat.le_of_ble_eq_true rfl) rfl rfl rfl ⟨Nat.zero_le _, Nat.zero_le _⟩ (t_X12_finishesNow hx13) ?_
    refine mx_p_isn (loc' := [some (.ref a0), some (.int a1), some (.int x13.1)]) rfl ?_
    refine mx_p_iln rfl ?_
    obtain ⟨v20, hE, hK⟩ := mx_bS hq
    have HJ : mx_Ev mx_k_X12_finishing mx_noS (mx_b_X12_finishing 50, [none, none, none], [.int v20], x13.2, 0, 0) (some (.int res.1), res.2) := by
      replace hq := hK
      cases hq; exact mx_e_ri rfl
    clear hK
    replace hq := hE
    by_cases hc15 : ¬ x13.1 = 0
    · rw [if_pos hc15] at hq
      refine mx_e_zt (decide_eq_true hc15) ?_
      refine mx_p_iln rfl ?_
      refine mx_p_ic ?_
      by_cases hc16 : ¬ a1 = (-1)
      · rw [if_pos hc16] at hq
        refine mx_e_it (decide_eq_true hc16) ?_
        refine mx_p_iln rfl ?_
        refine mx_p_iln rfl ?_
        by_cases hc17 : x13.1 ≤ a1
        · rw [if_pos hc17] at hq
          refine mx_e_it (decide_eq_true hc17) ?_
          refine mx_p_bp ?_
          refine mx_p_np ?_
          cases hq; exact mx_Ev.weak (mx_le.drop _ (mx_le.drop _ (mx_le.drop _ (mx_le.nil)))) HJ
        · rw [if_neg hc17] at hq
          refine mx_e_if (fun z => hc17 (of_decide_eq_true z)) ?_
          refine mx_p_aln rfl ?_
          obtain ⟨x18, hx18, hq⟩ := mx_bS hq
          refine mx_e_gr hx18 rfl ?_
          refine mx_p_iln rfl ?_
          obtain ⟨x19, hx19, hq⟩ := mx_bS hq
          refine mx_e_al hx19 ?_
          refine mx_p_gt ?_
          cases hq; exact mx_Ev.weak (mx_le.drop _ (mx_le.drop _ (mx_le.drop _ (mx_le.nil)))) HJ
      · rw [if_neg hc16] at hq
        refine mx_e_if (fun z => hc16 (of_decide_eq_true z)) ?_
        refine mx_p_iln rfl ?_
        refine mx_p_gt ?_
        cases hq; exact mx_Ev.weak (mx_le.drop _ (mx_le.drop _ (mx_le.drop _ (mx_le.nil)))) HJ
    · rw [if_neg hc15] at hq
      refine mx_e_zf (fun z => hc15 (of_decide_eq_true z)) ?_
      refine mx_p_bp ?_
      refine mx_p_gt ?_
      cases hq; exact mx_Ev.weak (mx_le.drop _ (mx_le.drop _ (mx_le.drop _ (mx_le.nil)))) HJ
  · rw [if_neg hc12] at hq
    refine mx_e_zf (fun z => hc12 (of_decide_eq_true z)) ?_
    refine mx_p_ic ?_
    cases hq; exact mx_e_ri rfl
set_option maxRecDepth 20000 in
set_option maxHeartbeats 1000000 in
theorem e_f_X12_lost_L11 (l0 : Nat) (l2 : Int32)   : ∀ (n : Nat) (s3 : Int32) (s4 : Int32) (hh : mx_Hp) res, mx_fix (f_X12_lost_L11 l0 l2 ) n (s3, s4, hh) = some res → mx_Ev mx_k_X12_lost mx_noS (mx_b_X12_lost 11, [some (.ref l0), none, some (.int l2), some (.int s3), some (.int s4)], [], hh, 0, 0) (some (.int res.1), res.2) := by
  intro n
  induction n with
  | zero => intro s3 s4 hh res hq; cases hq
  | succ n ih =>
    intro s3 s4 hh res hq
    unfold mx_fix at hq
    generalize mx_fix (f_X12_lost_L11 l0 l2 ) n = S at hq ih
    unfold f_X12_lost_L11 at hq
    try dsimp only at hq
    refine mx_p_il rfl ?_
    refine mx_p_aln rfl ?_
    obtain ⟨x10, hx10, hq⟩ := mx_bS hq
    refine mx_e_gr hx10 rfl ?_
    refine mx_p_ic ?_
    obtain ⟨x11, hx11, hq⟩ := mx_bS hq
    refine mx_e_al hx11 ?_
    by_cases hc12 : x11 ≤ s4
    · rw [if_pos hc12] at hq
      refine mx_e_it (decide_eq_true hc12) ?_
      refine mx_p_iln rfl ?_
      cases hq; exact mx_e_ri rfl
    · rw [if_neg hc12] at hq
      refine mx_e_if (fun z => hc12 (of_decide_eq_true z)) ?_
      refine mx_p_iln rfl ?_
      refine mx_p_aln rfl ?_
      refine mx_p_il rfl ?_
      refine mx_p_iln rfl ?_
      have ho14 : l0 < hh.1 ∧ (mx_lay l0).1 = 15 := by
        by_cases hh : l0 < hh.1 ∧ (mx_lay l0).1 = 15
        · exact hh
        · rw [if_neg hh] at hq; cases hq
      rw [if_pos ho14] at hq
      obtain ⟨x13, hx13, hq⟩ := mx_bS hq
      refine mx_e_cv mx_t_X12_finishes ho14 rfl rfl rfl ⟨Nat.le_of_ble_eq_true rfl, Nat.le_of_ble_eq_true rfl, Nat.le_of_ble_eq_true rfl⟩ (Nat.le_of_ble_eq_true rfl) rfl rfl rfl ⟨Nat.zero_le _, Nat.zero_le _⟩ (t_X12_finishes hx13) ?_
      obtain ⟨v16, hE, hK⟩ := mx_bS hq
      have HJ : mx_Ev mx_k_X12_lost mx_noS (mx_b_X12_lost 41, [some (.ref l0), none, some (.int l2), none, some (.int s4)], [.int v16, .int s3], x13.2, 0, 0) (some (.int res.1), res.2) := by
        replace hq := hK
        refine mx_p_ior ?_
        refine mx_p_isn (loc' := [some (.ref l0), none, some (.int l2), some (.int (s3 ||| v16)), some (.int s4)]) rfl ?_
        refine mx_p_inc (loc' := [some (.ref l0), none, some (.int l2), some (.int (s3 ||| v16)), some (.int (s4 + 1))]) rfl rfl ?_
        refine mx_p_gt ?_
        have HB := ih (s3 ||| v16) (s4 + 1) x13.2 _ hq
        exact mx_Ev.weak (mx_le.same _ (mx_le.same _ (mx_le.same _ (mx_le.same _ (mx_le.same _ (mx_le.nil)))))) HB
      clear hK
      replace hq := hE
      by_cases hc15 : x13.1 ≤ 0
      · rw [if_pos hc15] at hq
        refine mx_e_zt (decide_eq_true hc15) ?_
        refine mx_p_ic ?_
        refine mx_p_np ?_
        cases hq; exact mx_Ev.weak (mx_le.same _ (mx_le.same _ (mx_le.same _ (mx_le.drop _ (mx_le.same _ (mx_le.nil)))))) HJ
      · rw [if_neg hc15] at hq
        refine mx_e_zf (fun z => hc15 (of_decide_eq_true z)) ?_
        refine mx_p_ic ?_
        refine mx_p_il rfl ?_
        refine mx_p_ishl ?_
        refine mx_p_gt ?_
        cases hq; exact mx_Ev.weak (mx_le.same _ (mx_le.same _ (mx_le.same _ (mx_le.drop _ (mx_le.same _ (mx_le.nil)))))) HJ
set_option maxRecDepth 20000 in
set_option maxHeartbeats 1000000 in
theorem t_X12_lost {a0 : Nat} {a1 : Int32} {h : mx_Hp} {res} (hq : f_X12_lost a0 a1 h = some res) : mx_Ms mx_k_X12_lost [.ref a0, .int a1] h (some (.int res.1), res.2) := by
  unfold f_X12_lost at hq
  show mx_Ev mx_k_X12_lost mx_noS (mx_b_X12_lost 0, [some (.ref a0), some (.int a1), none, none, none], [], h, 0, 0) _
  refine mx_p_aln rfl ?_
  refine mx_p_iln rfl ?_
  have ho18 : a0 < h.1 ∧ (mx_lay a0).1 = 15 := by
    by_cases hh : a0 < h.1 ∧ (mx_lay a0).1 = 15
    · exact hh
    · rw [if_neg hh] at hq; cases hq
  rw [if_pos ho18] at hq
  obtain ⟨x17, hx17, hq⟩ := mx_bS hq
  refine mx_e_cv mx_t_X12_knowsFor ho18 rfl rfl rfl ⟨Nat.le_of_ble_eq_true rfl, Nat.le_of_ble_eq_true rfl, Nat.le_of_ble_eq_true rfl⟩ (Nat.le_of_ble_eq_true rfl) rfl rfl rfl ⟨Nat.zero_le _, Nat.zero_le _⟩ (t_X12_knowsFor hx17) ?_
  refine mx_p_isn (loc' := [some (.ref a0), some (.int a1), some (.int x17), none, none]) rfl ?_
  refine mx_p_ic ?_
  refine mx_p_isn (loc' := [some (.ref a0), some (.int a1), some (.int x17), some (.int 0), none]) rfl ?_
  refine mx_p_ic ?_
  refine mx_p_is (loc' := [some (.ref a0), some (.int a1), some (.int x17), some (.int 0), some (.int 0)]) rfl ?_
  refine mx_p_np ?_
  refine mx_Ev.weak (mx_le.same _ (mx_le.drop _ (mx_le.same _ (mx_le.same _ (mx_le.same _ (mx_le.nil)))))) (e_f_X12_lost_L11 _ _  _ _ _ _ _ hq)
set_option maxRecDepth 20000 in
set_option maxHeartbeats 1000000 in
theorem e_f_X12_reckons_L46 (l0 : Nat) (l1 : Int32) (l2 : Int32) (l3 : Int32) (k199 : Int32 × mx_Hp → Option (mx_Hp)) (Hk199 : ∀ (s4 : Int32) (hh : mx_Hp) res, k199 (s4, hh) = some res → mx_Ev mx_k_X12_reckons mx_noS (mx_b_X12_reckons 199, [some (.ref l0), some (.int l1), some (.int l2), some (.int l3), none, none, none, none], [], hh, 0, 0) (none, res)) : ∀ (n : Nat) (s4 : Int32) (hh : mx_Hp) res, mx_fix (f_X12_reckons_L46 l0 l1 l2 l3 k199) n (s4, hh) = some res → mx_Ev mx_k_X12_reckons mx_noS (mx_b_X12_reckons 46, [some (.ref l0), some (.int l1), some (.int l2), some (.int l3), some (.int s4), none, none, none], [], hh, 0, 0) (none, res) := by
  intro n
  induction n with
  | zero => intro s4 hh res hq; cases hq
  | succ n ih =>
    intro s4 hh res hq
    unfold mx_fix at hq
    generalize mx_fix (f_X12_reckons_L46 l0 l1 l2 l3 k199) n = S at hq ih
    unfold f_X12_reckons_L46 at hq
    try dsimp only at hq
    refine mx_p_il rfl ?_
    refine mx_p_aln rfl ?_
    obtain ⟨x40, hx40, hq⟩ := mx_bS hq
    refine mx_e_gr hx40 rfl ?_
    refine mx_p_ic ?_
    obtain ⟨x41, hx41, hq⟩ := mx_bS hq
    refine mx_e_al hx41 ?_
    by_cases hc42 : x41 ≤ s4
    · rw [if_pos hc42] at hq
      refine mx_e_it (decide_eq_true hc42) ?_
      have HB := Hk199 s4 hh _ hq
      exact mx_Ev.weak (mx_le.same _ (mx_le.same _ (mx_le.same _ (mx_le.same _ (mx_le.drop _ (mx_le.same _ (mx_le.same _ (mx_le.same _ (mx_le.nil))))))))) HB
    · rw [if_neg hc42] at hq
      refine mx_e_if (fun z => hc42 (of_decide_eq_true z)) ?_
      refine mx_p_iln rfl ?_
      refine mx_p_il rfl ?_
      obtain ⟨x43, hx43, hq⟩ := mx_bS hq
      refine mx_e_cs mx_t_X12_has rfl rfl rfl ⟨Nat.le_of_ble_eq_true rfl, Nat.le_of_ble_eq_true rfl, Nat.le_of_ble_eq_true rfl⟩ (Nat.le_of_ble_eq_true rfl) rfl rfl ⟨Nat.zero_le _, Nat.zero_le _⟩ (t_X12_has hx43) ?_
      obtain ⟨v47, hE, hK⟩ := mx_bS hq
      have HJ : mx_Ev mx_k_X12_reckons mx_noS (mx_b_X12_reckons 80, [some (.ref l0), some (.int l1), some (.int l2), some (.int l3), some (.int s4), none, none, none], [.int v47], hh, 0, 0) (none, res) := by
        replace hq := hK
        refine mx_p_is (loc' := [some (.ref l0), some (.int l1), some (.int l2), some (.int l3), some (.int s4), some (.int v47), none, none]) rfl ?_
        refine mx_p_il rfl ?_
        refine mx_p_aln rfl ?_
        obtain ⟨x48, hx48, hq⟩ := mx_bS hq
        refine mx_e_gr hx48 rfl ?_
        refine mx_p_bp ?_
        refine mx_p_iln rfl ?_
        refine mx_p_iadd ?_
        refine mx_p_ic ?_
        refine mx_p_isub ?_
        obtain ⟨x49, hx49, hq⟩ := mx_bS hq
        refine mx_e_al hx49 ?_
        refine mx_p_iand ?_
        obtain ⟨v51, hE, hK⟩ := mx_bS hq
        have HJ : mx_Ev mx_k_X12_reckons mx_noS (mx_b_X12_reckons 104, [some (.ref l0), some (.int l1), some (.int l2), some (.int l3), some (.int s4), some (.int v47), none, none], [.int v51], hh, 0, 0) (none, res) := by
          replace hq := hK
          refine mx_p_is (loc' := [some (.ref l0), some (.int l1), some (.int l2), some (.int l3), some (.int s4), some (.int v47), some (.int v51), none]) rfl ?_
          refine mx_p_il rfl ?_
          refine mx_p_aln rfl ?_
          obtain ⟨x52, hx52, hq⟩ := mx_bS hq
          refine mx_e_gr hx52 rfl ?_
          refine mx_p_bp ?_
          refine mx_p_iln rfl ?_
          refine mx_p_iadd ?_
          refine mx_p_ic ?_
          refine mx_p_isub ?_
          obtain ⟨x53, hx53, hq⟩ := mx_bS hq
          refine mx_e_al hx53 ?_
          refine mx_p_iand ?_
          refine mx_p_iln rfl ?_
          obtain ⟨x54, hx54, hq⟩ := mx_bS hq
          refine mx_e_cs mx_t_X12_has rfl rfl rfl ⟨Nat.le_of_ble_eq_true rfl, Nat.le_of_ble_eq_true rfl, Nat.le_of_ble_eq_true rfl⟩ (Nat.le_of_ble_eq_true rfl) rfl rfl ⟨Nat.zero_le _, Nat.zero_le _⟩ (t_X12_has hx54) ?_
          refine mx_p_is (loc' := [some (.ref l0), some (.int l1), some (.int l2), some (.int l3), some (.int s4), some (.int v47), some (.int v51), some (.int x54)]) rfl ?_
          refine mx_p_aln rfl ?_
          obtain ⟨x55, hx55, hq⟩ := mx_bS hq
          refine mx_e_gr hx55 rfl ?_
          refine mx_p_bp ?_
          refine mx_p_iln rfl ?_
          refine mx_p_iadd ?_
          refine mx_p_dup2 rfl rfl ?_
          obtain ⟨x56, hx56, hq⟩ := mx_bS hq
          refine mx_e_al hx56 ?_
          refine mx_p_il rfl ?_
          obtain ⟨v58, hE, hK⟩ := mx_bS hq
          have HJ : mx_Ev mx_k_X12_reckons mx_noS (mx_b_X12_reckons 149, [some (.ref l0), some (.int l1), some (.int l2), some (.int l3), some (.int s4), some (.int v47), none, some (.int x54)], [.int v58, .int x56, .int (10 + l3), .ref x55], hh, 0, 0) (none, res) := by
            replace hq := hK
            refine mx_p_ior ?_
            obtain ⟨h59, hh59, hq⟩ := mx_bS hq
            refine mx_e_as hh59 ?_
            refine mx_p_aln rfl ?_
            obtain ⟨x60, hx60, hq⟩ := mx_bS hq
            refine mx_e_gr hx60 rfl ?_
            refine mx_p_iln rfl ?_
            refine mx_p_dup2 rfl rfl ?_
            obtain ⟨x61, hx61, hq⟩ := mx_bS hq
            refine mx_e_al hx61 ?_
            refine mx_p_il rfl ?_
            obtain ⟨v66, hE, hK⟩ := mx_bS hq
            have HJ : mx_Ev mx_k_X12_reckons mx_noS (mx_b_X12_reckons 191, [some (.ref l0), some (.int l1), some (.int l2), some (.int l3), some (.int s4), none, none, none], [.int v66, .int x61, .int l3, .ref x60], h59, 0, 0) (none, res) := by
              replace hq := hK
              refine mx_p_ior ?_
              obtain ⟨h67, hh67, hq⟩ := mx_bS hq
              refine mx_e_as hh67 ?_
              refine mx_p_inc (loc' := [some (.ref l0), some (.int l1), some (.int l2), some (.int l3), some (.int (s4 + 1)), none, none, none]) rfl rfl ?_
              refine mx_p_gt ?_
              have HB := ih (s4 + 1) h67 _ hq
              exact mx_Ev.weak (mx_le.same _ (mx_le.same _ (mx_le.same _ (mx_le.same _ (mx_le.same _ (mx_le.same _ (mx_le.same _ (mx_le.same _ (mx_le.nil))))))))) HB
            clear hK
            replace hq := hE
            by_cases hc62 : ¬ x54 = 0
            · rw [if_pos hc62] at hq
              refine mx_e_zt (decide_eq_true hc62) ?_
              refine mx_p_ic ?_
              refine mx_p_il rfl ?_
              refine mx_p_ishl ?_
              refine mx_p_gt ?_
              cases hq; exact mx_Ev.weak (mx_le.same _ (mx_le.same _ (mx_le.same _ (mx_le.same _ (mx_le.same _ (mx_le.drop _ (mx_le.same _ (mx_le.drop _ (mx_le.nil))))))))) HJ
            · rw [if_neg hc62] at hq
              refine mx_e_zf (fun z => hc62 (of_decide_eq_true z)) ?_
              refine mx_p_il rfl ?_
              refine mx_p_ic ?_
              refine mx_p_iln rfl ?_
              refine mx_p_ishl ?_
              refine mx_p_ic ?_
              refine mx_p_ixor ?_
              refine mx_p_iand ?_
              refine mx_p_aln rfl ?_
              obtain ⟨x63, hx63, hq⟩ := mx_bS hq
              refine mx_e_gr hx63 rfl ?_
              refine mx_p_iln rfl ?_
              refine mx_p_ic ?_
              refine mx_p_isub ?_
              obtain ⟨x64, hx64, hq⟩ := mx_bS hq
              refine mx_e_al hx64 ?_
              refine mx_p_iand ?_
              by_cases hc65 : ((v47 &&& (((1 : Int32) <<< (l1 &&& 31)) ^^^ (-1))) &&& x64) = 0
              · rw [if_pos hc65] at hq
                refine mx_e_zt (decide_eq_true hc65) ?_
                refine mx_p_ic ?_
                refine mx_p_np ?_
                cases hq; exact mx_Ev.weak (mx_le.same _ (mx_le.same _ (mx_le.same _ (mx_le.same _ (mx_le.same _ (mx_le.drop _ (mx_le.same _ (mx_le.drop _ (mx_le.nil))))))))) HJ
              · rw [if_neg hc65] at hq
                refine mx_e_zf (fun z => hc65 (of_decide_eq_true z)) ?_
                refine mx_p_np ?_
                refine mx_p_ic ?_
                refine mx_p_il rfl ?_
                refine mx_p_ishl ?_
                refine mx_p_gt ?_
                cases hq; exact mx_Ev.weak (mx_le.same _ (mx_le.same _ (mx_le.same _ (mx_le.same _ (mx_le.same _ (mx_le.drop _ (mx_le.same _ (mx_le.drop _ (mx_le.nil))))))))) HJ
          clear hK
          replace hq := hE
          by_cases hc57 : v51 = 0
          · rw [if_pos hc57] at hq
            refine mx_e_zt (decide_eq_true hc57) ?_
            refine mx_p_ic ?_
            refine mx_p_np ?_
            cases hq; exact mx_Ev.weak (mx_le.same _ (mx_le.same _ (mx_le.same _ (mx_le.same _ (mx_le.same _ (mx_le.same _ (mx_le.drop _ (mx_le.same _ (mx_le.nil))))))))) HJ
          · rw [if_neg hc57] at hq
            refine mx_e_zf (fun z => hc57 (of_decide_eq_true z)) ?_
            refine mx_p_ic ?_
            refine mx_p_il rfl ?_
            refine mx_p_ishl ?_
            refine mx_p_gt ?_
            cases hq; exact mx_Ev.weak (mx_le.same _ (mx_le.same _ (mx_le.same _ (mx_le.same _ (mx_le.same _ (mx_le.same _ (mx_le.drop _ (mx_le.same _ (mx_le.nil))))))))) HJ
        clear hK
        replace hq := hE
        by_cases hc50 : (v47 &&& x49) = 0
        · rw [if_pos hc50] at hq
          refine mx_e_zt (decide_eq_true hc50) ?_
          refine mx_p_ic ?_
          refine mx_p_np ?_
          cases hq; exact mx_Ev.weak (mx_le.same _ (mx_le.same _ (mx_le.same _ (mx_le.same _ (mx_le.same _ (mx_le.same _ (mx_le.same _ (mx_le.same _ (mx_le.nil))))))))) HJ
        · rw [if_neg hc50] at hq
          refine mx_e_zf (fun z => hc50 (of_decide_eq_true z)) ?_
          refine mx_p_ic ?_
          refine mx_p_gt ?_
          cases hq; exact mx_Ev.weak (mx_le.same _ (mx_le.same _ (mx_le.same _ (mx_le.same _ (mx_le.same _ (mx_le.same _ (mx_le.same _ (mx_le.same _ (mx_le.nil))))))))) HJ
      clear hK
      replace hq := hE
      by_cases hc44 : x43 = 0
      · rw [if_pos hc44] at hq
        refine mx_e_zt (decide_eq_true hc44) ?_
        refine mx_p_aln rfl ?_
        obtain ⟨x45, hx45, hq⟩ := mx_bS hq
        refine mx_e_gr hx45 rfl ?_
        refine mx_p_bp ?_
        refine mx_p_il rfl ?_
        refine mx_p_iadd ?_
        obtain ⟨x46, hx46, hq⟩ := mx_bS hq
        refine mx_e_al hx46 ?_
        refine mx_p_np ?_
        cases hq; exact mx_Ev.weak (mx_le.same _ (mx_le.same _ (mx_le.same _ (mx_le.same _ (mx_le.same _ (mx_le.same _ (mx_le.same _ (mx_le.same _ (mx_le.nil))))))))) HJ
      · rw [if_neg hc44] at hq
        refine mx_e_zf (fun z => hc44 (of_decide_eq_true z)) ?_
        refine mx_p_ic ?_
        refine mx_p_gt ?_
        cases hq; exact mx_Ev.weak (mx_le.same _ (mx_le.same _ (mx_le.same _ (mx_le.same _ (mx_le.same _ (mx_le.same _ (mx_le.same _ (mx_le.same _ (mx_le.nil))))))))) HJ
set_option maxRecDepth 20000 in
set_option maxHeartbeats 1000000 in
theorem e_f_X12_reckons_L20 (l0 : Nat) (l1 : Int32) (l2 : Int32)   : ∀ (n : Nat) (s3 : Int32) (hh : mx_Hp) res, mx_fix (f_X12_reckons_L20 l0 l1 l2 ) n (s3, hh) = some res → mx_Ev mx_k_X12_reckons mx_noS (mx_b_X12_reckons 20, [some (.ref l0), some (.int l1), some (.int l2), some (.int s3), none, none, none, none], [], hh, 0, 0) (none, res) := by
  intro n
  induction n with
  | zero => intro s3 hh res hq; cases hq
  | succ n ih =>
    intro s3 hh res hq
    unfold mx_fix at hq
    generalize mx_fix (f_X12_reckons_L20 l0 l1 l2 ) n = S at hq ih
    unfold f_X12_reckons_L20 at hq
    try dsimp only at hq
    refine mx_p_iln rfl ?_
    refine mx_p_bp ?_
    by_cases hc69 : 10 ≤ s3
    · rw [if_pos hc69] at hq
      refine mx_e_it (decide_eq_true hc69) ?_
      cases hq; exact mx_p_rv
    · rw [if_neg hc69] at hq
      refine mx_e_if (fun z => hc69 (of_decide_eq_true z)) ?_
      refine mx_p_aln rfl ?_
      obtain ⟨x70, hx70, hq⟩ := mx_bS hq
      refine mx_e_gr hx70 rfl ?_
      refine mx_p_iln rfl ?_
      refine mx_p_ic ?_
      obtain ⟨h71, hh71, hq⟩ := mx_bS hq
      refine mx_e_as hh71 ?_
      refine mx_p_aln rfl ?_
      obtain ⟨x72, hx72, hq⟩ := mx_bS hq
      refine mx_e_gr hx72 rfl ?_
      refine mx_p_bp ?_
      refine mx_p_iln rfl ?_
      refine mx_p_iadd ?_
      refine mx_p_ic ?_
      obtain ⟨h73, hh73, hq⟩ := mx_bS hq
      refine mx_e_as hh73 ?_
      refine mx_p_ic ?_
      refine mx_p_is (loc' := [some (.ref l0), some (.int l1), some (.int l2), some (.int s3), some (.int 0), none, none, none]) rfl ?_
      refine mx_p_np ?_
      refine mx_Ev.weak (mx_le.same _ (mx_le.same _ (mx_le.same _ (mx_le.same _ (mx_le.same _ (mx_le.same _ (mx_le.same _ (mx_le.same _ (mx_le.nil))))))))) (e_f_X12_reckons_L46 _ _ _ _ _ ?_ _ _ _ _ hq)
      · intro c74 c75 res hq
        try dsimp only at hq
        refine mx_p_inc (loc' := [some (.ref l0), some (.int l1), some (.int l2), some (.int (s3 + 1)), none, none, none, none]) rfl rfl ?_
        refine mx_p_gt ?_
        have HB := ih (s3 + 1) c75 _ hq
        exact mx_Ev.weak (mx_le.same _ (mx_le.same _ (mx_le.same _ (mx_le.same _ (mx_le.same _ (mx_le.same _ (mx_le.same _ (mx_le.same _ (mx_le.nil))))))))) HB
set_option maxRecDepth 20000 in
set_option maxHeartbeats 1000000 in
theorem t_X12_reckons {a0 : Nat} {a1 : Int32} {a2 : Int32} {h : mx_Hp} {res} (hq : f_X12_reckons a0 a1 a2 h = some res) : mx_Ms mx_k_X12_reckons [.ref a0, .int a1, .int a2] h (none, res) := by
  unfold f_X12_reckons at hq
  show mx_Ev mx_k_X12_reckons mx_noS (mx_b_X12_reckons 0, [some (.ref a0), some (.int a1), some (.int a2), none, none, none, none, none], [], h, 0, 0) _
  refine mx_p_aln rfl ?_
  obtain ⟨x76, hx76, hq⟩ := mx_bS hq
  refine mx_e_gr hx76 rfl ?_
  refine mx_p_ic ?_
  refine mx_p_ic ?_
  obtain ⟨h77, hh77, hq⟩ := mx_bS hq
  refine mx_e_as hh77 ?_
  refine mx_p_aln rfl ?_
  obtain ⟨x78, hx78, hq⟩ := mx_bS hq
  refine mx_e_gr hx78 rfl ?_
  refine mx_p_bp ?_
  refine mx_p_aln rfl ?_
  have ho80 : a0 < h77.1 ∧ (mx_lay a0).1 = 15 := by
    by_cases hh : a0 < h77.1 ∧ (mx_lay a0).1 = 15
    · exact hh
    · rw [if_neg hh] at hq; cases hq
  rw [if_pos ho80] at hq
  obtain ⟨x79, hx79, hq⟩ := mx_bS hq
  refine mx_e_cv mx_t_X12_stops ho80 rfl rfl rfl ⟨Nat.le_of_ble_eq_true rfl, Nat.le_of_ble_eq_true rfl, Nat.le_of_ble_eq_true rfl⟩ (Nat.le_of_ble_eq_true rfl) rfl rfl rfl ⟨Nat.zero_le _, Nat.zero_le _⟩ (t_X12_stops hx79) ?_
  obtain ⟨h81, hh81, hq⟩ := mx_bS hq
  refine mx_e_as hh81 ?_
  refine mx_p_ic ?_
  refine mx_p_isn (loc' := [some (.ref a0), some (.int a1), some (.int a2), some (.int 1), none, none, none, none]) rfl ?_
  refine mx_p_np ?_
  refine mx_Ev.weak (mx_le.same _ (mx_le.same _ (mx_le.same _ (mx_le.same _ (mx_le.same _ (mx_le.same _ (mx_le.same _ (mx_le.same _ (mx_le.nil))))))))) (e_f_X12_reckons_L20 _ _ _  _ _ _ _ hq)
set_option maxRecDepth 20000 in
set_option maxHeartbeats 1000000 in
theorem e_f_X12_lowest_L2 (l0 : Int32) (h : mx_Hp)   : ∀ (n : Nat) (s1 : Int32) res, mx_fix (f_X12_lowest_L2 l0 h ) n s1 = some res → mx_Ev mx_k_X12_lowest mx_noS (mx_b_X12_lowest 2, [some (.int l0), some (.int s1)], [], h, 0, 0) (some (.int res), h) := by
  intro n
  induction n with
  | zero => intro s1 res hq; cases hq
  | succ n ih =>
    intro s1 res hq
    unfold mx_fix at hq
    generalize mx_fix (f_X12_lowest_L2 l0 h ) n = S at hq ih
    unfold f_X12_lowest_L2 at hq
    try dsimp only at hq
    refine mx_p_iln rfl ?_
    refine mx_p_iln rfl ?_
    obtain ⟨x3, hx3, hq⟩ := mx_bS hq
    refine mx_e_cs mx_t_X12_has rfl rfl rfl ⟨Nat.le_of_ble_eq_true rfl, Nat.le_of_ble_eq_true rfl, Nat.le_of_ble_eq_true rfl⟩ (Nat.le_of_ble_eq_true rfl) rfl rfl ⟨Nat.zero_le _, Nat.zero_le _⟩ (t_X12_has hx3) ?_
    by_cases hc4 : ¬ x3 = 0
    · rw [if_pos hc4] at hq
      refine mx_e_zt (decide_eq_true hc4) ?_
      refine mx_p_iln rfl ?_
      cases hq; exact mx_e_ri rfl
    · rw [if_neg hc4] at hq
      refine mx_e_zf (fun z => hc4 (of_decide_eq_true z)) ?_
      refine mx_p_inc (loc' := [some (.int l0), some (.int (s1 + 1))]) rfl rfl ?_
      refine mx_p_gt ?_
      have HB := ih (s1 + 1) _ hq
      exact mx_Ev.weak (mx_le.same _ (mx_le.same _ (mx_le.nil))) HB
set_option maxRecDepth 20000 in
set_option maxHeartbeats 1000000 in
theorem t_X12_lowest {a0 : Int32} {h : mx_Hp} {res} (hq : f_X12_lowest a0 h = some res) : mx_Ms mx_k_X12_lowest [.int a0] h (some (.int res), h) := by
  unfold f_X12_lowest at hq
  show mx_Ev mx_k_X12_lowest mx_noS (mx_b_X12_lowest 0, [some (.int a0), none], [], h, 0, 0) _
  refine mx_p_ic ?_
  refine mx_p_isn (loc' := [some (.int a0), some (.int 0)]) rfl ?_
  refine mx_p_np ?_
  refine mx_Ev.weak (mx_le.same _ (mx_le.same _ (mx_le.nil))) (e_f_X12_lowest_L2 _ _  _ _ _ hq)
set_option maxRecDepth 20000 in
set_option maxHeartbeats 1000000 in
theorem e_f_X12_isSafe_L53 (l0 : Nat) (l1 : Int32) (l3 : Int32) (l5 : Int32)   : ∀ (n : Nat) (s4 : Int32) (s6 : Int32) (s7 : Int32) (hh : mx_Hp) res, mx_fix (f_X12_isSafe_L53 l0 l1 l3 l5 ) n (s4, s6, s7, hh) = some res → mx_Ev mx_k_X12_isSafe mx_noS (mx_b_X12_isSafe 53, [some (.ref l0), some (.int l1), none, some (.int l3), some (.int s4), some (.int l5), some (.int s6), some (.int s7), none, none, none], [], hh, 0, 0) (some (.int res.1), res.2) := by
  intro n
  induction n with
  | zero => intro s4 s6 s7 hh res hq; cases hq
  | succ n ih =>
    intro s4 s6 s7 hh res hq
    unfold mx_fix at hq
    generalize mx_fix (f_X12_isSafe_L53 l0 l1 l3 l5 ) n = S at hq ih
    unfold f_X12_isSafe_L53 at hq
    try dsimp only at hq
    refine mx_p_il rfl ?_
    refine mx_p_iln rfl ?_
    by_cases hc31 : l3 ≤ s7
    · rw [if_pos hc31] at hq
      refine mx_e_it (decide_eq_true hc31) ?_
      refine mx_p_il rfl ?_
      by_cases hb32 : l5 = 0 ∨ l5 = 1
      · rw [if_pos hb32] at hq; cases hq; exact mx_e_rb rfl hb32
      · rw [if_neg hb32] at hq; cases hq
    · rw [if_neg hc31] at hq
      refine mx_e_if (fun z => hc31 (of_decide_eq_true z)) ?_
      refine mx_p_il rfl ?_
      by_cases hc33 : l5 = 0
      · rw [if_pos hc33] at hq
        refine mx_e_zt (decide_eq_true hc33) ?_
        refine mx_p_il rfl ?_
        by_cases hb34 : l5 = 0 ∨ l5 = 1
        · rw [if_pos hb34] at hq; cases hq; exact mx_e_rb rfl hb34
        · rw [if_neg hb34] at hq; cases hq
      · rw [if_neg hc33] at hq
        refine mx_e_zf (fun z => hc33 (of_decide_eq_true z)) ?_
        refine mx_p_iln rfl ?_
        refine mx_p_ic ?_
        refine mx_p_isub ?_
        refine mx_p_il rfl ?_
        refine mx_p_isub ?_
        refine mx_p_is (loc' := [some (.ref l0), some (.int l1), none, some (.int l3), some (.int s4), some (.int l5), some (.int s6), some (.int s7), some (.int ((l3 - 1) - s7)), none, none]) rfl ?_
        refine mx_p_aln rfl ?_
        obtain ⟨x35, hx35, hq⟩ := mx_bS hq
        refine mx_e_gr hx35 rfl ?_
        refine mx_p_bp ?_
        refine mx_p_il rfl ?_
        refine mx_p_iadd ?_
        obtain ⟨x36, hx36, hq⟩ := mx_bS hq
        refine mx_e_al hx36 ?_
        refine mx_p_is (loc' := [some (.ref l0), some (.int l1), none, some (.int l3), some (.int s4), some (.int l5), some (.int s6), some (.int s7), some (.int ((l3 - 1) - s7)), some (.int x36), none]) rfl ?_
        refine mx_p_il rfl ?_
        obtain ⟨v44, hE, hK⟩ := mx_bS hq
        have HJ : mx_Ev mx_k_X12_isSafe mx_noS (mx_b_X12_isSafe 136, [some (.ref l0), some (.int l1), none, some (.int l3), some (.int s4), some (.int l5), none, some (.int s7), none, none, none], [.int v44], hh, 0, 0) (some (.int res.1), res.2) := by
          replace hq := hK
          refine mx_p_is (loc' := [some (.ref l0), some (.int l1), none, some (.int l3), some (.int s4), some (.int l5), none, some (.int s7), none, none, some (.int v44)]) rfl ?_
          refine mx_p_il rfl ?_
          obtain ⟨x45, hx45, hq⟩ := mx_bS hq
          refine mx_e_cs mx_t_X12_lowest rfl rfl rfl ⟨Nat.le_of_ble_eq_true rfl, Nat.le_of_ble_eq_true rfl, Nat.le_of_ble_eq_true rfl⟩ (Nat.le_of_ble_eq_true rfl) rfl rfl ⟨Nat.zero_le _, Nat.zero_le _⟩ (t_X12_lowest hx45) ?_
          refine mx_p_is (loc' := [some (.ref l0), some (.int l1), none, some (.int l3), some (.int s4), some (.int l5), some (.int x45), some (.int s7), none, none, some (.int v44)]) rfl ?_
          refine mx_p_il rfl ?_
          refine mx_p_iln rfl ?_
          obtain ⟨v47, hE, hK⟩ := mx_bS hq
          have HJ : mx_Ev mx_k_X12_isSafe mx_noS (mx_b_X12_isSafe 158, [some (.ref l0), some (.int l1), none, some (.int l3), none, some (.int l5), some (.int x45), some (.int s7), none, none, none], [.int v47], hh, 0, 0) (some (.int res.1), res.2) := by
            replace hq := hK
            refine mx_p_is (loc' := [some (.ref l0), some (.int l1), none, some (.int l3), some (.int v47), some (.int l5), some (.int x45), some (.int s7), none, none, none]) rfl ?_
            refine mx_p_aln rfl ?_
            obtain ⟨x48, hx48, hq⟩ := mx_bS hq
            refine mx_e_gr hx48 rfl ?_
            refine mx_p_il rfl ?_
            refine mx_p_il rfl ?_
            obtain ⟨h49, hh49, hq⟩ := mx_bS hq
            refine mx_e_as hh49 ?_
            refine mx_p_inc (loc' := [some (.ref l0), some (.int l1), none, some (.int l3), some (.int v47), some (.int l5), some (.int x45), some (.int (s7 + 1)), none, none, none]) rfl rfl ?_
            refine mx_p_gt ?_
            have HB := ih v47 x45 (s7 + 1) h49 _ hq
            exact mx_Ev.weak (mx_le.same _ (mx_le.same _ (mx_le.same _ (mx_le.same _ (mx_le.same _ (mx_le.same _ (mx_le.same _ (mx_le.same _ (mx_le.same _ (mx_le.same _ (mx_le.same _ (mx_le.nil)))))))))))) HB
          clear hK
          replace hq := hE
          by_cases hc46 : ¬ x45 = l1
          · rw [if_pos hc46] at hq
            refine mx_e_it (decide_eq_true hc46) ?_
            refine mx_p_il rfl ?_
            refine mx_p_np ?_
            cases hq; exact mx_Ev.weak (mx_le.same _ (mx_le.same _ (mx_le.same _ (mx_le.same _ (mx_le.drop _ (mx_le.same _ (mx_le.same _ (mx_le.same _ (mx_le.same _ (mx_le.same _ (mx_le.drop _ (mx_le.nil)))))))))))) HJ
          · rw [if_neg hc46] at hq
            refine mx_e_if (fun z => hc46 (of_decide_eq_true z)) ?_
            refine mx_p_bp ?_
            refine mx_p_gt ?_
            cases hq; exact mx_Ev.weak (mx_le.same _ (mx_le.same _ (mx_le.same _ (mx_le.same _ (mx_le.drop _ (mx_le.same _ (mx_le.same _ (mx_le.same _ (mx_le.same _ (mx_le.same _ (mx_le.drop _ (mx_le.nil)))))))))))) HJ
        clear hK
        replace hq := hE
        by_cases hc37 : s4 ≤ 0
        · rw [if_pos hc37] at hq
          refine mx_e_zt (decide_eq_true hc37) ?_
          refine mx_p_il rfl ?_
          refine mx_p_aln rfl ?_
          obtain ⟨x38, hx38, hq⟩ := mx_bS hq
          refine mx_e_gr hx38 rfl ?_
          refine mx_p_il rfl ?_
          obtain ⟨x39, hx39, hq⟩ := mx_bS hq
          refine mx_e_al hx39 ?_
          refine mx_p_ic ?_
          refine mx_p_iln rfl ?_
          refine mx_p_ishl ?_
          refine mx_p_ic ?_
          refine mx_p_ixor ?_
          refine mx_p_iand ?_
          refine mx_p_aln rfl ?_
          obtain ⟨x40, hx40, hq⟩ := mx_bS hq
          refine mx_e_gr hx40 rfl ?_
          refine mx_p_bp ?_
          refine mx_p_il rfl ?_
          refine mx_p_iadd ?_
          obtain ⟨x41, hx41, hq⟩ := mx_bS hq
          refine mx_e_al hx41 ?_
          refine mx_p_ic ?_
          refine mx_p_iln rfl ?_
          refine mx_p_ishl ?_
          refine mx_p_iand ?_
          refine mx_p_ior ?_
          refine mx_p_iand ?_
          refine mx_p_np ?_
          cases hq; exact mx_Ev.weak (mx_le.same _ (mx_le.same _ (mx_le.same _ (mx_le.same _ (mx_le.same _ (mx_le.same _ (mx_le.drop _ (mx_le.same _ (mx_le.drop _ (mx_le.drop _ (mx_le.same _ (mx_le.nil)))))))))))) HJ
        · rw [if_neg hc37] at hq
          refine mx_e_zf (fun z => hc37 (of_decide_eq_true z)) ?_
          refine mx_p_il rfl ?_
          refine mx_p_aln rfl ?_
          obtain ⟨x42, hx42, hq⟩ := mx_bS hq
          refine mx_e_gr hx42 rfl ?_
          refine mx_p_bp ?_
          refine mx_p_il rfl ?_
          refine mx_p_iadd ?_
          obtain ⟨x43, hx43, hq⟩ := mx_bS hq
          refine mx_e_al hx43 ?_
          refine mx_p_iand ?_
          refine mx_p_gt ?_
          cases hq; exact mx_Ev.weak (mx_le.same _ (mx_le.same _ (mx_le.same _ (mx_le.same _ (mx_le.same _ (mx_le.same _ (mx_le.drop _ (mx_le.same _ (mx_le.drop _ (mx_le.drop _ (mx_le.same _ (mx_le.nil)))))))))))) HJ
set_option maxRecDepth 20000 in
set_option maxHeartbeats 1000000 in
theorem t_X12_isSafe {a0 : Nat} {a1 : Int32} {a2 : Int32} {a3 : Int32} {h : mx_Hp} {res} (hq : f_X12_isSafe a0 a1 a2 a3 h = some res) : mx_Ms mx_k_X12_isSafe [.ref a0, .int a1, .int a2, .int a3] h (some (.int res.1), res.2) := by
  unfold f_X12_isSafe at hq
  show mx_Ev mx_k_X12_isSafe mx_noS (mx_b_X12_isSafe 0, [some (.ref a0), some (.int a1), some (.int a2), some (.int a3), none, none, none, none, none, none, none], [], h, 0, 0) _
  refine mx_p_aln rfl ?_
  refine mx_p_iln rfl ?_
  refine mx_p_aln rfl ?_
  refine mx_p_iln rfl ?_
  have ho51 : a0 < h.1 ∧ (mx_lay a0).1 = 15 := by
    by_cases hh : a0 < h.1 ∧ (mx_lay a0).1 = 15
    · exact hh
    · rw [if_neg hh] at hq; cases hq
  rw [if_pos ho51] at hq
  obtain ⟨x50, hx50, hq⟩ := mx_bS hq
  refine mx_e_cv mx_t_X12_lost ho51 rfl rfl rfl ⟨Nat.le_of_ble_eq_true rfl, Nat.le_of_ble_eq_true rfl, Nat.le_of_ble_eq_true rfl⟩ (Nat.le_of_ble_eq_true rfl) rfl rfl rfl ⟨Nat.zero_le _, Nat.zero_le _⟩ (t_X12_lost hx50) ?_
  have ho53 : a0 < x50.2.1 ∧ (mx_lay a0).1 = 15 := by
    by_cases hh : a0 < x50.2.1 ∧ (mx_lay a0).1 = 15
    · exact hh
    · rw [if_neg hh] at hq; cases hq
  rw [if_pos ho53] at hq
  obtain ⟨x52, hx52, hq⟩ := mx_bS hq
  refine mx_e_cv mx_t_X12_reckons ho53 rfl rfl rfl ⟨Nat.le_of_ble_eq_true rfl, Nat.le_of_ble_eq_true rfl, Nat.le_of_ble_eq_true rfl⟩ (Nat.le_of_ble_eq_true rfl) rfl rfl rfl ⟨Nat.zero_le _, Nat.zero_le _⟩ (t_X12_reckons hx52) ?_
  refine mx_p_iln rfl ?_
  refine mx_p_iln rfl ?_
  obtain ⟨v55, hE, hK⟩ := mx_bS hq
  have HJ : mx_Ev mx_k_X12_isSafe mx_noS (mx_b_X12_isSafe 21, [some (.ref a0), some (.int a1), some (.int a2), some (.int a3), none, none, none, none, none, none, none], [.int v55], x52, 0, 0) (some (.int res.1), res.2) := by
    replace hq := hK
    refine mx_p_is (loc' := [some (.ref a0), some (.int a1), some (.int a2), some (.int a3), some (.int v55), none, none, none, none, none, none]) rfl ?_
    refine mx_p_aln rfl ?_
    obtain ⟨x56, hx56, hq⟩ := mx_bS hq
    refine mx_e_gr hx56 rfl ?_
    refine mx_p_il rfl ?_
    refine mx_p_iln rfl ?_
    refine mx_p_iadd ?_
    refine mx_p_ic ?_
    refine mx_p_isub ?_
    obtain ⟨x57, hx57, hq⟩ := mx_bS hq
    refine mx_e_al hx57 ?_
    refine mx_p_iln rfl ?_
    obtain ⟨x58, hx58, hq⟩ := mx_bS hq
    refine mx_e_cs mx_t_X12_has rfl rfl rfl ⟨Nat.le_of_ble_eq_true rfl, Nat.le_of_ble_eq_true rfl, Nat.le_of_ble_eq_true rfl⟩ (Nat.le_of_ble_eq_true rfl) rfl rfl ⟨Nat.zero_le _, Nat.zero_le _⟩ (t_X12_has hx58) ?_
    refine mx_p_is (loc' := [some (.ref a0), some (.int a1), some (.int a2), some (.int a3), some (.int v55), some (.int x58), none, none, none, none, none]) rfl ?_
    refine mx_p_iln rfl ?_
    refine mx_p_is (loc' := [some (.ref a0), some (.int a1), some (.int a2), some (.int a3), some (.int v55), some (.int x58), some (.int a2), none, none, none, none]) rfl ?_
    refine mx_p_aln rfl ?_
    obtain ⟨x59, hx59, hq⟩ := mx_bS hq
    refine mx_e_gr hx59 rfl ?_
    refine mx_p_ic ?_
    refine mx_p_iln rfl ?_
    obtain ⟨h60, hh60, hq⟩ := mx_bS hq
    refine mx_e_as hh60 ?_
    refine mx_p_ic ?_
    refine mx_p_is (loc' := [some (.ref a0), some (.int a1), some (.int a2), some (.int a3), some (.int v55), some (.int x58), some (.int a2), some (.int 1), none, none, none]) rfl ?_
    refine mx_p_np ?_
    refine mx_Ev.weak (mx_le.same _ (mx_le.same _ (mx_le.drop _ (mx_le.same _ (mx_le.same _ (mx_le.same _ (mx_le.same _ (mx_le.same _ (mx_le.same _ (mx_le.same _ (mx_le.same _ (mx_le.nil)))))))))))) (e_f_X12_isSafe_L53 _ _ _ _  _ _ _ _ _ _ hq)
  clear hK
  replace hq := hE
  by_cases hc54 : ¬ a2 = a1
  · rw [if_pos hc54] at hq
    refine mx_e_it (decide_eq_true hc54) ?_
    refine mx_p_ic ?_
    refine mx_p_np ?_
    cases hq; exact mx_Ev.weak (mx_le.same _ (mx_le.same _ (mx_le.same _ (mx_le.same _ (mx_le.same _ (mx_le.same _ (mx_le.same _ (mx_le.same _ (mx_le.same _ (mx_le.same _ (mx_le.same _ (mx_le.nil)))))))))))) HJ
  · rw [if_neg hc54] at hq
    refine mx_e_if (fun z => hc54 (of_decide_eq_true z)) ?_
    refine mx_p_bp ?_
    refine mx_p_gt ?_
    cases hq; exact mx_Ev.weak (mx_le.same _ (mx_le.same _ (mx_le.same _ (mx_le.same _ (mx_le.same _ (mx_le.same _ (mx_le.same _ (mx_le.same _ (mx_le.same _ (mx_le.same _ (mx_le.same _ (mx_le.nil)))))))))))) HJ
set_option maxRecDepth 20000 in
set_option maxHeartbeats 1000000 in
theorem e_f_X12_safe_L31 (l0 : Nat) (l1 : Int32) (l2 : Int32) (l3 : Int32) (k85 : Int32 × mx_Hp → Option (Int32 × mx_Hp)) (k62 : Int32 × mx_Hp → Option (Int32 × mx_Hp)) (Hk85 : ∀ (s4 : Int32) (hh : mx_Hp) res, k85 (s4, hh) = some res → mx_Ev mx_k_X12_safe mx_noS (mx_b_X12_safe 85, [some (.ref l0), some (.int l1), some (.int l2), some (.int l3), none], [], hh, 0, 0) (some (.int res.1), res.2)) (Hk62 : ∀ (s4 : Int32) (hh : mx_Hp) res, k62 (s4, hh) = some res → mx_Ev mx_k_X12_safe mx_noS (mx_b_X12_safe 62, [some (.ref l0), none, some (.int l2), some (.int l3), none], [], hh, 0, 0) (some (.int res.1), res.2)) : ∀ (n : Nat) (s4 : Int32) (hh : mx_Hp) res, mx_fix (f_X12_safe_L31 l0 l1 l2 l3 k85 k62) n (s4, hh) = some res → mx_Ev mx_k_X12_safe mx_noS (mx_b_X12_safe 31, [some (.ref l0), some (.int l1), some (.int l2), some (.int l3), some (.int s4)], [], hh, 0, 0) (some (.int res.1), res.2) := by
  intro n
  induction n with
  | zero => intro s4 hh res hq; cases hq
  | succ n ih =>
    intro s4 hh res hq
    unfold mx_fix at hq
    generalize mx_fix (f_X12_safe_L31 l0 l1 l2 l3 k85 k62) n = S at hq ih
    unfold f_X12_safe_L31 at hq
    try dsimp only at hq
    refine mx_p_il rfl ?_
    refine mx_p_aln rfl ?_
    obtain ⟨x14, hx14, hq⟩ := mx_bS hq
    refine mx_e_gr hx14 rfl ?_
    refine mx_p_ic ?_
    obtain ⟨x15, hx15, hq⟩ := mx_bS hq
    refine mx_e_al hx15 ?_
    by_cases hc16 : x15 ≤ s4
    · rw [if_pos hc16] at hq
      refine mx_e_it (decide_eq_true hc16) ?_
      have HB := Hk85 s4 hh _ hq
      exact mx_Ev.weak (mx_le.same _ (mx_le.same _ (mx_le.same _ (mx_le.same _ (mx_le.drop _ (mx_le.nil)))))) HB
    · rw [if_neg hc16] at hq
      refine mx_e_if (fun z => hc16 (of_decide_eq_true z)) ?_
      refine mx_p_aln rfl ?_
      refine mx_p_iln rfl ?_
      refine mx_p_il rfl ?_
      refine mx_p_iln rfl ?_
      have ho18 : l0 < hh.1 ∧ (mx_lay l0).1 = 15 := by
        by_cases hh : l0 < hh.1 ∧ (mx_lay l0).1 = 15
        · exact hh
        · rw [if_neg hh] at hq; cases hq
      rw [if_pos ho18] at hq
      obtain ⟨x17, hx17, hq⟩ := mx_bS hq
      refine mx_e_cv mx_t_X12_isSafe ho18 rfl rfl rfl ⟨Nat.le_of_ble_eq_true rfl, Nat.le_of_ble_eq_true rfl, Nat.le_of_ble_eq_true rfl⟩ (Nat.le_of_ble_eq_true rfl) rfl rfl rfl ⟨Nat.zero_le _, Nat.zero_le _⟩ (t_X12_isSafe hx17) ?_
      by_cases hc19 : x17.1 = 0
      · rw [if_pos hc19] at hq
        refine mx_e_zt (decide_eq_true hc19) ?_
        refine mx_p_inc (loc' := [some (.ref l0), some (.int l1), some (.int l2), some (.int l3), some (.int (s4 + 1))]) rfl rfl ?_
        refine mx_p_gt ?_
        have HB := ih (s4 + 1) x17.2 _ hq
        exact mx_Ev.weak (mx_le.same _ (mx_le.same _ (mx_le.same _ (mx_le.same _ (mx_le.same _ (mx_le.nil)))))) HB
      · rw [if_neg hc19] at hq
        refine mx_e_zf (fun z => hc19 (of_decide_eq_true z)) ?_
        refine mx_p_iln rfl ?_
        refine mx_p_ic ?_
        by_cases hc20 : ¬ l2 = (-1)
        · rw [if_pos hc20] at hq
          refine mx_e_it (decide_eq_true hc20) ?_
          have HB := Hk62 s4 x17.2 _ hq
          exact mx_Ev.weak (mx_le.same _ (mx_le.drop _ (mx_le.same _ (mx_le.same _ (mx_le.drop _ (mx_le.nil)))))) HB
        · rw [if_neg hc20] at hq
          refine mx_e_if (fun z => hc20 (of_decide_eq_true z)) ?_
          refine mx_p_iln rfl ?_
          refine mx_p_gt ?_
          cases hq; exact mx_e_ri rfl
set_option maxRecDepth 20000 in
set_option maxHeartbeats 1000000 in
theorem e_f_X12_safe_L22 (l0 : Nat) (l1 : Int32) (l2 : Int32) (k62 : Int32 × mx_Hp → Option (Int32 × mx_Hp)) (Hk62 : ∀ (s3 : Int32) (hh : mx_Hp) res, k62 (s3, hh) = some res → mx_Ev mx_k_X12_safe mx_noS (mx_b_X12_safe 62, [some (.ref l0), none, some (.int l2), some (.int s3), none], [], hh, 0, 0) (some (.int res.1), res.2)) : ∀ (n : Nat) (s3 : Int32) (hh : mx_Hp) res, mx_fix (f_X12_safe_L22 l0 l1 l2 k62) n (s3, hh) = some res → mx_Ev mx_k_X12_safe mx_noS (mx_b_X12_safe 22, [some (.ref l0), some (.int l1), some (.int l2), some (.int s3), none], [], hh, 0, 0) (some (.int res.1), res.2) := by
  intro n
  induction n with
  | zero => intro s3 hh res hq; cases hq
  | succ n ih =>
    intro s3 hh res hq
    unfold mx_fix at hq
    generalize mx_fix (f_X12_safe_L22 l0 l1 l2 k62) n = S at hq ih
    unfold f_X12_safe_L22 at hq
    try dsimp only at hq
    refine mx_p_iln rfl ?_
    refine mx_p_bp ?_
    by_cases hc23 : 10 < s3
    · rw [if_pos hc23] at hq
      refine mx_e_it (decide_eq_true hc23) ?_
      refine mx_p_bp ?_
      cases hq; exact mx_e_ri rfl
    · rw [if_neg hc23] at hq
      refine mx_e_if (fun z => hc23 (of_decide_eq_true z)) ?_
      refine mx_p_ic ?_
      refine mx_p_is (loc' := [some (.ref l0), some (.int l1), some (.int l2), some (.int s3), some (.int 0)]) rfl ?_
      refine mx_p_np ?_
      refine mx_Ev.weak (mx_le.same _ (mx_le.same _ (mx_le.same _ (mx_le.same _ (mx_le.same _ (mx_le.nil)))))) (e_f_X12_safe_L31 _ _ _ _ _ _ ?_ ?_ _ _ _ _ hq)
      · intro c24 c25 res hq
        try dsimp only at hq
        refine mx_p_inc (loc' := [some (.ref l0), some (.int l1), some (.int l2), some (.int (s3 + 1)), none]) rfl rfl ?_
        refine mx_p_gt ?_
        have HB := ih (s3 + 1) c25 _ hq
        exact mx_Ev.weak (mx_le.same _ (mx_le.same _ (mx_le.same _ (mx_le.same _ (mx_le.same _ (mx_le.nil)))))) HB
      · intro c26 c27 res hq
        try dsimp only at hq
        have HB := Hk62 s3 c27 _ hq
        exact mx_Ev.weak (mx_le.same _ (mx_le.same _ (mx_le.same _ (mx_le.same _ (mx_le.same _ (mx_le.nil)))))) HB
set_option maxRecDepth 20000 in
set_option maxHeartbeats 1000000 in
theorem t_X12_safe {a0 : Nat} {a1 : Int32} {a2 : Int32} {h : mx_Hp} {res} (hq : f_X12_safe a0 a1 a2 h = some res) : mx_Ms mx_k_X12_safe [.ref a0, .int a1, .int a2] h (some (.int res.1), res.2) := by
  unfold f_X12_safe at hq
  show mx_Ev mx_k_X12_safe mx_noS (mx_b_X12_safe 0, [some (.ref a0), some (.int a1), some (.int a2), none, none], [], h, 0, 0) _
  refine mx_p_aln rfl ?_
  refine mx_p_iln rfl ?_
  have ho34 : a0 < h.1 ∧ (mx_lay a0).1 = 15 := by
    by_cases hh : a0 < h.1 ∧ (mx_lay a0).1 = 15
    · exact hh
    · rw [if_neg hh] at hq; cases hq
  rw [if_pos ho34] at hq
  obtain ⟨x33, hx33, hq⟩ := mx_bS hq
  refine mx_e_cv mx_t_X12_isWord ho34 rfl rfl rfl ⟨Nat.le_of_ble_eq_true rfl, Nat.le_of_ble_eq_true rfl, Nat.le_of_ble_eq_true rfl⟩ (Nat.le_of_ble_eq_true rfl) rfl rfl rfl ⟨Nat.zero_le _, Nat.zero_le _⟩ (t_X12_isWord hx33) ?_
  by_cases hc35 : x33 = 0
  · rw [if_pos hc35] at hq
    refine mx_e_zt (decide_eq_true hc35) ?_
    refine mx_p_ic ?_
    cases hq; exact mx_e_ri rfl
  · rw [if_neg hc35] at hq
    refine mx_e_zf (fun z => hc35 (of_decide_eq_true z)) ?_
    refine mx_p_iln rfl ?_
    refine mx_p_ic ?_
    refine mx_p_bp ?_
    obtain ⟨x36, hx36, hq⟩ := mx_bS hq
    refine mx_e_cs mx_t_X12_in rfl rfl rfl ⟨Nat.le_of_ble_eq_true rfl, Nat.le_of_ble_eq_true rfl, Nat.le_of_ble_eq_true rfl⟩ (Nat.le_of_ble_eq_true rfl) rfl rfl ⟨Nat.zero_le _, Nat.zero_le _⟩ (t_X12_in hx36) ?_
    by_cases hc37 : ¬ x36 = 0
    · rw [if_pos hc37] at hq
      refine mx_e_zt (decide_eq_true hc37) ?_
      refine mx_p_ic ?_
      refine mx_p_isn (loc' := [some (.ref a0), some (.int a1), some (.int a2), some (.int 1), none]) rfl ?_
      refine mx_p_np ?_
      refine mx_Ev.weak (mx_le.same _ (mx_le.same _ (mx_le.same _ (mx_le.same _ (mx_le.same _ (mx_le.nil)))))) (e_f_X12_safe_L22 _ _ _ _ ?_ _ _ _ _ hq)
      · intro c38 c39 res hq
        try dsimp only at hq
        refine mx_p_iln rfl ?_
        refine mx_p_iln rfl ?_
        obtain ⟨v43, hE, hK⟩ := mx_bS hq
        have HJ : mx_Ev mx_k_X12_safe mx_noS (mx_b_X12_safe 78, [none, none, none, none, none], [.int v43], c39, 0, 0) (some (.int res.1), res.2) := by
          replace hq := hK
          cases hq; exact mx_e_ri rfl
        clear hK
        replace hq := hE
        by_cases hc40 : c38 ≤ a2
        · rw [if_pos hc40] at hq
          refine mx_e_it (decide_eq_true hc40) ?_
          refine mx_p_bp ?_
          refine mx_p_np ?_
          cases hq; exact mx_Ev.weak (mx_le.drop _ (mx_le.same _ (mx_le.drop _ (mx_le.drop _ (mx_le.same _ (mx_le.nil)))))) HJ
        · rw [if_neg hc40] at hq
          refine mx_e_if (fun z => hc40 (of_decide_eq_true z)) ?_
          refine mx_p_aln rfl ?_
          obtain ⟨x41, hx41, hq⟩ := mx_bS hq
          refine mx_e_gr hx41 rfl ?_
          refine mx_p_iln rfl ?_
          obtain ⟨x42, hx42, hq⟩ := mx_bS hq
          refine mx_e_al hx42 ?_
          refine mx_p_gt ?_
          cases hq; exact mx_Ev.weak (mx_le.drop _ (mx_le.same _ (mx_le.drop _ (mx_le.drop _ (mx_le.same _ (mx_le.nil)))))) HJ
    · rw [if_neg hc37] at hq
      refine mx_e_zf (fun z => hc37 (of_decide_eq_true z)) ?_
      refine mx_p_np ?_
      refine mx_p_ic ?_
      cases hq; exact mx_e_ri rfl
set_option maxRecDepth 20000 in
set_option maxHeartbeats 1000000 in
theorem e_f_X12_gainsFor_L48 (l0 : Nat) (l1 : Int32) (l2 : Int32) (l3 : Int32) (h : mx_Hp) (k155 : Int32 × Int32 → Option (mx_Hp)) (Hk155 : ∀ (s4 : Int32) (s5 : Int32) res, k155 (s4, s5) = some res → mx_Ev mx_k_X12_gainsFor mx_noS (mx_b_X12_gainsFor 155, [some (.ref l0), some (.int l1), some (.int l2), some (.int l3), some (.int s4), none, none, none], [], h, 0, 0) (none, res)) : ∀ (n : Nat) (s4 : Int32) (s5 : Int32) res, mx_fix (f_X12_gainsFor_L48 l0 l1 l2 l3 h k155) n (s4, s5) = some res → mx_Ev mx_k_X12_gainsFor mx_noS (mx_b_X12_gainsFor 48, [some (.ref l0), some (.int l1), some (.int l2), some (.int l3), some (.int s4), some (.int s5), none, none], [], h, 0, 0) (none, res) := by
  intro n
  induction n with
  | zero => intro s4 s5 res hq; cases hq
  | succ n ih =>
    intro s4 s5 res hq
    unfold mx_fix at hq
    generalize mx_fix (f_X12_gainsFor_L48 l0 l1 l2 l3 h k155) n = S at hq ih
    unfold f_X12_gainsFor_L48 at hq
    try dsimp only at hq
    refine mx_p_il rfl ?_
    refine mx_p_aln rfl ?_
    obtain ⟨x29, hx29, hq⟩ := mx_bS hq
    refine mx_e_gr hx29 rfl ?_
    refine mx_p_ic ?_
    obtain ⟨x30, hx30, hq⟩ := mx_bS hq
    refine mx_e_al hx30 ?_
    by_cases hc31 : x30 ≤ s5
    · rw [if_pos hc31] at hq
      refine mx_e_it (decide_eq_true hc31) ?_
      have HB := Hk155 s4 s5 _ hq
      exact mx_Ev.weak (mx_le.same _ (mx_le.same _ (mx_le.same _ (mx_le.same _ (mx_le.same _ (mx_le.drop _ (mx_le.same _ (mx_le.same _ (mx_le.nil))))))))) HB
    · rw [if_neg hc31] at hq
      refine mx_e_if (fun z => hc31 (of_decide_eq_true z)) ?_
      refine mx_p_iln rfl ?_
      obtain ⟨v39, hE, hK⟩ := mx_bS hq
      have HJ : mx_Ev mx_k_X12_gainsFor mx_noS (mx_b_X12_gainsFor 93, [some (.ref l0), some (.int l1), some (.int l2), some (.int l3), some (.int s4), some (.int s5), none, none], [.int v39], h, 0, 0) (none, res) := by
        replace hq := hK
        refine mx_p_is (loc' := [some (.ref l0), some (.int l1), some (.int l2), some (.int l3), some (.int s4), some (.int s5), some (.int v39), none]) rfl ?_
        refine mx_p_il rfl ?_
        obtain ⟨v45, hE, hK⟩ := mx_bS hq
        have HJ : mx_Ev mx_k_X12_gainsFor mx_noS (mx_b_X12_gainsFor 131, [some (.ref l0), some (.int l1), some (.int l2), some (.int l3), some (.int s4), some (.int s5), none, none], [.int v45], h, 0, 0) (none, res) := by
          replace hq := hK
          refine mx_p_is (loc' := [some (.ref l0), some (.int l1), some (.int l2), some (.int l3), some (.int s4), some (.int s5), none, some (.int v45)]) rfl ?_
          refine mx_p_il rfl ?_
          refine mx_p_il rfl ?_
          obtain ⟨v47, hE, hK⟩ := mx_bS hq
          have HJ : mx_Ev mx_k_X12_gainsFor mx_noS (mx_b_X12_gainsFor 147, [some (.ref l0), some (.int l1), some (.int l2), some (.int l3), none, some (.int s5), none, none], [.int v47], h, 0, 0) (none, res) := by
            replace hq := hK
            refine mx_p_is (loc' := [some (.ref l0), some (.int l1), some (.int l2), some (.int l3), some (.int v47), some (.int s5), none, none]) rfl ?_
            refine mx_p_inc (loc' := [some (.ref l0), some (.int l1), some (.int l2), some (.int l3), some (.int v47), some (.int (s5 + 1)), none, none]) rfl rfl ?_
            refine mx_p_gt ?_
            have HB := ih v47 (s5 + 1) _ hq
            exact mx_Ev.weak (mx_le.same _ (mx_le.same _ (mx_le.same _ (mx_le.same _ (mx_le.same _ (mx_le.same _ (mx_le.same _ (mx_le.same _ (mx_le.nil))))))))) HB
          clear hK
          replace hq := hE
          by_cases hc46 : v45 ≤ s4
          · rw [if_pos hc46] at hq
            refine mx_e_it (decide_eq_true hc46) ?_
            refine mx_p_il rfl ?_
            refine mx_p_np ?_
            cases hq; exact mx_Ev.weak (mx_le.same _ (mx_le.same _ (mx_le.same _ (mx_le.same _ (mx_le.drop _ (mx_le.same _ (mx_le.same _ (mx_le.drop _ (mx_le.nil))))))))) HJ
          · rw [if_neg hc46] at hq
            refine mx_e_if (fun z => hc46 (of_decide_eq_true z)) ?_
            refine mx_p_il rfl ?_
            refine mx_p_gt ?_
            cases hq; exact mx_Ev.weak (mx_le.same _ (mx_le.same _ (mx_le.same _ (mx_le.same _ (mx_le.drop _ (mx_le.same _ (mx_le.same _ (mx_le.drop _ (mx_le.nil))))))))) HJ
        clear hK
        replace hq := hE
        by_cases hc40 : v39 = 0
        · rw [if_pos hc40] at hq
          refine mx_e_zt (decide_eq_true hc40) ?_
          refine mx_p_sp ?_
          refine mx_p_np ?_
          cases hq; exact mx_Ev.weak (mx_le.same _ (mx_le.same _ (mx_le.same _ (mx_le.same _ (mx_le.same _ (mx_le.same _ (mx_le.drop _ (mx_le.same _ (mx_le.nil))))))))) HJ
        · rw [if_neg hc40] at hq
          refine mx_e_zf (fun z => hc40 (of_decide_eq_true z)) ?_
          refine mx_p_aln rfl ?_
          obtain ⟨x41, hx41, hq⟩ := mx_bS hq
          refine mx_e_gr hx41 rfl ?_
          refine mx_p_bp ?_
          refine mx_p_iln rfl ?_
          refine mx_p_ic ?_
          refine mx_p_isub ?_
          refine mx_p_imul ?_
          refine mx_p_il rfl ?_
          refine mx_p_iadd ?_
          obtain ⟨x42, hx42, hq⟩ := mx_bS hq
          refine mx_e_al hx42 ?_
          refine mx_p_aln rfl ?_
          obtain ⟨x43, hx43, hq⟩ := mx_bS hq
          refine mx_e_gr hx43 rfl ?_
          refine mx_p_bp ?_
          refine mx_p_il rfl ?_
          refine mx_p_iadd ?_
          obtain ⟨x44, hx44, hq⟩ := mx_bS hq
          refine mx_e_al hx44 ?_
          refine mx_p_iadd ?_
          refine mx_p_gt ?_
          cases hq; exact mx_Ev.weak (mx_le.same _ (mx_le.same _ (mx_le.same _ (mx_le.same _ (mx_le.same _ (mx_le.same _ (mx_le.drop _ (mx_le.same _ (mx_le.nil))))))))) HJ
      clear hK
      replace hq := hE
      by_cases hc32 : l2 ≤ 0
      · rw [if_pos hc32] at hq
        refine mx_e_zt (decide_eq_true hc32) ?_
        refine mx_p_ic ?_
        refine mx_p_np ?_
        cases hq; exact mx_Ev.weak (mx_le.same _ (mx_le.same _ (mx_le.same _ (mx_le.same _ (mx_le.same _ (mx_le.same _ (mx_le.same _ (mx_le.same _ (mx_le.nil))))))))) HJ
      · rw [if_neg hc32] at hq
        refine mx_e_zf (fun z => hc32 (of_decide_eq_true z)) ?_
        refine mx_p_iln rfl ?_
        refine mx_p_iln rfl ?_
        obtain ⟨x33, hx33, hq⟩ := mx_bS hq
        refine mx_e_cs mx_t_X12_has rfl rfl rfl ⟨Nat.le_of_ble_eq_true rfl, Nat.le_of_ble_eq_true rfl, Nat.le_of_ble_eq_true rfl⟩ (Nat.le_of_ble_eq_true rfl) rfl rfl ⟨Nat.zero_le _, Nat.zero_le _⟩ (t_X12_has hx33) ?_
        by_cases hc34 : ¬ x33 = 0
        · rw [if_pos hc34] at hq
          refine mx_e_zt (decide_eq_true hc34) ?_
          refine mx_p_ic ?_
          refine mx_p_np ?_
          cases hq; exact mx_Ev.weak (mx_le.same _ (mx_le.same _ (mx_le.same _ (mx_le.same _ (mx_le.same _ (mx_le.same _ (mx_le.same _ (mx_le.same _ (mx_le.nil))))))))) HJ
        · rw [if_neg hc34] at hq
          refine mx_e_zf (fun z => hc34 (of_decide_eq_true z)) ?_
          refine mx_p_aln rfl ?_
          obtain ⟨x35, hx35, hq⟩ := mx_bS hq
          refine mx_e_gr hx35 rfl ?_
          refine mx_p_bp ?_
          refine mx_p_iln rfl ?_
          refine mx_p_iadd ?_
          obtain ⟨x36, hx36, hq⟩ := mx_bS hq
          refine mx_e_al hx36 ?_
          refine mx_p_il rfl ?_
          obtain ⟨x37, hx37, hq⟩ := mx_bS hq
          refine mx_e_cs mx_t_X12_has rfl rfl rfl ⟨Nat.le_of_ble_eq_true rfl, Nat.le_of_ble_eq_true rfl, Nat.le_of_ble_eq_true rfl⟩ (Nat.le_of_ble_eq_true rfl) rfl rfl ⟨Nat.zero_le _, Nat.zero_le _⟩ (t_X12_has hx37) ?_
          by_cases hc38 : x37 = 0
          · rw [if_pos hc38] at hq
            refine mx_e_zt (decide_eq_true hc38) ?_
            refine mx_p_ic ?_
            refine mx_p_np ?_
            cases hq; exact mx_Ev.weak (mx_le.same _ (mx_le.same _ (mx_le.same _ (mx_le.same _ (mx_le.same _ (mx_le.same _ (mx_le.same _ (mx_le.same _ (mx_le.nil))))))))) HJ
          · rw [if_neg hc38] at hq
            refine mx_e_zf (fun z => hc38 (of_decide_eq_true z)) ?_
            refine mx_p_ic ?_
            refine mx_p_gt ?_
            cases hq; exact mx_Ev.weak (mx_le.same _ (mx_le.same _ (mx_le.same _ (mx_le.same _ (mx_le.same _ (mx_le.same _ (mx_le.same _ (mx_le.same _ (mx_le.nil))))))))) HJ
set_option maxRecDepth 20000 in
set_option maxHeartbeats 1000000 in
theorem e_f_X12_gainsFor_L10 (l0 : Nat) (l1 : Int32) (l2 : Int32) (k174 : Int32 × mx_Hp → Option (mx_Hp)) (Hk174 : ∀ (s3 : Int32) (hh : mx_Hp) res, k174 (s3, hh) = some res → mx_Ev mx_k_X12_gainsFor mx_noS (mx_b_X12_gainsFor 174, [some (.ref l0), some (.int l1), some (.int l2), none, none, none, none, none], [], hh, 0, 0) (none, res)) : ∀ (n : Nat) (s3 : Int32) (hh : mx_Hp) res, mx_fix (f_X12_gainsFor_L10 l0 l1 l2 k174) n (s3, hh) = some res → mx_Ev mx_k_X12_gainsFor mx_noS (mx_b_X12_gainsFor 10, [some (.ref l0), some (.int l1), some (.int l2), some (.int s3), none, none, none, none], [], hh, 0, 0) (none, res) := by
  intro n
  induction n with
  | zero => intro s3 hh res hq; cases hq
  | succ n ih =>
    intro s3 hh res hq
    unfold mx_fix at hq
    generalize mx_fix (f_X12_gainsFor_L10 l0 l1 l2 k174) n = S at hq ih
    unfold f_X12_gainsFor_L10 at hq
    try dsimp only at hq
    refine mx_p_iln rfl ?_
    refine mx_p_aln rfl ?_
    obtain ⟨x51, hx51, hq⟩ := mx_bS hq
    refine mx_e_gr hx51 rfl ?_
    refine mx_p_ic ?_
    obtain ⟨x52, hx52, hq⟩ := mx_bS hq
    refine mx_e_al hx52 ?_
    by_cases hc53 : x52 ≤ s3
    · rw [if_pos hc53] at hq
      refine mx_e_it (decide_eq_true hc53) ?_
      have HB := Hk174 s3 hh _ hq
      exact mx_Ev.weak (mx_le.same _ (mx_le.same _ (mx_le.same _ (mx_le.drop _ (mx_le.same _ (mx_le.same _ (mx_le.same _ (mx_le.same _ (mx_le.nil))))))))) HB
    · rw [if_neg hc53] at hq
      refine mx_e_if (fun z => hc53 (of_decide_eq_true z)) ?_
      refine mx_p_iln rfl ?_
      obtain ⟨v58, hE, hK⟩ := mx_bS hq
      have HJ : mx_Ev mx_k_X12_gainsFor mx_noS (mx_b_X12_gainsFor 43, [some (.ref l0), some (.int l1), some (.int l2), some (.int s3), none, none, none, none], [.int v58], hh, 0, 0) (none, res) := by
        replace hq := hK
        refine mx_p_is (loc' := [some (.ref l0), some (.int l1), some (.int l2), some (.int s3), some (.int v58), none, none, none]) rfl ?_
        refine mx_p_ic ?_
        refine mx_p_is (loc' := [some (.ref l0), some (.int l1), some (.int l2), some (.int s3), some (.int v58), some (.int 0), none, none]) rfl ?_
        refine mx_p_np ?_
        refine mx_Ev.weak (mx_le.same _ (mx_le.same _ (mx_le.same _ (mx_le.same _ (mx_le.same _ (mx_le.same _ (mx_le.same _ (mx_le.same _ (mx_le.nil))))))))) (e_f_X12_gainsFor_L48 _ _ _ _ _ _ ?_ _ _ _ _ hq)
        · intro c59 c60 res hq
          try dsimp only at hq
          refine mx_p_aln rfl ?_
          obtain ⟨x61, hx61, hq⟩ := mx_bS hq
          refine mx_e_gr hx61 rfl ?_
          refine mx_p_bp ?_
          refine mx_p_iln rfl ?_
          refine mx_p_imul ?_
          refine mx_p_iln rfl ?_
          refine mx_p_iadd ?_
          refine mx_p_il rfl ?_
          obtain ⟨h62, hh62, hq⟩ := mx_bS hq
          refine mx_e_as hh62 ?_
          refine mx_p_inc (loc' := [some (.ref l0), some (.int l1), some (.int l2), some (.int (s3 + 1)), some (.int c59), none, none, none]) rfl rfl ?_
          refine mx_p_gt ?_
          have HB := ih (s3 + 1) h62 _ hq
          exact mx_Ev.weak (mx_le.same _ (mx_le.same _ (mx_le.same _ (mx_le.same _ (mx_le.drop _ (mx_le.same _ (mx_le.same _ (mx_le.same _ (mx_le.nil))))))))) HB
      clear hK
      replace hq := hE
      by_cases hc54 : ¬ l2 = 0
      · rw [if_pos hc54] at hq
        refine mx_e_zt (decide_eq_true hc54) ?_
        refine mx_p_sp ?_
        refine mx_p_np ?_
        cases hq; exact mx_Ev.weak (mx_le.same _ (mx_le.same _ (mx_le.same _ (mx_le.same _ (mx_le.same _ (mx_le.same _ (mx_le.same _ (mx_le.same _ (mx_le.nil))))))))) HJ
      · rw [if_neg hc54] at hq
        refine mx_e_zf (fun z => hc54 (of_decide_eq_true z)) ?_
        refine mx_p_aln rfl ?_
        obtain ⟨x55, hx55, hq⟩ := mx_bS hq
        refine mx_e_gr hx55 rfl ?_
        refine mx_p_ic ?_
        refine mx_p_iln rfl ?_
        refine mx_p_iadd ?_
        obtain ⟨x56, hx56, hq⟩ := mx_bS hq
        refine mx_e_al hx56 ?_
        refine mx_p_ic ?_
        by_cases hc57 : ¬ x56 = 2
        · rw [if_pos hc57] at hq
          refine mx_e_it (decide_eq_true hc57) ?_
          refine mx_p_sp ?_
          refine mx_p_np ?_
          cases hq; exact mx_Ev.weak (mx_le.same _ (mx_le.same _ (mx_le.same _ (mx_le.same _ (mx_le.same _ (mx_le.same _ (mx_le.same _ (mx_le.same _ (mx_le.nil))))))))) HJ
        · rw [if_neg hc57] at hq
          refine mx_e_if (fun z => hc57 (of_decide_eq_true z)) ?_
          refine mx_p_ic ?_
          refine mx_p_gt ?_
          cases hq; exact mx_Ev.weak (mx_le.same _ (mx_le.same _ (mx_le.same _ (mx_le.same _ (mx_le.same _ (mx_le.same _ (mx_le.same _ (mx_le.same _ (mx_le.nil))))))))) HJ
set_option maxRecDepth 20000 in
set_option maxHeartbeats 1000000 in
theorem e_f_X12_gainsFor_L2 (l0 : Nat) (l1 : Int32)   : ∀ (n : Nat) (s2 : Int32) (hh : mx_Hp) res, mx_fix (f_X12_gainsFor_L2 l0 l1 ) n (s2, hh) = some res → mx_Ev mx_k_X12_gainsFor mx_noS (mx_b_X12_gainsFor 2, [some (.ref l0), some (.int l1), some (.int s2), none, none, none, none, none], [], hh, 0, 0) (none, res) := by
  intro n
  induction n with
  | zero => intro s2 hh res hq; cases hq
  | succ n ih =>
    intro s2 hh res hq
    unfold mx_fix at hq
    generalize mx_fix (f_X12_gainsFor_L2 l0 l1 ) n = S at hq ih
    unfold f_X12_gainsFor_L2 at hq
    try dsimp only at hq
    refine mx_p_iln rfl ?_
    refine mx_p_bp ?_
    by_cases hc64 : 10 ≤ s2
    · rw [if_pos hc64] at hq
      refine mx_e_it (decide_eq_true hc64) ?_
      cases hq; exact mx_p_rv
    · rw [if_neg hc64] at hq
      refine mx_e_if (fun z => hc64 (of_decide_eq_true z)) ?_
      refine mx_p_ic ?_
      refine mx_p_isn (loc' := [some (.ref l0), some (.int l1), some (.int s2), some (.int 0), none, none, none, none]) rfl ?_
      refine mx_p_np ?_
      refine mx_Ev.weak (mx_le.same _ (mx_le.same _ (mx_le.same _ (mx_le.same _ (mx_le.same _ (mx_le.same _ (mx_le.same _ (mx_le.same _ (mx_le.nil))))))))) (e_f_X12_gainsFor_L10 _ _ _ _ ?_ _ _ _ _ hq)
      · intro c65 c66 res hq
        try dsimp only at hq
        refine mx_p_inc (loc' := [some (.ref l0), some (.int l1), some (.int (s2 + 1)), none, none, none, none, none]) rfl rfl ?_
        refine mx_p_gt ?_
        have HB := ih (s2 + 1) c66 _ hq
        exact mx_Ev.weak (mx_le.same _ (mx_le.same _ (mx_le.same _ (mx_le.same _ (mx_le.same _ (mx_le.same _ (mx_le.same _ (mx_le.same _ (mx_le.nil))))))))) HB
set_option maxRecDepth 20000 in
set_option maxHeartbeats 1000000 in
theorem t_X12_gainsFor {a0 : Nat} {a1 : Int32} {h : mx_Hp} {res} (hq : f_X12_gainsFor a0 a1 h = some res) : mx_Ms mx_k_X12_gainsFor [.ref a0, .int a1] h (none, res) := by
  unfold f_X12_gainsFor at hq
  show mx_Ev mx_k_X12_gainsFor mx_noS (mx_b_X12_gainsFor 0, [some (.ref a0), some (.int a1), none, none, none, none, none, none], [], h, 0, 0) _
  refine mx_p_ic ?_
  refine mx_p_isn (loc' := [some (.ref a0), some (.int a1), some (.int 0), none, none, none, none, none]) rfl ?_
  refine mx_p_np ?_
  refine mx_Ev.weak (mx_le.same _ (mx_le.same _ (mx_le.same _ (mx_le.same _ (mx_le.same _ (mx_le.same _ (mx_le.same _ (mx_le.same _ (mx_le.nil))))))))) (e_f_X12_gainsFor_L2 _ _  _ _ _ _ hq)
set_option maxRecDepth 20000 in
set_option maxHeartbeats 1000000 in
theorem e_f_X12_best_L51 (l0 : Nat) (l2 : Int32) (l6 : Int32) (k122 : Int32 × Int32 × Int32 × Int32 × mx_Hp → Option (Int32 × mx_Hp)) (Hk122 : ∀ (s3 : Int32) (s4 : Int32) (s5 : Int32) (s7 : Int32) (hh : mx_Hp) res, k122 (s3, s4, s5, s7, hh) = some res → mx_Ev mx_k_X12_best mx_noS (mx_b_X12_best 122, [some (.ref l0), none, some (.int l2), some (.int s3), some (.int s4), some (.int s5), some (.int l6), none, none, none, none], [], hh, 0, 0) (some (.int res.1), res.2)) : ∀ (n : Nat) (s3 : Int32) (s4 : Int32) (s5 : Int32) (s7 : Int32) (hh : mx_Hp) res, mx_fix (f_X12_best_L51 l0 l2 l6 k122) n (s3, s4, s5, s7, hh) = some res → mx_Ev mx_k_X12_best mx_noS (mx_b_X12_best 51, [some (.ref l0), none, some (.int l2), some (.int s3), some (.int s4), some (.int s5), some (.int l6), some (.int s7), none, none, none], [], hh, 0, 0) (some (.int res.1), res.2) := by
  intro n
  induction n with
  | zero => intro s3 s4 s5 s7 hh res hq; cases hq
  | succ n ih =>
    intro s3 s4 s5 s7 hh res hq
    unfold mx_fix at hq
    generalize mx_fix (f_X12_best_L51 l0 l2 l6 k122) n = S at hq ih
    unfold f_X12_best_L51 at hq
    try dsimp only at hq
    refine mx_p_il rfl ?_
    by_cases hc20 : s7 < 0
    · rw [if_pos hc20] at hq
      refine mx_e_zt (decide_eq_true hc20) ?_
      have HB := Hk122 s3 s4 s5 s7 hh _ hq
      exact mx_Ev.weak (mx_le.same _ (mx_le.same _ (mx_le.same _ (mx_le.same _ (mx_le.same _ (mx_le.same _ (mx_le.same _ (mx_le.drop _ (mx_le.same _ (mx_le.same _ (mx_le.same _ (mx_le.nil)))))))))))) HB
    · rw [if_neg hc20] at hq
      refine mx_e_zf (fun z => hc20 (of_decide_eq_true z)) ?_
      refine mx_p_aln rfl ?_
      refine mx_p_aln rfl ?_
      refine mx_p_il rfl ?_
      have ho22 : l0 < hh.1 ∧ (mx_lay l0).1 = 15 := by
        by_cases hh : l0 < hh.1 ∧ (mx_lay l0).1 = 15
        · exact hh
        · rw [if_neg hh] at hq; cases hq
      rw [if_pos ho22] at hq
      obtain ⟨x21, hx21, hq⟩ := mx_bS hq
      refine mx_e_cv mx_t_X12_lost ho22 rfl rfl rfl ⟨Nat.le_of_ble_eq_true rfl, Nat.le_of_ble_eq_true rfl, Nat.le_of_ble_eq_true rfl⟩ (Nat.le_of_ble_eq_true rfl) rfl rfl rfl ⟨Nat.zero_le _, Nat.zero_le _⟩ (t_X12_lost hx21) ?_
      have ho24 : l0 < x21.2.1 ∧ (mx_lay l0).1 = 15 := by
        by_cases hh : l0 < x21.2.1 ∧ (mx_lay l0).1 = 15
        · exact hh
        · rw [if_neg hh] at hq; cases hq
      rw [if_pos ho24] at hq
      obtain ⟨x23, hx23, hq⟩ := mx_bS hq
      refine mx_e_cv mx_t_X12_gainsFor ho24 rfl rfl rfl ⟨Nat.le_of_ble_eq_true rfl, Nat.le_of_ble_eq_true rfl, Nat.le_of_ble_eq_true rfl⟩ (Nat.le_of_ble_eq_true rfl) rfl rfl rfl ⟨Nat.zero_le _, Nat.zero_le _⟩ (t_X12_gainsFor hx23) ?_
      refine mx_p_aln rfl ?_
      obtain ⟨x25, hx25, hq⟩ := mx_bS hq
      refine mx_e_gr hx25 rfl ?_
      refine mx_p_bp ?_
      refine mx_p_il rfl ?_
      refine mx_p_imul ?_
      refine mx_p_il rfl ?_
      refine mx_p_iadd ?_
      obtain ⟨x26, hx26, hq⟩ := mx_bS hq
      refine mx_e_al hx26 ?_
      refine mx_p_aln rfl ?_
      obtain ⟨x27, hx27, hq⟩ := mx_bS hq
      refine mx_e_gr hx27 rfl ?_
      refine mx_p_bp ?_
      refine mx_p_il rfl ?_
      refine mx_p_iadd ?_
      obtain ⟨x28, hx28, hq⟩ := mx_bS hq
      refine mx_e_al hx28 ?_
      refine mx_p_iadd ?_
      refine mx_p_is (loc' := [some (.ref l0), none, some (.int l2), some (.int s3), some (.int s4), some (.int s5), some (.int l6), some (.int s7), some (.int (x26 + x28)), none, none]) rfl ?_
      refine mx_p_il rfl ?_
      obtain ⟨v31, hE, hK⟩ := mx_bS hq
      have HJ : mx_Ev mx_k_X12_best mx_noS (mx_b_X12_best 116, [some (.ref l0), none, some (.int l2), some (.int v31.1), some (.int v31.2.1), some (.int v31.2.2), some (.int l6), some (.int s7), none, none, none], [], x23, 0, 0) (some (.int res.1), res.2) := by
        replace hq := hK
        refine mx_p_inc (loc' := [some (.ref l0), none, some (.int l2), some (.int v31.1), some (.int v31.2.1), some (.int v31.2.2), some (.int l6), some (.int (s7 + (-1))), none, none, none]) rfl rfl ?_
        refine mx_p_gt ?_
        have HB := ih v31.1 v31.2.1 v31.2.2 (s7 + (-1)) x23 _ hq
        exact mx_Ev.weak (mx_le.same _ (mx_le.same _ (mx_le.same _ (mx_le.same _ (mx_le.same _ (mx_le.same _ (mx_le.same _ (mx_le.same _ (mx_le.same _ (mx_le.same _ (mx_le.same _ (mx_le.nil)))))))))))) HB
      clear hK
      replace hq := hE
      by_cases hc29 : (x26 + x28) < 0
      · rw [if_pos hc29] at hq
        refine mx_e_zt (decide_eq_true hc29) ?_
        cases hq; exact mx_Ev.weak (mx_le.same _ (mx_le.same _ (mx_le.same _ (mx_le.same _ (mx_le.same _ (mx_le.same _ (mx_le.same _ (mx_le.same _ (mx_le.drop _ (mx_le.same _ (mx_le.same _ (mx_le.nil)))))))))))) HJ
      · rw [if_neg hc29] at hq
        refine mx_e_zf (fun z => hc29 (of_decide_eq_true z)) ?_
        refine mx_p_il rfl ?_
        refine mx_p_iln rfl ?_
        by_cases hc30 : (x26 + x28) < s3
        · rw [if_pos hc30] at hq
          refine mx_e_it (decide_eq_true hc30) ?_
          cases hq; exact mx_Ev.weak (mx_le.same _ (mx_le.same _ (mx_le.same _ (mx_le.same _ (mx_le.same _ (mx_le.same _ (mx_le.same _ (mx_le.same _ (mx_le.drop _ (mx_le.same _ (mx_le.same _ (mx_le.nil)))))))))))) HJ
        · rw [if_neg hc30] at hq
          refine mx_e_if (fun z => hc30 (of_decide_eq_true z)) ?_
          refine mx_p_il rfl ?_
          refine mx_p_isn (loc' := [some (.ref l0), none, some (.int l2), some (.int (x26 + x28)), some (.int s4), some (.int s5), some (.int l6), some (.int s7), some (.int (x26 + x28)), none, none]) rfl ?_
          refine mx_p_il rfl ?_
          refine mx_p_ic ?_
          refine mx_p_iadd ?_
          refine mx_p_is (loc' := [some (.ref l0), none, some (.int l2), some (.int (x26 + x28)), some (.int (l6 + 1)), some (.int s5), some (.int l6), some (.int s7), some (.int (x26 + x28)), none, none]) rfl ?_
          refine mx_p_il rfl ?_
          refine mx_p_is (loc' := [some (.ref l0), none, some (.int l2), some (.int (x26 + x28)), some (.int (l6 + 1)), some (.int s7), some (.int l6), some (.int s7), some (.int (x26 + x28)), none, none]) rfl ?_
          refine mx_p_np ?_
          cases hq; exact mx_Ev.weak (mx_le.same _ (mx_le.same _ (mx_le.same _ (mx_le.same _ (mx_le.same _ (mx_le.same _ (mx_le.same _ (mx_le.same _ (mx_le.drop _ (mx_le.same _ (mx_le.same _ (mx_le.nil)))))))))))) HJ
set_option maxRecDepth 20000 in
set_option maxHeartbeats 1000000 in
theorem e_f_X12_best_L36 (l0 : Nat) (l2 : Int32) (k128 : Int32 × Int32 × Int32 × Int32 × mx_Hp → Option (Int32 × mx_Hp)) (Hk128 : ∀ (s3 : Int32) (s4 : Int32) (s5 : Int32) (s6 : Int32) (hh : mx_Hp) res, k128 (s3, s4, s5, s6, hh) = some res → mx_Ev mx_k_X12_best mx_noS (mx_b_X12_best 128, [some (.ref l0), none, some (.int l2), some (.int s3), some (.int s4), some (.int s5), none, none, none, none, none], [], hh, 0, 0) (some (.int res.1), res.2)) : ∀ (n : Nat) (s3 : Int32) (s4 : Int32) (s5 : Int32) (s6 : Int32) (hh : mx_Hp) res, mx_fix (f_X12_best_L36 l0 l2 k128) n (s3, s4, s5, s6, hh) = some res → mx_Ev mx_k_X12_best mx_noS (mx_b_X12_best 36, [some (.ref l0), none, some (.int l2), some (.int s3), some (.int s4), some (.int s5), some (.int s6), none, none, none, none], [], hh, 0, 0) (some (.int res.1), res.2) := by
  intro n
  induction n with
  | zero => intro s3 s4 s5 s6 hh res hq; cases hq
  | succ n ih =>
    intro s3 s4 s5 s6 hh res hq
    unfold mx_fix at hq
    generalize mx_fix (f_X12_best_L36 l0 l2 k128) n = S at hq ih
    unfold f_X12_best_L36 at hq
    try dsimp only at hq
    refine mx_p_il rfl ?_
    by_cases hc33 : s6 < 0
    · rw [if_pos hc33] at hq
      refine mx_e_zt (decide_eq_true hc33) ?_
      have HB := Hk128 s3 s4 s5 s6 hh _ hq
      exact mx_Ev.weak (mx_le.same _ (mx_le.same _ (mx_le.same _ (mx_le.same _ (mx_le.same _ (mx_le.same _ (mx_le.drop _ (mx_le.same _ (mx_le.same _ (mx_le.same _ (mx_le.same _ (mx_le.nil)))))))))))) HB
    · rw [if_neg hc33] at hq
      refine mx_e_zf (fun z => hc33 (of_decide_eq_true z)) ?_
      refine mx_p_aln rfl ?_
      obtain ⟨x34, hx34, hq⟩ := mx_bS hq
      refine mx_e_gr hx34 rfl ?_
      refine mx_p_ic ?_
      obtain ⟨x35, hx35, hq⟩ := mx_bS hq
      refine mx_e_al hx35 ?_
      refine mx_p_ic ?_
      refine mx_p_isub ?_
      refine mx_p_is (loc' := [some (.ref l0), none, some (.int l2), some (.int s3), some (.int s4), some (.int s5), some (.int s6), some (.int (x35 - 1)), none, none, none]) rfl ?_
      refine mx_p_np ?_
      refine mx_Ev.weak (mx_le.same _ (mx_le.same _ (mx_le.same _ (mx_le.same _ (mx_le.same _ (mx_le.same _ (mx_le.same _ (mx_le.same _ (mx_le.same _ (mx_le.same _ (mx_le.same _ (mx_le.nil)))))))))))) (e_f_X12_best_L51 _ _ _ _ ?_ _ _ _ _ _ _ _ hq)
      · intro c36 c37 c38 c39 c40 res hq
        try dsimp only at hq
        refine mx_p_inc (loc' := [some (.ref l0), none, some (.int l2), some (.int c36), some (.int c37), some (.int c38), some (.int (s6 + (-1))), none, none, none, none]) rfl rfl ?_
        refine mx_p_gt ?_
        have HB := ih c36 c37 c38 (s6 + (-1)) c40 _ hq
        exact mx_Ev.weak (mx_le.same _ (mx_le.same _ (mx_le.same _ (mx_le.same _ (mx_le.same _ (mx_le.same _ (mx_le.same _ (mx_le.same _ (mx_le.same _ (mx_le.same _ (mx_le.same _ (mx_le.nil)))))))))))) HB
set_option maxRecDepth 20000 in
set_option maxHeartbeats 1000000 in
theorem e_f_X12_best_L216 (l0 : Nat) (l2 : Int32) (l4 : Int32) (l6 : Int32) (l7 : Int32) (l8 : Int32) (l9 : Int32) (h : mx_Hp) (k269 : Int32 → Option (Int32 × mx_Hp)) (Hk269 : ∀ (s10 : Int32) res, k269 s10 = some res → mx_Ev mx_k_X12_best mx_noS (mx_b_X12_best 269, [some (.ref l0), none, some (.int l2), none, some (.int l4), none, none, some (.int l7), none, none, some (.int s10)], [], h, 0, 0) (some (.int res.1), res.2)) : ∀ (n : Nat) (s10 : Int32) res, mx_fix (f_X12_best_L216 l0 l2 l4 l6 l7 l8 l9 h k269) n s10 = some res → mx_Ev mx_k_X12_best mx_noS (mx_b_X12_best 216, [some (.ref l0), none, some (.int l2), none, some (.int l4), none, some (.int l6), some (.int l7), some (.int l8), some (.int l9), some (.int s10)], [], h, 0, 0) (some (.int res.1), res.2) := by
  intro n
  induction n with
  | zero => intro s10 res hq; cases hq
  | succ n ih =>
    intro s10 res hq
    unfold mx_fix at hq
    generalize mx_fix (f_X12_best_L216 l0 l2 l4 l6 l7 l8 l9 h k269) n = S at hq ih
    unfold f_X12_best_L216 at hq
    try dsimp only at hq
    refine mx_p_aln rfl ?_
    obtain ⟨x64, hx64, hq⟩ := mx_bS hq
    refine mx_e_gr hx64 rfl ?_
    refine mx_p_bp ?_
    refine mx_p_il rfl ?_
    refine mx_p_iadd ?_
    obtain ⟨x65, hx65, hq⟩ := mx_bS hq
    refine mx_e_al hx65 ?_
    refine mx_p_il rfl ?_
    obtain ⟨x66, hx66, hq⟩ := mx_bS hq
    refine mx_e_cs mx_t_X12_has rfl rfl rfl ⟨Nat.le_of_ble_eq_true rfl, Nat.le_of_ble_eq_true rfl, Nat.le_of_ble_eq_true rfl⟩ (Nat.le_of_ble_eq_true rfl) rfl rfl ⟨Nat.zero_le _, Nat.zero_le _⟩ (t_X12_has hx66) ?_
    by_cases hc67 : x66 = 0
    · rw [if_pos hc67] at hq
      refine mx_e_zt (decide_eq_true hc67) ?_
      refine mx_p_inc (loc' := [some (.ref l0), none, some (.int l2), none, some (.int l4), none, some (.int l6), some (.int l7), some (.int l8), some (.int l9), some (.int (s10 + 1))]) rfl rfl ?_
      refine mx_p_gt ?_
      have HB := ih (s10 + 1) _ hq
      exact mx_Ev.weak (mx_le.same _ (mx_le.same _ (mx_le.same _ (mx_le.same _ (mx_le.same _ (mx_le.same _ (mx_le.same _ (mx_le.same _ (mx_le.same _ (mx_le.same _ (mx_le.same _ (mx_le.nil)))))))))))) HB
    · rw [if_neg hc67] at hq
      refine mx_e_zf (fun z => hc67 (of_decide_eq_true z)) ?_
      refine mx_p_aln rfl ?_
      obtain ⟨x68, hx68, hq⟩ := mx_bS hq
      refine mx_e_gr hx68 rfl ?_
      refine mx_p_bp ?_
      refine mx_p_il rfl ?_
      refine mx_p_imul ?_
      refine mx_p_il rfl ?_
      refine mx_p_iadd ?_
      obtain ⟨x69, hx69, hq⟩ := mx_bS hq
      refine mx_e_al hx69 ?_
      refine mx_p_aln rfl ?_
      obtain ⟨x70, hx70, hq⟩ := mx_bS hq
      refine mx_e_gr hx70 rfl ?_
      refine mx_p_bp ?_
      refine mx_p_il rfl ?_
      refine mx_p_iadd ?_
      obtain ⟨x71, hx71, hq⟩ := mx_bS hq
      refine mx_e_al hx71 ?_
      refine mx_p_iadd ?_
      refine mx_p_il rfl ?_
      by_cases hc72 : (x69 + x71) = l9
      · rw [if_pos hc72] at hq
        refine mx_e_it (decide_eq_true hc72) ?_
        have HB := Hk269 s10 _ hq
        exact mx_Ev.weak (mx_le.same _ (mx_le.same _ (mx_le.same _ (mx_le.same _ (mx_le.same _ (mx_le.same _ (mx_le.drop _ (mx_le.same _ (mx_le.drop _ (mx_le.drop _ (mx_le.same _ (mx_le.nil)))))))))))) HB
      · rw [if_neg hc72] at hq
        refine mx_e_if (fun z => hc72 (of_decide_eq_true z)) ?_
        refine mx_p_np ?_
        refine mx_p_inc (loc' := [some (.ref l0), none, some (.int l2), none, some (.int l4), none, some (.int l6), some (.int l7), some (.int l8), some (.int l9), some (.int (s10 + 1))]) rfl rfl ?_
        refine mx_p_gt ?_
        have HB := ih (s10 + 1) _ hq
        exact mx_Ev.weak (mx_le.same _ (mx_le.same _ (mx_le.same _ (mx_le.same _ (mx_le.same _ (mx_le.same _ (mx_le.same _ (mx_le.same _ (mx_le.same _ (mx_le.same _ (mx_le.same _ (mx_le.nil)))))))))))) HB
set_option maxRecDepth 20000 in
set_option maxHeartbeats 1000000 in
theorem e_f_X12_best_L174 (l0 : Nat) (l2 : Int32) (l4 : Int32) (h : mx_Hp) (k279 : Int32 × Int32 → Option (Int32 × mx_Hp)) (Hk279 : ∀ (s6 : Int32) (s7 : Int32) res, k279 (s6, s7) = some res → mx_Ev mx_k_X12_best mx_noS (mx_b_X12_best 279, [none, none, some (.int l2), none, some (.int l4), none, some (.int s6), none, none, none, none], [], h, 0, 0) (some (.int res.1), res.2)) : ∀ (n : Nat) (s6 : Int32) (s7 : Int32) res, mx_fix (f_X12_best_L174 l0 l2 l4 h k279) n (s6, s7) = some res → mx_Ev mx_k_X12_best mx_noS (mx_b_X12_best 174, [some (.ref l0), none, some (.int l2), none, some (.int l4), none, some (.int s6), some (.int s7), none, none, none], [], h, 0, 0) (some (.int res.1), res.2) := by
  intro n
  induction n with
  | zero => intro s6 s7 res hq; cases hq
  | succ n ih =>
    intro s6 s7 res hq
    unfold mx_fix at hq
    generalize mx_fix (f_X12_best_L174 l0 l2 l4 h k279) n = S at hq ih
    unfold f_X12_best_L174 at hq
    try dsimp only at hq
    refine mx_p_il rfl ?_
    refine mx_p_iln rfl ?_
    by_cases hc74 : l2 < s7
    · rw [if_pos hc74] at hq
      refine mx_e_it (decide_eq_true hc74) ?_
      have HB := Hk279 s6 s7 _ hq
      exact mx_Ev.weak (mx_le.drop _ (mx_le.same _ (mx_le.same _ (mx_le.same _ (mx_le.same _ (mx_le.same _ (mx_le.same _ (mx_le.drop _ (mx_le.same _ (mx_le.same _ (mx_le.same _ (mx_le.nil)))))))))))) HB
    · rw [if_neg hc74] at hq
      refine mx_e_if (fun z => hc74 (of_decide_eq_true z)) ?_
      refine mx_p_il rfl ?_
      refine mx_p_il rfl ?_
      by_cases hc75 : l4 ≤ s7
      · rw [if_pos hc75] at hq
        refine mx_e_it (decide_eq_true hc75) ?_
        have HB := Hk279 s6 s7 _ hq
        exact mx_Ev.weak (mx_le.drop _ (mx_le.same _ (mx_le.same _ (mx_le.same _ (mx_le.same _ (mx_le.same _ (mx_le.same _ (mx_le.drop _ (mx_le.same _ (mx_le.same _ (mx_le.same _ (mx_le.nil)))))))))))) HB
      · rw [if_neg hc75] at hq
        refine mx_e_if (fun z => hc75 (of_decide_eq_true z)) ?_
        refine mx_p_il rfl ?_
        refine mx_p_ic ?_
        refine mx_p_isub ?_
        refine mx_p_il rfl ?_
        refine mx_p_isub ?_
        refine mx_p_is (loc' := [some (.ref l0), none, some (.int l2), none, some (.int l4), none, some (.int s6), some (.int s7), some (.int ((l4 - 1) - s7)), none, none]) rfl ?_
        refine mx_p_aln rfl ?_
        obtain ⟨x76, hx76, hq⟩ := mx_bS hq
        refine mx_e_gr hx76 rfl ?_
        refine mx_p_bp ?_
        refine mx_p_il rfl ?_
        refine mx_p_ic ?_
        refine mx_p_iadd ?_
        refine mx_p_imul ?_
        refine mx_p_il rfl ?_
        refine mx_p_iadd ?_
        obtain ⟨x77, hx77, hq⟩ := mx_bS hq
        refine mx_e_al hx77 ?_
        refine mx_p_is (loc' := [some (.ref l0), none, some (.int l2), none, some (.int l4), none, some (.int s6), some (.int s7), some (.int ((l4 - 1) - s7)), some (.int x77), none]) rfl ?_
        refine mx_p_ic ?_
        refine mx_p_is (loc' := [some (.ref l0), none, some (.int l2), none, some (.int l4), none, some (.int s6), some (.int s7), some (.int ((l4 - 1) - s7)), some (.int x77), some (.int 0)]) rfl ?_
        refine mx_p_np ?_
        refine mx_Ev.weak (mx_le.same _ (mx_le.same _ (mx_le.same _ (mx_le.same _ (mx_le.same _ (mx_le.same _ (mx_le.same _ (mx_le.same _ (mx_le.same _ (mx_le.same _ (mx_le.same _ (mx_le.nil)))))))))))) (e_f_X12_best_L216 _ _ _ _ _ _ _ _ _ ?_ _ _ _ hq)
        · intro c78 res hq
          try dsimp only at hq
          refine mx_p_il rfl ?_
          refine mx_p_is (loc' := [some (.ref l0), none, some (.int l2), none, some (.int l4), none, some (.int c78), some (.int s7), none, none, some (.int c78)]) rfl ?_
          refine mx_p_inc (loc' := [some (.ref l0), none, some (.int l2), none, some (.int l4), none, some (.int c78), some (.int (s7 + 1)), none, none, some (.int c78)]) rfl rfl ?_
          refine mx_p_gt ?_
          have HB := ih c78 (s7 + 1) _ hq
          exact mx_Ev.weak (mx_le.same _ (mx_le.same _ (mx_le.same _ (mx_le.same _ (mx_le.same _ (mx_le.same _ (mx_le.same _ (mx_le.same _ (mx_le.same _ (mx_le.same _ (mx_le.drop _ (mx_le.nil)))))))))))) HB
set_option maxRecDepth 20000 in
set_option maxHeartbeats 1000000 in
theorem t_X12_best {a0 : Nat} {a1 : Int32} {a2 : Int32} {h : mx_Hp} {res} (hq : f_X12_best a0 a1 a2 h = some res) : mx_Ms mx_k_X12_best [.ref a0, .int a1, .int a2] h (some (.int res.1), res.2) := by
  unfold f_X12_best at hq
  show mx_Ev mx_k_X12_best mx_noS (mx_b_X12_best 0, [some (.ref a0), some (.int a1), some (.int a2), none, none, none, none, none, none, none, none], [], h, 0, 0) _
  refine mx_p_iln rfl ?_
  refine mx_p_ic ?_
  refine mx_p_bp ?_
  obtain ⟨x85, hx85, hq⟩ := mx_bS hq
  refine mx_e_cs mx_t_X12_in rfl rfl rfl ⟨Nat.le_of_ble_eq_true rfl, Nat.le_of_ble_eq_true rfl, Nat.le_of_ble_eq_true rfl⟩ (Nat.le_of_ble_eq_true rfl) rfl rfl ⟨Nat.zero_le _, Nat.zero_le _⟩ (t_X12_in hx85) ?_
  by_cases hc86 : x85 = 0
  · rw [if_pos hc86] at hq
    refine mx_e_zt (decide_eq_true hc86) ?_
    refine mx_p_ic ?_
    cases hq; exact mx_e_ri rfl
  · rw [if_neg hc86] at hq
    refine mx_e_zf (fun z => hc86 (of_decide_eq_true z)) ?_
    refine mx_p_iln rfl ?_
    refine mx_p_bp ?_
    refine mx_p_bp ?_
    obtain ⟨x87, hx87, hq⟩ := mx_bS hq
    refine mx_e_cs mx_t_X12_in rfl rfl rfl ⟨Nat.le_of_ble_eq_true rfl, Nat.le_of_ble_eq_true rfl, Nat.le_of_ble_eq_true rfl⟩ (Nat.le_of_ble_eq_true rfl) rfl rfl ⟨Nat.zero_le _, Nat.zero_le _⟩ (t_X12_in hx87) ?_
    by_cases hc88 : ¬ x87 = 0
    · rw [if_pos hc88] at hq
      refine mx_e_zt (decide_eq_true hc88) ?_
      refine mx_p_ic ?_
      refine mx_p_isn (loc' := [some (.ref a0), some (.int a1), some (.int a2), some (.int (-1)), none, none, none, none, none, none, none]) rfl ?_
      refine mx_p_ic ?_
      refine mx_p_is (loc' := [some (.ref a0), some (.int a1), some (.int a2), some (.int (-1)), some (.int 0), none, none, none, none, none, none]) rfl ?_
      refine mx_p_ic ?_
      refine mx_p_is (loc' := [some (.ref a0), some (.int a1), some (.int a2), some (.int (-1)), some (.int 0), some (.int 0), none, none, none, none, none]) rfl ?_
      refine mx_p_iln rfl ?_
      refine mx_p_ic ?_
      refine mx_p_isub ?_
      refine mx_p_is (loc' := [some (.ref a0), some (.int a1), some (.int a2), some (.int (-1)), some (.int 0), some (.int 0), some (.int (a1 - 1)), none, none, none, none]) rfl ?_
      refine mx_p_np ?_
      refine mx_Ev.weak (mx_le.same _ (mx_le.drop _ (mx_le.same _ (mx_le.same _ (mx_le.same _ (mx_le.same _ (mx_le.same _ (mx_le.same _ (mx_le.same _ (mx_le.same _ (mx_le.same _ (mx_le.nil)))))))))))) (e_f_X12_best_L36 _ _ _ ?_ _ _ _ _ _ _ _ hq)
      · intro c89 c90 c91 c92 c93 res hq
        try dsimp only at hq
        refine mx_p_iln rfl ?_
        by_cases hc94 : c89 < 0
        · rw [if_pos hc94] at hq
          refine mx_e_zt (decide_eq_true hc94) ?_
          refine mx_p_iln rfl ?_
          obtain ⟨v97, hE, hK⟩ := mx_bS hq
          have HJ : mx_Ev mx_k_X12_best mx_noS (mx_b_X12_best 156, [none, none, none, none, none, none, none, none, none, none, none], [.int v97], c93, 0, 0) (some (.int res.1), res.2) := by
            replace hq := hK
            cases hq; exact mx_e_ri rfl
          clear hK
          replace hq := hE
          by_cases hc95 : 0 ≤ c89
          · rw [if_pos hc95] at hq
            refine mx_e_zt (decide_eq_true hc95) ?_
            refine mx_p_iln rfl ?_
            refine mx_p_ic ?_
            by_cases hc96 : ¬ a2 = (-1)
            · rw [if_pos hc96] at hq
              refine mx_e_it (decide_eq_true hc96) ?_
              refine mx_p_il rfl ?_
              refine mx_p_np ?_
              cases hq; exact mx_Ev.weak (mx_le.drop _ (mx_le.same _ (mx_le.drop _ (mx_le.drop _ (mx_le.drop _ (mx_le.drop _ (mx_le.same _ (mx_le.same _ (mx_le.same _ (mx_le.same _ (mx_le.same _ (mx_le.nil)))))))))))) HJ
            · rw [if_neg hc96] at hq
              refine mx_e_if (fun z => hc96 (of_decide_eq_true z)) ?_
              refine mx_p_iln rfl ?_
              refine mx_p_gt ?_
              cases hq; exact mx_Ev.weak (mx_le.drop _ (mx_le.same _ (mx_le.drop _ (mx_le.drop _ (mx_le.drop _ (mx_le.drop _ (mx_le.same _ (mx_le.same _ (mx_le.same _ (mx_le.same _ (mx_le.same _ (mx_le.nil)))))))))))) HJ
          · rw [if_neg hc95] at hq
            refine mx_e_zf (fun z => hc95 (of_decide_eq_true z)) ?_
            refine mx_p_bp ?_
            refine mx_p_gt ?_
            cases hq; exact mx_Ev.weak (mx_le.drop _ (mx_le.same _ (mx_le.drop _ (mx_le.drop _ (mx_le.drop _ (mx_le.drop _ (mx_le.same _ (mx_le.same _ (mx_le.same _ (mx_le.same _ (mx_le.same _ (mx_le.nil)))))))))))) HJ
        · rw [if_neg hc94] at hq
          refine mx_e_zf (fun z => hc94 (of_decide_eq_true z)) ?_
          refine mx_p_iln rfl ?_
          by_cases hc98 : 0 ≤ a2
          · rw [if_pos hc98] at hq
            refine mx_e_zt (decide_eq_true hc98) ?_
            refine mx_p_aln rfl ?_
            refine mx_p_aln rfl ?_
            refine mx_p_il rfl ?_
            have ho100 : a0 < c93.1 ∧ (mx_lay a0).1 = 15 := by
              by_cases hh : a0 < c93.1 ∧ (mx_lay a0).1 = 15
              · exact hh
              · rw [if_neg hh] at hq; cases hq
            rw [if_pos ho100] at hq
            obtain ⟨x99, hx99, hq⟩ := mx_bS hq
            refine mx_e_cv mx_t_X12_lost ho100 rfl rfl rfl ⟨Nat.le_of_ble_eq_true rfl, Nat.le_of_ble_eq_true rfl, Nat.le_of_ble_eq_true rfl⟩ (Nat.le_of_ble_eq_true rfl) rfl rfl rfl ⟨Nat.zero_le _, Nat.zero_le _⟩ (t_X12_lost hx99) ?_
            have ho102 : a0 < x99.2.1 ∧ (mx_lay a0).1 = 15 := by
              by_cases hh : a0 < x99.2.1 ∧ (mx_lay a0).1 = 15
              · exact hh
              · rw [if_neg hh] at hq; cases hq
            rw [if_pos ho102] at hq
            obtain ⟨x101, hx101, hq⟩ := mx_bS hq
            refine mx_e_cv mx_t_X12_gainsFor ho102 rfl rfl rfl ⟨Nat.le_of_ble_eq_true rfl, Nat.le_of_ble_eq_true rfl, Nat.le_of_ble_eq_true rfl⟩ (Nat.le_of_ble_eq_true rfl) rfl rfl rfl ⟨Nat.zero_le _, Nat.zero_le _⟩ (t_X12_gainsFor hx101) ?_
            refine mx_p_il rfl ?_
            refine mx_p_is (loc' := [some (.ref a0), none, some (.int a2), some (.int c89), some (.int c90), some (.int c91), some (.int c91), none, none, none, none]) rfl ?_
            refine mx_p_ic ?_
            refine mx_p_is (loc' := [some (.ref a0), none, some (.int a2), some (.int c89), some (.int c90), some (.int c91), some (.int c91), some (.int 1), none, none, none]) rfl ?_
            refine mx_p_np ?_
            refine mx_Ev.weak (mx_le.same _ (mx_le.same _ (mx_le.same _ (mx_le.drop _ (mx_le.same _ (mx_le.drop _ (mx_le.same _ (mx_le.same _ (mx_le.same _ (mx_le.same _ (mx_le.same _ (mx_le.nil)))))))))))) (e_f_X12_best_L174 _ _ _ _ _ ?_ _ _ _ _ hq)
            · intro c103 c104 res hq
              try dsimp only at hq
              refine mx_p_iln rfl ?_
              refine mx_p_il rfl ?_
              obtain ⟨v106, hE, hK⟩ := mx_bS hq
              have HJ : mx_Ev mx_k_X12_best mx_noS (mx_b_X12_best 292, [none, none, none, none, none, none, none, none, none, none, none], [.int v106], x101, 0, 0) (some (.int res.1), res.2) := by
                replace hq := hK
                cases hq; exact mx_e_ri rfl
              clear hK
              replace hq := hE
              by_cases hc105 : c90 ≤ a2
              · rw [if_pos hc105] at hq
                refine mx_e_it (decide_eq_true hc105) ?_
                refine mx_p_bp ?_
                refine mx_p_np ?_
                cases hq; exact mx_Ev.weak (mx_le.same _ (mx_le.same _ (mx_le.drop _ (mx_le.same _ (mx_le.drop _ (mx_le.same _ (mx_le.drop _ (mx_le.same _ (mx_le.same _ (mx_le.same _ (mx_le.same _ (mx_le.nil)))))))))))) HJ
              · rw [if_neg hc105] at hq
                refine mx_e_if (fun z => hc105 (of_decide_eq_true z)) ?_
                refine mx_p_il rfl ?_
                refine mx_p_gt ?_
                cases hq; exact mx_Ev.weak (mx_le.same _ (mx_le.same _ (mx_le.drop _ (mx_le.same _ (mx_le.drop _ (mx_le.same _ (mx_le.drop _ (mx_le.same _ (mx_le.same _ (mx_le.same _ (mx_le.same _ (mx_le.nil)))))))))))) HJ
          · rw [if_neg hc98] at hq
            refine mx_e_zf (fun z => hc98 (of_decide_eq_true z)) ?_
            refine mx_p_np ?_
            refine mx_p_iln rfl ?_
            obtain ⟨v109, hE, hK⟩ := mx_bS hq
            have HJ : mx_Ev mx_k_X12_best mx_noS (mx_b_X12_best 156, [none, none, none, none, none, none, none, none, none, none, none], [.int v109], c93, 0, 0) (some (.int res.1), res.2) := by
              replace hq := hK
              cases hq; exact mx_e_ri rfl
            clear hK
            replace hq := hE
            by_cases hc107 : 0 ≤ c89
            · rw [if_pos hc107] at hq
              refine mx_e_zt (decide_eq_true hc107) ?_
              refine mx_p_iln rfl ?_
              refine mx_p_ic ?_
              by_cases hc108 : ¬ a2 = (-1)
              · rw [if_pos hc108] at hq
                refine mx_e_it (decide_eq_true hc108) ?_
                refine mx_p_il rfl ?_
                refine mx_p_np ?_
                cases hq; exact mx_Ev.weak (mx_le.drop _ (mx_le.same _ (mx_le.drop _ (mx_le.drop _ (mx_le.drop _ (mx_le.drop _ (mx_le.same _ (mx_le.same _ (mx_le.same _ (mx_le.same _ (mx_le.same _ (mx_le.nil)))))))))))) HJ
              · rw [if_neg hc108] at hq
                refine mx_e_if (fun z => hc108 (of_decide_eq_true z)) ?_
                refine mx_p_iln rfl ?_
                refine mx_p_gt ?_
                cases hq; exact mx_Ev.weak (mx_le.drop _ (mx_le.same _ (mx_le.drop _ (mx_le.drop _ (mx_le.drop _ (mx_le.drop _ (mx_le.same _ (mx_le.same _ (mx_le.same _ (mx_le.same _ (mx_le.same _ (mx_le.nil)))))))))))) HJ
            · rw [if_neg hc107] at hq
              refine mx_e_zf (fun z => hc107 (of_decide_eq_true z)) ?_
              refine mx_p_bp ?_
              refine mx_p_gt ?_
              cases hq; exact mx_Ev.weak (mx_le.drop _ (mx_le.same _ (mx_le.drop _ (mx_le.drop _ (mx_le.drop _ (mx_le.drop _ (mx_le.same _ (mx_le.same _ (mx_le.same _ (mx_le.same _ (mx_le.same _ (mx_le.nil)))))))))))) HJ
    · rw [if_neg hc88] at hq
      refine mx_e_zf (fun z => hc88 (of_decide_eq_true z)) ?_
      refine mx_p_np ?_
      refine mx_p_ic ?_
      cases hq; exact mx_e_ri rfl
set_option maxRecDepth 20000 in
set_option maxHeartbeats 1000000 in
theorem e_f_X12_isLure_L51 (l0 : Nat) (l1 : Int32) (l2 : Int32) (l3 : Int32) (l4 : Int32) (l5 : Int32) (l6 : Int32) (l7 : Int32) (h : mx_Hp) (k87 : Int32 × Int32 → Option (Int32 × mx_Hp)) (Hk87 : ∀ (s8 : Int32) (s9 : Int32) res, k87 (s8, s9) = some res → mx_Ev mx_k_X12_isLure mx_noS (mx_b_X12_isLure 87, [some (.ref l0), some (.int l1), some (.int l2), some (.int l3), some (.int l4), some (.int l5), some (.int l6), none, some (.int s8), none], [], h, 0, 0) (some (.int res.1), res.2)) : ∀ (n : Nat) (s8 : Int32) (s9 : Int32) res, mx_fix (f_X12_isLure_L51 l0 l1 l2 l3 l4 l5 l6 l7 h k87) n (s8, s9) = some res → mx_Ev mx_k_X12_isLure mx_noS (mx_b_X12_isLure 51, [some (.ref l0), some (.int l1), some (.int l2), some (.int l3), some (.int l4), some (.int l5), some (.int l6), some (.int l7), some (.int s8), some (.int s9)], [], h, 0, 0) (some (.int res.1), res.2) := by
  intro n
  induction n with
  | zero => intro s8 s9 res hq; cases hq
  | succ n ih =>
    intro s8 s9 res hq
    unfold mx_fix at hq
    generalize mx_fix (f_X12_isLure_L51 l0 l1 l2 l3 l4 l5 l6 l7 h k87) n = S at hq ih
    unfold f_X12_isLure_L51 at hq
    try dsimp only at hq
    refine mx_p_il rfl ?_
    refine mx_p_il rfl ?_
    by_cases hc18 : l7 ≤ s9
    · rw [if_pos hc18] at hq
      refine mx_e_it (decide_eq_true hc18) ?_
      have HB := Hk87 s8 s9 _ hq
      exact mx_Ev.weak (mx_le.same _ (mx_le.same _ (mx_le.same _ (mx_le.same _ (mx_le.same _ (mx_le.same _ (mx_le.same _ (mx_le.drop _ (mx_le.same _ (mx_le.drop _ (mx_le.nil))))))))))) HB
    · rw [if_neg hc18] at hq
      refine mx_e_if (fun z => hc18 (of_decide_eq_true z)) ?_
      refine mx_p_il rfl ?_
      obtain ⟨v23, hE, hK⟩ := mx_bS hq
      have HJ : mx_Ev mx_k_X12_isLure mx_noS (mx_b_X12_isLure 79, [some (.ref l0), some (.int l1), some (.int l2), some (.int l3), some (.int l4), some (.int l5), some (.int l6), some (.int l7), none, some (.int s9)], [.int v23], h, 0, 0) (some (.int res.1), res.2) := by
        replace hq := hK
        refine mx_p_is (loc' := [some (.ref l0), some (.int l1), some (.int l2), some (.int l3), some (.int l4), some (.int l5), some (.int l6), some (.int l7), some (.int v23), some (.int s9)]) rfl ?_
        refine mx_p_inc (loc' := [some (.ref l0), some (.int l1), some (.int l2), some (.int l3), some (.int l4), some (.int l5), some (.int l6), some (.int l7), some (.int v23), some (.int (s9 + 1))]) rfl rfl ?_
        refine mx_p_gt ?_
        have HB := ih v23 (s9 + 1) _ hq
        exact mx_Ev.weak (mx_le.same _ (mx_le.same _ (mx_le.same _ (mx_le.same _ (mx_le.same _ (mx_le.same _ (mx_le.same _ (mx_le.same _ (mx_le.same _ (mx_le.same _ (mx_le.nil))))))))))) HB
      clear hK
      replace hq := hE
      by_cases hc19 : ¬ s8 = 0
      · rw [if_pos hc19] at hq
        refine mx_e_zt (decide_eq_true hc19) ?_
        refine mx_p_ic ?_
        refine mx_p_gt ?_
        cases hq; exact mx_Ev.weak (mx_le.same _ (mx_le.same _ (mx_le.same _ (mx_le.same _ (mx_le.same _ (mx_le.same _ (mx_le.same _ (mx_le.same _ (mx_le.drop _ (mx_le.same _ (mx_le.nil))))))))))) HJ
      · rw [if_neg hc19] at hq
        refine mx_e_zf (fun z => hc19 (of_decide_eq_true z)) ?_
        refine mx_p_aln rfl ?_
        obtain ⟨x20, hx20, hq⟩ := mx_bS hq
        refine mx_e_gr hx20 rfl ?_
        refine mx_p_il rfl ?_
        obtain ⟨x21, hx21, hq⟩ := mx_bS hq
        refine mx_e_al hx21 ?_
        refine mx_p_iln rfl ?_
        by_cases hc22 : ¬ x21 = l1
        · rw [if_pos hc22] at hq
          refine mx_e_it (decide_eq_true hc22) ?_
          refine mx_p_ic ?_
          refine mx_p_np ?_
          cases hq; exact mx_Ev.weak (mx_le.same _ (mx_le.same _ (mx_le.same _ (mx_le.same _ (mx_le.same _ (mx_le.same _ (mx_le.same _ (mx_le.same _ (mx_le.drop _ (mx_le.same _ (mx_le.nil))))))))))) HJ
        · rw [if_neg hc22] at hq
          refine mx_e_if (fun z => hc22 (of_decide_eq_true z)) ?_
          refine mx_p_np ?_
          refine mx_p_ic ?_
          refine mx_p_gt ?_
          cases hq; exact mx_Ev.weak (mx_le.same _ (mx_le.same _ (mx_le.same _ (mx_le.same _ (mx_le.same _ (mx_le.same _ (mx_le.same _ (mx_le.same _ (mx_le.drop _ (mx_le.same _ (mx_le.nil))))))))))) HJ
set_option maxRecDepth 20000 in
set_option maxHeartbeats 1000000 in
theorem e_f_X12_isLure_L24 (l0 : Nat) (l1 : Int32) (l2 : Int32) (l3 : Int32) (l4 : Int32) (l5 : Int32) (k115 : Int32 × mx_Hp → Option (Int32 × mx_Hp)) (Hk115 : ∀ (s6 : Int32) (hh : mx_Hp) res, k115 (s6, hh) = some res → mx_Ev mx_k_X12_isLure mx_noS (mx_b_X12_isLure 115, [some (.ref l0), none, some (.int l2), some (.int l3), some (.int l4), none, none, none, none, none], [], hh, 0, 0) (some (.int res.1), res.2)) : ∀ (n : Nat) (s6 : Int32) (hh : mx_Hp) res, mx_fix (f_X12_isLure_L24 l0 l1 l2 l3 l4 l5 k115) n (s6, hh) = some res → mx_Ev mx_k_X12_isLure mx_noS (mx_b_X12_isLure 24, [some (.ref l0), some (.int l1), some (.int l2), some (.int l3), some (.int l4), some (.int l5), some (.int s6), none, none, none], [], hh, 0, 0) (some (.int res.1), res.2) := by
  intro n
  induction n with
  | zero => intro s6 hh res hq; cases hq
  | succ n ih =>
    intro s6 hh res hq
    unfold mx_fix at hq
    generalize mx_fix (f_X12_isLure_L24 l0 l1 l2 l3 l4 l5 k115) n = S at hq ih
    unfold f_X12_isLure_L24 at hq
    try dsimp only at hq
    refine mx_p_il rfl ?_
    refine mx_p_aln rfl ?_
    obtain ⟨x30, hx30, hq⟩ := mx_bS hq
    refine mx_e_gr hx30 rfl ?_
    refine mx_p_ic ?_
    obtain ⟨x31, hx31, hq⟩ := mx_bS hq
    refine mx_e_al hx31 ?_
    by_cases hc32 : x31 ≤ s6
    · rw [if_pos hc32] at hq
      refine mx_e_it (decide_eq_true hc32) ?_
      have HB := Hk115 s6 hh _ hq
      exact mx_Ev.weak (mx_le.same _ (mx_le.drop _ (mx_le.same _ (mx_le.same _ (mx_le.same _ (mx_le.drop _ (mx_le.drop _ (mx_le.same _ (mx_le.same _ (mx_le.same _ (mx_le.nil))))))))))) HB
    · rw [if_neg hc32] at hq
      refine mx_e_if (fun z => hc32 (of_decide_eq_true z)) ?_
      refine mx_p_aln rfl ?_
      refine mx_p_il rfl ?_
      refine mx_p_il rfl ?_
      have ho34 : l0 < hh.1 ∧ (mx_lay l0).1 = 15 := by
        by_cases hh : l0 < hh.1 ∧ (mx_lay l0).1 = 15
        · exact hh
        · rw [if_neg hh] at hq; cases hq
      rw [if_pos ho34] at hq
      obtain ⟨x33, hx33, hq⟩ := mx_bS hq
      refine mx_e_cv mx_t_X12_finishes ho34 rfl rfl rfl ⟨Nat.le_of_ble_eq_true rfl, Nat.le_of_ble_eq_true rfl, Nat.le_of_ble_eq_true rfl⟩ (Nat.le_of_ble_eq_true rfl) rfl rfl rfl ⟨Nat.zero_le _, Nat.zero_le _⟩ (t_X12_finishes hx33) ?_
      refine mx_p_is (loc' := [some (.ref l0), some (.int l1), some (.int l2), some (.int l3), some (.int l4), some (.int l5), some (.int s6), some (.int x33.1), none, none]) rfl ?_
      refine mx_p_ic ?_
      refine mx_p_is (loc' := [some (.ref l0), some (.int l1), some (.int l2), some (.int l3), some (.int l4), some (.int l5), some (.int s6), some (.int x33.1), some (.int 0), none]) rfl ?_
      refine mx_p_ic ?_
      refine mx_p_is (loc' := [some (.ref l0), some (.int l1), some (.int l2), some (.int l3), some (.int l4), some (.int l5), some (.int s6), some (.int x33.1), some (.int 0), some (.int 0)]) rfl ?_
      refine mx_p_np ?_
      refine mx_Ev.weak (mx_le.same _ (mx_le.same _ (mx_le.same _ (mx_le.same _ (mx_le.same _ (mx_le.same _ (mx_le.same _ (mx_le.same _ (mx_le.same _ (mx_le.same _ (mx_le.nil))))))))))) (e_f_X12_isLure_L51 _ _ _ _ _ _ _ _ _ _ ?_ _ _ _ _ hq)
      · intro c35 c36 res hq
        try dsimp only at hq
        refine mx_p_aln rfl ?_
        obtain ⟨x37, hx37, hq⟩ := mx_bS hq
        refine mx_e_gr hx37 rfl ?_
        refine mx_p_ic ?_
        refine mx_p_dup2 rfl rfl ?_
        obtain ⟨x38, hx38, hq⟩ := mx_bS hq
        refine mx_e_al hx38 ?_
        refine mx_p_il rfl ?_
        obtain ⟨v40, hE, hK⟩ := mx_bS hq
        have HJ : mx_Ev mx_k_X12_isLure mx_noS (mx_b_X12_isLure 107, [some (.ref l0), some (.int l1), some (.int l2), some (.int l3), some (.int l4), some (.int l5), some (.int s6), none, none, none], [.int v40, .int x38, .int 0, .ref x37], x33.2, 0, 0) (some (.int res.1), res.2) := by
          replace hq := hK
          refine mx_p_ior ?_
          obtain ⟨h41, hh41, hq⟩ := mx_bS hq
          refine mx_e_as hh41 ?_
          refine mx_p_inc (loc' := [some (.ref l0), some (.int l1), some (.int l2), some (.int l3), some (.int l4), some (.int l5), some (.int (s6 + 1)), none, none, none]) rfl rfl ?_
          refine mx_p_gt ?_
          have HB := ih (s6 + 1) h41 _ hq
          exact mx_Ev.weak (mx_le.same _ (mx_le.same _ (mx_le.same _ (mx_le.same _ (mx_le.same _ (mx_le.same _ (mx_le.same _ (mx_le.same _ (mx_le.same _ (mx_le.same _ (mx_le.nil))))))))))) HB
        clear hK
        replace hq := hE
        by_cases hc39 : c35 = 0
        · rw [if_pos hc39] at hq
          refine mx_e_zt (decide_eq_true hc39) ?_
          refine mx_p_ic ?_
          refine mx_p_np ?_
          cases hq; exact mx_Ev.weak (mx_le.same _ (mx_le.same _ (mx_le.same _ (mx_le.same _ (mx_le.same _ (mx_le.same _ (mx_le.same _ (mx_le.same _ (mx_le.drop _ (mx_le.same _ (mx_le.nil))))))))))) HJ
        · rw [if_neg hc39] at hq
          refine mx_e_zf (fun z => hc39 (of_decide_eq_true z)) ?_
          refine mx_p_ic ?_
          refine mx_p_il rfl ?_
          refine mx_p_ishl ?_
          refine mx_p_gt ?_
          cases hq; exact mx_Ev.weak (mx_le.same _ (mx_le.same _ (mx_le.same _ (mx_le.same _ (mx_le.same _ (mx_le.same _ (mx_le.same _ (mx_le.same _ (mx_le.drop _ (mx_le.same _ (mx_le.nil))))))))))) HJ
set_option maxRecDepth 20000 in
set_option maxHeartbeats 1000000 in
theorem e_f_X12_isLure_L135 (l0 : Nat) (l2 : Int32) (l3 : Int32) (l4 : Int32) (l6 : Int32) (k203 : Int32 × mx_Hp → Option (Int32 × mx_Hp)) (Hk203 : ∀ (s7 : Int32) (hh : mx_Hp) res, k203 (s7, hh) = some res → mx_Ev mx_k_X12_isLure mx_noS (mx_b_X12_isLure 203, [some (.ref l0), none, some (.int l2), some (.int l3), some (.int l4), none, some (.int l6), none, none, none], [], hh, 0, 0) (some (.int res.1), res.2)) : ∀ (n : Nat) (s7 : Int32) (hh : mx_Hp) res, mx_fix (f_X12_isLure_L135 l0 l2 l3 l4 l6 k203) n (s7, hh) = some res → mx_Ev mx_k_X12_isLure mx_noS (mx_b_X12_isLure 135, [some (.ref l0), none, some (.int l2), some (.int l3), some (.int l4), none, some (.int l6), some (.int s7), none, none], [], hh, 0, 0) (some (.int res.1), res.2) := by
  intro n
  induction n with
  | zero => intro s7 hh res hq; cases hq
  | succ n ih =>
    intro s7 hh res hq
    unfold mx_fix at hq
    generalize mx_fix (f_X12_isLure_L135 l0 l2 l3 l4 l6 k203) n = S at hq ih
    unfold f_X12_isLure_L135 at hq
    try dsimp only at hq
    refine mx_p_il rfl ?_
    refine mx_p_aln rfl ?_
    obtain ⟨x60, hx60, hq⟩ := mx_bS hq
    refine mx_e_gr hx60 rfl ?_
    refine mx_p_ic ?_
    obtain ⟨x61, hx61, hq⟩ := mx_bS hq
    refine mx_e_al hx61 ?_
    by_cases hc62 : x61 ≤ s7
    · rw [if_pos hc62] at hq
      refine mx_e_it (decide_eq_true hc62) ?_
      have HB := Hk203 s7 hh _ hq
      exact mx_Ev.weak (mx_le.same _ (mx_le.same _ (mx_le.same _ (mx_le.same _ (mx_le.same _ (mx_le.same _ (mx_le.same _ (mx_le.drop _ (mx_le.same _ (mx_le.same _ (mx_le.nil))))))))))) HB
    · rw [if_neg hc62] at hq
      refine mx_e_if (fun z => hc62 (of_decide_eq_true z)) ?_
      refine mx_p_aln rfl ?_
      obtain ⟨x63, hx63, hq⟩ := mx_bS hq
      refine mx_e_gr hx63 rfl ?_
      refine mx_p_il rfl ?_
      refine mx_p_dup2 rfl rfl ?_
      obtain ⟨x64, hx64, hq⟩ := mx_bS hq
      refine mx_e_al hx64 ?_
      refine mx_p_il rfl ?_
      refine mx_p_il rfl ?_
      obtain ⟨x65, hx65, hq⟩ := mx_bS hq
      refine mx_e_cs mx_t_X12_has rfl rfl rfl ⟨Nat.le_of_ble_eq_true rfl, Nat.le_of_ble_eq_true rfl, Nat.le_of_ble_eq_true rfl⟩ (Nat.le_of_ble_eq_true rfl) rfl rfl ⟨Nat.zero_le _, Nat.zero_le _⟩ (t_X12_has hx65) ?_
      obtain ⟨v72, hE, hK⟩ := mx_bS hq
      have HJ : mx_Ev mx_k_X12_isLure mx_noS (mx_b_X12_isLure 195, [some (.ref l0), none, some (.int l2), some (.int l3), some (.int l4), none, some (.int l6), some (.int s7), none, none], [.int v72, .int x64, .int l6, .ref x63], hh, 0, 0) (some (.int res.1), res.2) := by
        replace hq := hK
        refine mx_p_ior ?_
        obtain ⟨h73, hh73, hq⟩ := mx_bS hq
        refine mx_e_as hh73 ?_
        refine mx_p_inc (loc' := [some (.ref l0), none, some (.int l2), some (.int l3), some (.int l4), none, some (.int l6), some (.int (s7 + 1)), none, none]) rfl rfl ?_
        refine mx_p_gt ?_
        have HB := ih (s7 + 1) h73 _ hq
        exact mx_Ev.weak (mx_le.same _ (mx_le.same _ (mx_le.same _ (mx_le.same _ (mx_le.same _ (mx_le.same _ (mx_le.same _ (mx_le.same _ (mx_le.same _ (mx_le.same _ (mx_le.nil))))))))))) HB
      clear hK
      replace hq := hE
      by_cases hc66 : ¬ x65 = 0
      · rw [if_pos hc66] at hq
        refine mx_e_zt (decide_eq_true hc66) ?_
        refine mx_p_ic ?_
        refine mx_p_np ?_
        cases hq; exact mx_Ev.weak (mx_le.same _ (mx_le.same _ (mx_le.same _ (mx_le.same _ (mx_le.same _ (mx_le.same _ (mx_le.same _ (mx_le.same _ (mx_le.same _ (mx_le.same _ (mx_le.nil))))))))))) HJ
      · rw [if_neg hc66] at hq
        refine mx_e_zf (fun z => hc66 (of_decide_eq_true z)) ?_
        refine mx_p_aln rfl ?_
        obtain ⟨x67, hx67, hq⟩ := mx_bS hq
        refine mx_e_gr hx67 rfl ?_
        refine mx_p_bp ?_
        refine mx_p_il rfl ?_
        refine mx_p_iadd ?_
        obtain ⟨x68, hx68, hq⟩ := mx_bS hq
        refine mx_e_al hx68 ?_
        refine mx_p_aln rfl ?_
        obtain ⟨x69, hx69, hq⟩ := mx_bS hq
        refine mx_e_gr hx69 rfl ?_
        refine mx_p_il rfl ?_
        refine mx_p_ic ?_
        refine mx_p_isub ?_
        obtain ⟨x70, hx70, hq⟩ := mx_bS hq
        refine mx_e_al hx70 ?_
        refine mx_p_iand ?_
        by_cases hc71 : (x68 &&& x70) = 0
        · rw [if_pos hc71] at hq
          refine mx_e_zt (decide_eq_true hc71) ?_
          refine mx_p_ic ?_
          refine mx_p_np ?_
          cases hq; exact mx_Ev.weak (mx_le.same _ (mx_le.same _ (mx_le.same _ (mx_le.same _ (mx_le.same _ (mx_le.same _ (mx_le.same _ (mx_le.same _ (mx_le.same _ (mx_le.same _ (mx_le.nil))))))))))) HJ
        · rw [if_neg hc71] at hq
          refine mx_e_zf (fun z => hc71 (of_decide_eq_true z)) ?_
          refine mx_p_ic ?_
          refine mx_p_il rfl ?_
          refine mx_p_ishl ?_
          refine mx_p_gt ?_
          cases hq; exact mx_Ev.weak (mx_le.same _ (mx_le.same _ (mx_le.same _ (mx_le.same _ (mx_le.same _ (mx_le.same _ (mx_le.same _ (mx_le.same _ (mx_le.same _ (mx_le.same _ (mx_le.nil))))))))))) HJ
set_option maxRecDepth 20000 in
set_option maxHeartbeats 1000000 in
theorem e_f_X12_isLure_L118 (l0 : Nat) (l2 : Int32) (l3 : Int32) (l4 : Int32) (k209 : Int32 × mx_Hp → Option (Int32 × mx_Hp)) (Hk209 : ∀ (s6 : Int32) (hh : mx_Hp) res, k209 (s6, hh) = some res → mx_Ev mx_k_X12_isLure mx_noS (mx_b_X12_isLure 209, [some (.ref l0), none, some (.int l2), some (.int l3), none, none, none, none, none, none], [], hh, 0, 0) (some (.int res.1), res.2)) : ∀ (n : Nat) (s6 : Int32) (hh : mx_Hp) res, mx_fix (f_X12_isLure_L118 l0 l2 l3 l4 k209) n (s6, hh) = some res → mx_Ev mx_k_X12_isLure mx_noS (mx_b_X12_isLure 118, [some (.ref l0), none, some (.int l2), some (.int l3), some (.int l4), none, some (.int s6), none, none, none], [], hh, 0, 0) (some (.int res.1), res.2) := by
  intro n
  induction n with
  | zero => intro s6 hh res hq; cases hq
  | succ n ih =>
    intro s6 hh res hq
    unfold mx_fix at hq
    generalize mx_fix (f_X12_isLure_L118 l0 l2 l3 l4 k209) n = S at hq ih
    unfold f_X12_isLure_L118 at hq
    try dsimp only at hq
    refine mx_p_il rfl ?_
    refine mx_p_iln rfl ?_
    by_cases hc75 : l3 ≤ s6
    · rw [if_pos hc75] at hq
      refine mx_e_it (decide_eq_true hc75) ?_
      have HB := Hk209 s6 hh _ hq
      exact mx_Ev.weak (mx_le.same _ (mx_le.same _ (mx_le.same _ (mx_le.same _ (mx_le.drop _ (mx_le.same _ (mx_le.drop _ (mx_le.same _ (mx_le.same _ (mx_le.same _ (mx_le.nil))))))))))) HB
    · rw [if_neg hc75] at hq
      refine mx_e_if (fun z => hc75 (of_decide_eq_true z)) ?_
      refine mx_p_aln rfl ?_
      obtain ⟨x76, hx76, hq⟩ := mx_bS hq
      refine mx_e_gr hx76 rfl ?_
      refine mx_p_il rfl ?_
      refine mx_p_ic ?_
      obtain ⟨h77, hh77, hq⟩ := mx_bS hq
      refine mx_e_as hh77 ?_
      refine mx_p_ic ?_
      refine mx_p_is (loc' := [some (.ref l0), none, some (.int l2), some (.int l3), some (.int l4), none, some (.int s6), some (.int 0), none, none]) rfl ?_
      refine mx_p_np ?_
      refine mx_Ev.weak (mx_le.same _ (mx_le.same _ (mx_le.same _ (mx_le.same _ (mx_le.same _ (mx_le.same _ (mx_le.same _ (mx_le.same _ (mx_le.same _ (mx_le.same _ (mx_le.nil))))))))))) (e_f_X12_isLure_L135 _ _ _ _ _ _ ?_ _ _ _ _ hq)
      · intro c78 c79 res hq
        try dsimp only at hq
        refine mx_p_inc (loc' := [some (.ref l0), none, some (.int l2), some (.int l3), some (.int l4), none, some (.int (s6 + 1)), none, none, none]) rfl rfl ?_
        refine mx_p_gt ?_
        have HB := ih (s6 + 1) c79 _ hq
        exact mx_Ev.weak (mx_le.same _ (mx_le.same _ (mx_le.same _ (mx_le.same _ (mx_le.same _ (mx_le.same _ (mx_le.same _ (mx_le.same _ (mx_le.same _ (mx_le.same _ (mx_le.nil))))))))))) HB
set_option maxRecDepth 20000 in
set_option maxHeartbeats 1000000 in
theorem e_f_X12_isLure_L233 (l0 : Nat) (l3 : Int32) (l6 : Int32)   : ∀ (n : Nat) (s7 : Int32) (hh : mx_Hp) res, mx_fix (f_X12_isLure_L233 l0 l3 l6 ) n (s7, hh) = some res → mx_Ev mx_k_X12_isLure mx_noS (mx_b_X12_isLure 233, [some (.ref l0), none, none, some (.int l3), none, none, some (.int l6), some (.int s7), none, none], [], hh, 0, 0) (some (.int res.1), res.2) := by
  intro n
  induction n with
  | zero => intro s7 hh res hq; cases hq
  | succ n ih =>
    intro s7 hh res hq
    unfold mx_fix at hq
    generalize mx_fix (f_X12_isLure_L233 l0 l3 l6 ) n = S at hq ih
    unfold f_X12_isLure_L233 at hq
    try dsimp only at hq
    refine mx_p_il rfl ?_
    refine mx_p_iln rfl ?_
    by_cases hc99 : l3 ≤ s7
    · rw [if_pos hc99] at hq
      refine mx_e_it (decide_eq_true hc99) ?_
      refine mx_p_il rfl ?_
      by_cases hb100 : l6 = 0 ∨ l6 = 1
      · rw [if_pos hb100] at hq; cases hq; exact mx_e_rb rfl hb100
      · rw [if_neg hb100] at hq; cases hq
    · rw [if_neg hc99] at hq
      refine mx_e_if (fun z => hc99 (of_decide_eq_true z)) ?_
      refine mx_p_il rfl ?_
      by_cases hc101 : l6 = 0
      · rw [if_pos hc101] at hq
        refine mx_e_zt (decide_eq_true hc101) ?_
        refine mx_p_il rfl ?_
        by_cases hb102 : l6 = 0 ∨ l6 = 1
        · rw [if_pos hb102] at hq; cases hq; exact mx_e_rb rfl hb102
        · rw [if_neg hb102] at hq; cases hq
      · rw [if_neg hc101] at hq
        refine mx_e_zf (fun z => hc101 (of_decide_eq_true z)) ?_
        refine mx_p_aln rfl ?_
        obtain ⟨x103, hx103, hq⟩ := mx_bS hq
        refine mx_e_gr hx103 rfl ?_
        refine mx_p_il rfl ?_
        refine mx_p_aln rfl ?_
        obtain ⟨x104, hx104, hq⟩ := mx_bS hq
        refine mx_e_gr hx104 rfl ?_
        refine mx_p_bp ?_
        refine mx_p_aln rfl ?_
        obtain ⟨x105, hx105, hq⟩ := mx_bS hq
        refine mx_e_gr hx105 rfl ?_
        refine mx_p_il rfl ?_
        refine mx_p_ic ?_
        refine mx_p_isub ?_
        obtain ⟨x106, hx106, hq⟩ := mx_bS hq
        refine mx_e_al hx106 ?_
        refine mx_p_iadd ?_
        obtain ⟨x107, hx107, hq⟩ := mx_bS hq
        refine mx_e_al hx107 ?_
        refine mx_p_aln rfl ?_
        obtain ⟨x108, hx108, hq⟩ := mx_bS hq
        refine mx_e_gr hx108 rfl ?_
        refine mx_p_iln rfl ?_
        refine mx_p_ic ?_
        refine mx_p_isub ?_
        refine mx_p_il rfl ?_
        refine mx_p_isub ?_
        obtain ⟨x109, hx109, hq⟩ := mx_bS hq
        refine mx_e_al hx109 ?_
        refine mx_p_iand ?_
        obtain ⟨x110, hx110, hq⟩ := mx_bS hq
        refine mx_e_cs mx_t_X12_lowest rfl rfl rfl ⟨Nat.le_of_ble_eq_true rfl, Nat.le_of_ble_eq_true rfl, Nat.le_of_ble_eq_true rfl⟩ (Nat.le_of_ble_eq_true rfl) rfl rfl ⟨Nat.zero_le _, Nat.zero_le _⟩ (t_X12_lowest hx110) ?_
        obtain ⟨h111, hh111, hq⟩ := mx_bS hq
        refine mx_e_as hh111 ?_
        refine mx_p_inc (loc' := [some (.ref l0), none, none, some (.int l3), none, none, some (.int l6), some (.int (s7 + 1)), none, none]) rfl rfl ?_
        refine mx_p_gt ?_
        have HB := ih (s7 + 1) h111 _ hq
        exact mx_Ev.weak (mx_le.same _ (mx_le.same _ (mx_le.same _ (mx_le.same _ (mx_le.same _ (mx_le.same _ (mx_le.same _ (mx_le.same _ (mx_le.same _ (mx_le.same _ (mx_le.nil))))))))))) HB
set_option maxRecDepth 20000 in
set_option maxHeartbeats 1000000 in
theorem t_X12_isLure {a0 : Nat} {a1 : Int32} {a2 : Int32} {a3 : Int32} {h : mx_Hp} {res} (hq : f_X12_isLure a0 a1 a2 a3 h = some res) : mx_Ms mx_k_X12_isLure [.ref a0, .int a1, .int a2, .int a3] h (some (.int res.1), res.2) := by
  unfold f_X12_isLure at hq
  show mx_Ev mx_k_X12_isLure mx_noS (mx_b_X12_isLure 0, [some (.ref a0), some (.int a1), some (.int a2), some (.int a3), none, none, none, none, none, none], [], h, 0, 0) _
  refine mx_p_aln rfl ?_
  refine mx_p_iln rfl ?_
  have ho113 : a0 < h.1 ∧ (mx_lay a0).1 = 15 := by
    by_cases hh : a0 < h.1 ∧ (mx_lay a0).1 = 15
    · exact hh
    · rw [if_neg hh] at hq; cases hq
  rw [if_pos ho113] at hq
  obtain ⟨x112, hx112, hq⟩ := mx_bS hq
  refine mx_e_cv mx_t_X12_lost ho113 rfl rfl rfl ⟨Nat.le_of_ble_eq_true rfl, Nat.le_of_ble_eq_true rfl, Nat.le_of_ble_eq_true rfl⟩ (Nat.le_of_ble_eq_true rfl) rfl rfl rfl ⟨Nat.zero_le _, Nat.zero_le _⟩ (t_X12_lost hx112) ?_
  refine mx_p_is (loc' := [some (.ref a0), some (.int a1), some (.int a2), some (.int a3), some (.int x112.1), none, none, none, none, none]) rfl ?_
  refine mx_p_aln rfl ?_
  refine mx_p_iln rfl ?_
  have ho115 : a0 < x112.2.1 ∧ (mx_lay a0).1 = 15 := by
    by_cases hh : a0 < x112.2.1 ∧ (mx_lay a0).1 = 15
    · exact hh
    · rw [if_neg hh] at hq; cases hq
  rw [if_pos ho115] at hq
  obtain ⟨x114, hx114, hq⟩ := mx_bS hq
  refine mx_e_cv mx_t_X12_knowsFor ho115 rfl rfl rfl ⟨Nat.le_of_ble_eq_true rfl, Nat.le_of_ble_eq_true rfl, Nat.le_of_ble_eq_true rfl⟩ (Nat.le_of_ble_eq_true rfl) rfl rfl rfl ⟨Nat.zero_le _, Nat.zero_le _⟩ (t_X12_knowsFor hx114) ?_
  refine mx_p_is (loc' := [some (.ref a0), some (.int a1), some (.int a2), some (.int a3), some (.int x112.1), some (.int x114), none, none, none, none]) rfl ?_
  refine mx_p_aln rfl ?_
  obtain ⟨x116, hx116, hq⟩ := mx_bS hq
  refine mx_e_gr hx116 rfl ?_
  refine mx_p_ic ?_
  refine mx_p_ic ?_
  obtain ⟨h117, hh117, hq⟩ := mx_bS hq
  refine mx_e_as hh117 ?_
  refine mx_p_ic ?_
  refine mx_p_is (loc' := [some (.ref a0), some (.int a1), some (.int a2), some (.int a3), some (.int x112.1), some (.int x114), some (.int 0), none, none, none]) rfl ?_
  refine mx_p_np ?_
  refine mx_Ev.weak (mx_le.same _ (mx_le.same _ (mx_le.same _ (mx_le.same _ (mx_le.same _ (mx_le.same _ (mx_le.same _ (mx_le.same _ (mx_le.same _ (mx_le.same _ (mx_le.nil))))))))))) (e_f_X12_isLure_L24 _ _ _ _ _ _ _ ?_ _ _ _ _ hq)
  · intro c118 c119 res hq
    try dsimp only at hq
    refine mx_p_ic ?_
    refine mx_p_is (loc' := [some (.ref a0), none, some (.int a2), some (.int a3), some (.int x112.1), none, some (.int 1), none, none, none]) rfl ?_
    refine mx_p_np ?_
    refine mx_Ev.weak (mx_le.same _ (mx_le.same _ (mx_le.same _ (mx_le.same _ (mx_le.same _ (mx_le.same _ (mx_le.same _ (mx_le.same _ (mx_le.same _ (mx_le.same _ (mx_le.nil))))))))))) (e_f_X12_isLure_L118 _ _ _ _ _ ?_ _ _ _ _ hq)
    · intro c120 c121 res hq
      try dsimp only at hq
      refine mx_p_aln rfl ?_
      obtain ⟨x122, hx122, hq⟩ := mx_bS hq
      refine mx_e_gr hx122 rfl ?_
      refine mx_p_iln rfl ?_
      refine mx_p_ic ?_
      refine mx_p_isub ?_
      obtain ⟨x123, hx123, hq⟩ := mx_bS hq
      refine mx_e_al hx123 ?_
      refine mx_p_iln rfl ?_
      obtain ⟨x124, hx124, hq⟩ := mx_bS hq
      refine mx_e_cs mx_t_X12_has rfl rfl rfl ⟨Nat.le_of_ble_eq_true rfl, Nat.le_of_ble_eq_true rfl, Nat.le_of_ble_eq_true rfl⟩ (Nat.le_of_ble_eq_true rfl) rfl rfl ⟨Nat.zero_le _, Nat.zero_le _⟩ (t_X12_has hx124) ?_
      refine mx_p_is (loc' := [some (.ref a0), none, some (.int a2), some (.int a3), none, none, some (.int x124), none, none, none]) rfl ?_
      refine mx_p_aln rfl ?_
      obtain ⟨x125, hx125, hq⟩ := mx_bS hq
      refine mx_e_gr hx125 rfl ?_
      refine mx_p_ic ?_
      refine mx_p_iln rfl ?_
      obtain ⟨h126, hh126, hq⟩ := mx_bS hq
      refine mx_e_as hh126 ?_
      refine mx_p_ic ?_
      refine mx_p_is (loc' := [some (.ref a0), none, some (.int a2), some (.int a3), none, none, some (.int x124), some (.int 1), none, none]) rfl ?_
      refine mx_p_np ?_
      refine mx_Ev.weak (mx_le.same _ (mx_le.same _ (mx_le.drop _ (mx_le.same _ (mx_le.same _ (mx_le.same _ (mx_le.same _ (mx_le.same _ (mx_le.same _ (mx_le.same _ (mx_le.nil))))))))))) (e_f_X12_isLure_L233 _ _ _  _ _ _ _ hq)
set_option maxRecDepth 20000 in
set_option maxHeartbeats 1000000 in
theorem e_f_X12_lure_L31 (l0 : Nat) (l1 : Int32) (l2 : Int32) (l3 : Int32) (k85 : Int32 × mx_Hp → Option (Int32 × mx_Hp)) (k62 : Int32 × mx_Hp → Option (Int32 × mx_Hp)) (Hk85 : ∀ (s4 : Int32) (hh : mx_Hp) res, k85 (s4, hh) = some res → mx_Ev mx_k_X12_lure mx_noS (mx_b_X12_lure 85, [some (.ref l0), some (.int l1), some (.int l2), some (.int l3), none], [], hh, 0, 0) (some (.int res.1), res.2)) (Hk62 : ∀ (s4 : Int32) (hh : mx_Hp) res, k62 (s4, hh) = some res → mx_Ev mx_k_X12_lure mx_noS (mx_b_X12_lure 62, [some (.ref l0), none, some (.int l2), some (.int l3), none], [], hh, 0, 0) (some (.int res.1), res.2)) : ∀ (n : Nat) (s4 : Int32) (hh : mx_Hp) res, mx_fix (f_X12_lure_L31 l0 l1 l2 l3 k85 k62) n (s4, hh) = some res → mx_Ev mx_k_X12_lure mx_noS (mx_b_X12_lure 31, [some (.ref l0), some (.int l1), some (.int l2), some (.int l3), some (.int s4)], [], hh, 0, 0) (some (.int res.1), res.2) := by
  intro n
  induction n with
  | zero => intro s4 hh res hq; cases hq
  | succ n ih =>
    intro s4 hh res hq
    unfold mx_fix at hq
    generalize mx_fix (f_X12_lure_L31 l0 l1 l2 l3 k85 k62) n = S at hq ih
    unfold f_X12_lure_L31 at hq
    try dsimp only at hq
    refine mx_p_il rfl ?_
    refine mx_p_aln rfl ?_
    obtain ⟨x14, hx14, hq⟩ := mx_bS hq
    refine mx_e_gr hx14 rfl ?_
    refine mx_p_ic ?_
    obtain ⟨x15, hx15, hq⟩ := mx_bS hq
    refine mx_e_al hx15 ?_
    by_cases hc16 : x15 ≤ s4
    · rw [if_pos hc16] at hq
      refine mx_e_it (decide_eq_true hc16) ?_
      have HB := Hk85 s4 hh _ hq
      exact mx_Ev.weak (mx_le.same _ (mx_le.same _ (mx_le.same _ (mx_le.same _ (mx_le.drop _ (mx_le.nil)))))) HB
    · rw [if_neg hc16] at hq
      refine mx_e_if (fun z => hc16 (of_decide_eq_true z)) ?_
      refine mx_p_aln rfl ?_
      refine mx_p_iln rfl ?_
      refine mx_p_il rfl ?_
      refine mx_p_iln rfl ?_
      have ho18 : l0 < hh.1 ∧ (mx_lay l0).1 = 15 := by
        by_cases hh : l0 < hh.1 ∧ (mx_lay l0).1 = 15
        · exact hh
        · rw [if_neg hh] at hq; cases hq
      rw [if_pos ho18] at hq
      obtain ⟨x17, hx17, hq⟩ := mx_bS hq
      refine mx_e_cv mx_t_X12_isLure ho18 rfl rfl rfl ⟨Nat.le_of_ble_eq_true rfl, Nat.le_of_ble_eq_true rfl, Nat.le_of_ble_eq_true rfl⟩ (Nat.le_of_ble_eq_true rfl) rfl rfl rfl ⟨Nat.zero_le _, Nat.zero_le _⟩ (t_X12_isLure hx17) ?_
      by_cases hc19 : x17.1 = 0
      · rw [if_pos hc19] at hq
        refine mx_e_zt (decide_eq_true hc19) ?_
        refine mx_p_inc (loc' := [some (.ref l0), some (.int l1), some (.int l2), some (.int l3), some (.int (s4 + 1))]) rfl rfl ?_
        refine mx_p_gt ?_
        have HB := ih (s4 + 1) x17.2 _ hq
        exact mx_Ev.weak (mx_le.same _ (mx_le.same _ (mx_le.same _ (mx_le.same _ (mx_le.same _ (mx_le.nil)))))) HB
      · rw [if_neg hc19] at hq
        refine mx_e_zf (fun z => hc19 (of_decide_eq_true z)) ?_
        refine mx_p_iln rfl ?_
        refine mx_p_ic ?_
        by_cases hc20 : ¬ l2 = (-1)
        · rw [if_pos hc20] at hq
          refine mx_e_it (decide_eq_true hc20) ?_
          have HB := Hk62 s4 x17.2 _ hq
          exact mx_Ev.weak (mx_le.same _ (mx_le.drop _ (mx_le.same _ (mx_le.same _ (mx_le.drop _ (mx_le.nil)))))) HB
        · rw [if_neg hc20] at hq
          refine mx_e_if (fun z => hc20 (of_decide_eq_true z)) ?_
          refine mx_p_iln rfl ?_
          refine mx_p_gt ?_
          cases hq; exact mx_e_ri rfl
set_option maxRecDepth 20000 in
set_option maxHeartbeats 1000000 in
theorem e_f_X12_lure_L22 (l0 : Nat) (l1 : Int32) (l2 : Int32) (k62 : Int32 × mx_Hp → Option (Int32 × mx_Hp)) (Hk62 : ∀ (s3 : Int32) (hh : mx_Hp) res, k62 (s3, hh) = some res → mx_Ev mx_k_X12_lure mx_noS (mx_b_X12_lure 62, [some (.ref l0), none, some (.int l2), some (.int s3), none], [], hh, 0, 0) (some (.int res.1), res.2)) : ∀ (n : Nat) (s3 : Int32) (hh : mx_Hp) res, mx_fix (f_X12_lure_L22 l0 l1 l2 k62) n (s3, hh) = some res → mx_Ev mx_k_X12_lure mx_noS (mx_b_X12_lure 22, [some (.ref l0), some (.int l1), some (.int l2), some (.int s3), none], [], hh, 0, 0) (some (.int res.1), res.2) := by
  intro n
  induction n with
  | zero => intro s3 hh res hq; cases hq
  | succ n ih =>
    intro s3 hh res hq
    unfold mx_fix at hq
    generalize mx_fix (f_X12_lure_L22 l0 l1 l2 k62) n = S at hq ih
    unfold f_X12_lure_L22 at hq
    try dsimp only at hq
    refine mx_p_iln rfl ?_
    refine mx_p_bp ?_
    by_cases hc23 : 10 < s3
    · rw [if_pos hc23] at hq
      refine mx_e_it (decide_eq_true hc23) ?_
      refine mx_p_bp ?_
      cases hq; exact mx_e_ri rfl
    · rw [if_neg hc23] at hq
      refine mx_e_if (fun z => hc23 (of_decide_eq_true z)) ?_
      refine mx_p_ic ?_
      refine mx_p_is (loc' := [some (.ref l0), some (.int l1), some (.int l2), some (.int s3), some (.int 0)]) rfl ?_
      refine mx_p_np ?_
      refine mx_Ev.weak (mx_le.same _ (mx_le.same _ (mx_le.same _ (mx_le.same _ (mx_le.same _ (mx_le.nil)))))) (e_f_X12_lure_L31 _ _ _ _ _ _ ?_ ?_ _ _ _ _ hq)
      · intro c24 c25 res hq
        try dsimp only at hq
        refine mx_p_inc (loc' := [some (.ref l0), some (.int l1), some (.int l2), some (.int (s3 + 1)), none]) rfl rfl ?_
        refine mx_p_gt ?_
        have HB := ih (s3 + 1) c25 _ hq
        exact mx_Ev.weak (mx_le.same _ (mx_le.same _ (mx_le.same _ (mx_le.same _ (mx_le.same _ (mx_le.nil)))))) HB
      · intro c26 c27 res hq
        try dsimp only at hq
        have HB := Hk62 s3 c27 _ hq
        exact mx_Ev.weak (mx_le.same _ (mx_le.same _ (mx_le.same _ (mx_le.same _ (mx_le.same _ (mx_le.nil)))))) HB
set_option maxRecDepth 20000 in
set_option maxHeartbeats 1000000 in
theorem t_X12_lure {a0 : Nat} {a1 : Int32} {a2 : Int32} {h : mx_Hp} {res} (hq : f_X12_lure a0 a1 a2 h = some res) : mx_Ms mx_k_X12_lure [.ref a0, .int a1, .int a2] h (some (.int res.1), res.2) := by
  unfold f_X12_lure at hq
  show mx_Ev mx_k_X12_lure mx_noS (mx_b_X12_lure 0, [some (.ref a0), some (.int a1), some (.int a2), none, none], [], h, 0, 0) _
  refine mx_p_aln rfl ?_
  refine mx_p_iln rfl ?_
  have ho34 : a0 < h.1 ∧ (mx_lay a0).1 = 15 := by
    by_cases hh : a0 < h.1 ∧ (mx_lay a0).1 = 15
    · exact hh
    · rw [if_neg hh] at hq; cases hq
  rw [if_pos ho34] at hq
  obtain ⟨x33, hx33, hq⟩ := mx_bS hq
  refine mx_e_cv mx_t_X12_isWord ho34 rfl rfl rfl ⟨Nat.le_of_ble_eq_true rfl, Nat.le_of_ble_eq_true rfl, Nat.le_of_ble_eq_true rfl⟩ (Nat.le_of_ble_eq_true rfl) rfl rfl rfl ⟨Nat.zero_le _, Nat.zero_le _⟩ (t_X12_isWord hx33) ?_
  by_cases hc35 : x33 = 0
  · rw [if_pos hc35] at hq
    refine mx_e_zt (decide_eq_true hc35) ?_
    refine mx_p_ic ?_
    cases hq; exact mx_e_ri rfl
  · rw [if_neg hc35] at hq
    refine mx_e_zf (fun z => hc35 (of_decide_eq_true z)) ?_
    refine mx_p_iln rfl ?_
    refine mx_p_ic ?_
    refine mx_p_bp ?_
    obtain ⟨x36, hx36, hq⟩ := mx_bS hq
    refine mx_e_cs mx_t_X12_in rfl rfl rfl ⟨Nat.le_of_ble_eq_true rfl, Nat.le_of_ble_eq_true rfl, Nat.le_of_ble_eq_true rfl⟩ (Nat.le_of_ble_eq_true rfl) rfl rfl ⟨Nat.zero_le _, Nat.zero_le _⟩ (t_X12_in hx36) ?_
    by_cases hc37 : ¬ x36 = 0
    · rw [if_pos hc37] at hq
      refine mx_e_zt (decide_eq_true hc37) ?_
      refine mx_p_ic ?_
      refine mx_p_isn (loc' := [some (.ref a0), some (.int a1), some (.int a2), some (.int 1), none]) rfl ?_
      refine mx_p_np ?_
      refine mx_Ev.weak (mx_le.same _ (mx_le.same _ (mx_le.same _ (mx_le.same _ (mx_le.same _ (mx_le.nil)))))) (e_f_X12_lure_L22 _ _ _ _ ?_ _ _ _ _ hq)
      · intro c38 c39 res hq
        try dsimp only at hq
        refine mx_p_iln rfl ?_
        refine mx_p_iln rfl ?_
        obtain ⟨v43, hE, hK⟩ := mx_bS hq
        have HJ : mx_Ev mx_k_X12_lure mx_noS (mx_b_X12_lure 78, [none, none, none, none, none], [.int v43], c39, 0, 0) (some (.int res.1), res.2) := by
          replace hq := hK
          cases hq; exact mx_e_ri rfl
        clear hK
        replace hq := hE
        by_cases hc40 : c38 ≤ a2
        · rw [if_pos hc40] at hq
          refine mx_e_it (decide_eq_true hc40) ?_
          refine mx_p_bp ?_
          refine mx_p_np ?_
          cases hq; exact mx_Ev.weak (mx_le.drop _ (mx_le.same _ (mx_le.drop _ (mx_le.drop _ (mx_le.same _ (mx_le.nil)))))) HJ
        · rw [if_neg hc40] at hq
          refine mx_e_if (fun z => hc40 (of_decide_eq_true z)) ?_
          refine mx_p_aln rfl ?_
          obtain ⟨x41, hx41, hq⟩ := mx_bS hq
          refine mx_e_gr hx41 rfl ?_
          refine mx_p_iln rfl ?_
          obtain ⟨x42, hx42, hq⟩ := mx_bS hq
          refine mx_e_al hx42 ?_
          refine mx_p_gt ?_
          cases hq; exact mx_Ev.weak (mx_le.drop _ (mx_le.same _ (mx_le.drop _ (mx_le.drop _ (mx_le.same _ (mx_le.nil)))))) HJ
    · rw [if_neg hc37] at hq
      refine mx_e_zf (fun z => hc37 (of_decide_eq_true z)) ?_
      refine mx_p_np ?_
      refine mx_p_ic ?_
      cases hq; exact mx_e_ri rfl
set_option maxRecDepth 20000 in
set_option maxHeartbeats 1000000 in
theorem e_f_X12_sitting_L33 (l0 : Nat) (l1 : Int32) (l2 : Int32) (l3 : Int32) (l4 : Int32) (h : mx_Hp) (k114 : Int32 × Int32 × Int32 → Option (Int32)) (Hk114 : ∀ (s5 : Int32) (s6 : Int32) (s7 : Int32) res, k114 (s5, s6, s7) = some res → mx_Ev mx_k_X12_sitting mx_noS (mx_b_X12_sitting 114, [some (.ref l0), some (.int l1), none, none, some (.int l4), some (.int s5), some (.int s6), none, none], [], h, 0, 0) (some (.int res), h)) : ∀ (n : Nat) (s5 : Int32) (s6 : Int32) (s7 : Int32) res, mx_fix (f_X12_sitting_L33 l0 l1 l2 l3 l4 h k114) n (s5, s6, s7) = some res → mx_Ev mx_k_X12_sitting mx_noS (mx_b_X12_sitting 33, [some (.ref l0), some (.int l1), some (.int l2), some (.int l3), some (.int l4), some (.int s5), some (.int s6), some (.int s7), none], [], h, 0, 0) (some (.int res), h) := by
  intro n
  induction n with
  | zero => intro s5 s6 s7 res hq; cases hq
  | succ n ih =>
    intro s5 s6 s7 res hq
    unfold mx_fix at hq
    generalize mx_fix (f_X12_sitting_L33 l0 l1 l2 l3 l4 h k114) n = S at hq ih
    unfold f_X12_sitting_L33 at hq
    try dsimp only at hq
    refine mx_p_il rfl ?_
    refine mx_p_aln rfl ?_
    obtain ⟨x18, hx18, hq⟩ := mx_bS hq
    refine mx_e_gr hx18 rfl ?_
    refine mx_p_ic ?_
    obtain ⟨x19, hx19, hq⟩ := mx_bS hq
    refine mx_e_al hx19 ?_
    by_cases hc20 : x19 ≤ s7
    · rw [if_pos hc20] at hq
      refine mx_e_it (decide_eq_true hc20) ?_
      have HB := Hk114 s5 s6 s7 _ hq
      exact mx_Ev.weak (mx_le.same _ (mx_le.same _ (mx_le.drop _ (mx_le.drop _ (mx_le.same _ (mx_le.same _ (mx_le.same _ (mx_le.drop _ (mx_le.same _ (mx_le.nil)))))))))) HB
    · rw [if_neg hc20] at hq
      refine mx_e_if (fun z => hc20 (of_decide_eq_true z)) ?_
      refine mx_p_aln rfl ?_
      obtain ⟨x21, hx21, hq⟩ := mx_bS hq
      refine mx_e_gr hx21 rfl ?_
      refine mx_p_bp ?_
      refine mx_p_il rfl ?_
      refine mx_p_iadd ?_
      obtain ⟨x22, hx22, hq⟩ := mx_bS hq
      refine mx_e_al hx22 ?_
      refine mx_p_is (loc' := [some (.ref l0), some (.int l1), some (.int l2), some (.int l3), some (.int l4), some (.int s5), some (.int s6), some (.int s7), some (.int x22)]) rfl ?_
      refine mx_p_il rfl ?_
      refine mx_p_il rfl ?_
      refine mx_p_aln rfl ?_
      have ho24 : l0 < h.1 ∧ (mx_lay l0).1 = 15 := by
        by_cases hh : l0 < h.1 ∧ (mx_lay l0).1 = 15
        · exact hh
        · rw [if_neg hh] at hq; cases hq
      rw [if_pos ho24] at hq
      obtain ⟨x23, hx23, hq⟩ := mx_bS hq
      refine mx_e_cv mx_t_X12_stops ho24 rfl rfl rfl ⟨Nat.le_of_ble_eq_true rfl, Nat.le_of_ble_eq_true rfl, Nat.le_of_ble_eq_true rfl⟩ (Nat.le_of_ble_eq_true rfl) rfl rfl rfl ⟨Nat.zero_le _, Nat.zero_le _⟩ (t_X12_stops hx23) ?_
      refine mx_p_iln rfl ?_
      refine mx_p_ior ?_
      refine mx_p_iand ?_
      obtain ⟨v26, hE, hK⟩ := mx_bS hq
      have HJ : mx_Ev mx_k_X12_sitting mx_noS (mx_b_X12_sitting 78, [some (.ref l0), some (.int l1), some (.int l2), some (.int l3), some (.int l4), none, some (.int s6), some (.int s7), some (.int x22)], [.int v26, .int s5], h, 0, 0) (some (.int res), h) := by
        replace hq := hK
        refine mx_p_ior ?_
        refine mx_p_is (loc' := [some (.ref l0), some (.int l1), some (.int l2), some (.int l3), some (.int l4), some (.int (s5 ||| v26)), some (.int s6), some (.int s7), some (.int x22)]) rfl ?_
        refine mx_p_il rfl ?_
        refine mx_p_il rfl ?_
        refine mx_p_aln rfl ?_
        have ho28 : l0 < h.1 ∧ (mx_lay l0).1 = 15 := by
          by_cases hh : l0 < h.1 ∧ (mx_lay l0).1 = 15
          · exact hh
          · rw [if_neg hh] at hq; cases hq
        rw [if_pos ho28] at hq
        obtain ⟨x27, hx27, hq⟩ := mx_bS hq
        refine mx_e_cv mx_t_X12_stops ho28 rfl rfl rfl ⟨Nat.le_of_ble_eq_true rfl, Nat.le_of_ble_eq_true rfl, Nat.le_of_ble_eq_true rfl⟩ (Nat.le_of_ble_eq_true rfl) rfl rfl rfl ⟨Nat.zero_le _, Nat.zero_le _⟩ (t_X12_stops hx27) ?_
        refine mx_p_iln rfl ?_
        refine mx_p_ic ?_
        refine mx_p_ixor ?_
        refine mx_p_ior ?_
        refine mx_p_iand ?_
        obtain ⟨v30, hE, hK⟩ := mx_bS hq
        have HJ : mx_Ev mx_k_X12_sitting mx_noS (mx_b_X12_sitting 105, [some (.ref l0), some (.int l1), some (.int l2), some (.int l3), some (.int l4), some (.int (s5 ||| v26)), none, some (.int s7), none], [.int v30, .int s6], h, 0, 0) (some (.int res), h) := by
          replace hq := hK
          refine mx_p_ior ?_
          refine mx_p_is (loc' := [some (.ref l0), some (.int l1), some (.int l2), some (.int l3), some (.int l4), some (.int (s5 ||| v26)), some (.int (s6 ||| v30)), some (.int s7), none]) rfl ?_
          refine mx_p_inc (loc' := [some (.ref l0), some (.int l1), some (.int l2), some (.int l3), some (.int l4), some (.int (s5 ||| v26)), some (.int (s6 ||| v30)), some (.int (s7 + 1)), none]) rfl rfl ?_
          refine mx_p_gt ?_
          have HB := ih (s5 ||| v26) (s6 ||| v30) (s7 + 1) _ hq
          exact mx_Ev.weak (mx_le.same _ (mx_le.same _ (mx_le.same _ (mx_le.same _ (mx_le.same _ (mx_le.same _ (mx_le.same _ (mx_le.same _ (mx_le.same _ (mx_le.nil)))))))))) HB
        clear hK
        replace hq := hE
        by_cases hc29 : ¬ (x22 &&& (x27 ||| (l2 ^^^ (-1)))) = 0
        · rw [if_pos hc29] at hq
          refine mx_e_zt (decide_eq_true hc29) ?_
          refine mx_p_ic ?_
          refine mx_p_np ?_
          cases hq; exact mx_Ev.weak (mx_le.same _ (mx_le.same _ (mx_le.same _ (mx_le.same _ (mx_le.same _ (mx_le.same _ (mx_le.drop _ (mx_le.same _ (mx_le.drop _ (mx_le.nil)))))))))) HJ
        · rw [if_neg hc29] at hq
          refine mx_e_zf (fun z => hc29 (of_decide_eq_true z)) ?_
          refine mx_p_ic ?_
          refine mx_p_il rfl ?_
          refine mx_p_ishl ?_
          refine mx_p_gt ?_
          cases hq; exact mx_Ev.weak (mx_le.same _ (mx_le.same _ (mx_le.same _ (mx_le.same _ (mx_le.same _ (mx_le.same _ (mx_le.drop _ (mx_le.same _ (mx_le.drop _ (mx_le.nil)))))))))) HJ
      clear hK
      replace hq := hE
      by_cases hc25 : (x22 &&& (x23 ||| l3)) = 0
      · rw [if_pos hc25] at hq
        refine mx_e_zt (decide_eq_true hc25) ?_
        refine mx_p_ic ?_
        refine mx_p_np ?_
        cases hq; exact mx_Ev.weak (mx_le.same _ (mx_le.same _ (mx_le.same _ (mx_le.same _ (mx_le.same _ (mx_le.drop _ (mx_le.same _ (mx_le.same _ (mx_le.same _ (mx_le.nil)))))))))) HJ
      · rw [if_neg hc25] at hq
        refine mx_e_zf (fun z => hc25 (of_decide_eq_true z)) ?_
        refine mx_p_ic ?_
        refine mx_p_il rfl ?_
        refine mx_p_ishl ?_
        refine mx_p_gt ?_
        cases hq; exact mx_Ev.weak (mx_le.same _ (mx_le.same _ (mx_le.same _ (mx_le.same _ (mx_le.same _ (mx_le.drop _ (mx_le.same _ (mx_le.same _ (mx_le.same _ (mx_le.nil)))))))))) HJ
set_option maxRecDepth 20000 in
set_option maxHeartbeats 1000000 in
theorem e_f_X12_sitting_L17 (l0 : Nat) (l1 : Int32) (h : mx_Hp) (k126 : Int32 × Int32 × Int32 → Option (Int32)) (Hk126 : ∀ (s2 : Int32) (s3 : Int32) (s4 : Int32) res, k126 (s2, s3, s4) = some res → mx_Ev mx_k_X12_sitting mx_noS (mx_b_X12_sitting 126, [none, some (.int l1), some (.int s2), some (.int s3), none, none, none, none, none], [], h, 0, 0) (some (.int res), h)) : ∀ (n : Nat) (s2 : Int32) (s3 : Int32) (s4 : Int32) res, mx_fix (f_X12_sitting_L17 l0 l1 h k126) n (s2, s3, s4) = some res → mx_Ev mx_k_X12_sitting mx_noS (mx_b_X12_sitting 17, [some (.ref l0), some (.int l1), some (.int s2), some (.int s3), some (.int s4), none, none, none, none], [], h, 0, 0) (some (.int res), h) := by
  intro n
  induction n with
  | zero => intro s2 s3 s4 res hq; cases hq
  | succ n ih =>
    intro s2 s3 s4 res hq
    unfold mx_fix at hq
    generalize mx_fix (f_X12_sitting_L17 l0 l1 h k126) n = S at hq ih
    unfold f_X12_sitting_L17 at hq
    try dsimp only at hq
    refine mx_p_il rfl ?_
    refine mx_p_bp ?_
    by_cases hc32 : 20 ≤ s4
    · rw [if_pos hc32] at hq
      refine mx_e_it (decide_eq_true hc32) ?_
      have HB := Hk126 s2 s3 s4 _ hq
      exact mx_Ev.weak (mx_le.drop _ (mx_le.same _ (mx_le.same _ (mx_le.same _ (mx_le.drop _ (mx_le.same _ (mx_le.same _ (mx_le.same _ (mx_le.same _ (mx_le.nil)))))))))) HB
    · rw [if_neg hc32] at hq
      refine mx_e_if (fun z => hc32 (of_decide_eq_true z)) ?_
      refine mx_p_iln rfl ?_
      refine mx_p_is (loc' := [some (.ref l0), some (.int l1), some (.int s2), some (.int s3), some (.int s4), some (.int s2), none, none, none]) rfl ?_
      refine mx_p_iln rfl ?_
      refine mx_p_is (loc' := [some (.ref l0), some (.int l1), some (.int s2), some (.int s3), some (.int s4), some (.int s2), some (.int s3), none, none]) rfl ?_
      refine mx_p_ic ?_
      refine mx_p_is (loc' := [some (.ref l0), some (.int l1), some (.int s2), some (.int s3), some (.int s4), some (.int s2), some (.int s3), some (.int 0), none]) rfl ?_
      refine mx_p_np ?_
      refine mx_Ev.weak (mx_le.same _ (mx_le.same _ (mx_le.same _ (mx_le.same _ (mx_le.same _ (mx_le.same _ (mx_le.same _ (mx_le.same _ (mx_le.same _ (mx_le.nil)))))))))) (e_f_X12_sitting_L33 _ _ _ _ _ _ _ ?_ _ _ _ _ _ hq)
      · intro c33 c34 c35 res hq
        try dsimp only at hq
        refine mx_p_il rfl ?_
        refine mx_p_isn (loc' := [some (.ref l0), some (.int l1), some (.int c33), none, some (.int s4), some (.int c33), some (.int c34), none, none]) rfl ?_
        refine mx_p_il rfl ?_
        refine mx_p_isn (loc' := [some (.ref l0), some (.int l1), some (.int c33), some (.int c34), some (.int s4), some (.int c33), some (.int c34), none, none]) rfl ?_
        refine mx_p_inc (loc' := [some (.ref l0), some (.int l1), some (.int c33), some (.int c34), some (.int (s4 + 1)), some (.int c33), some (.int c34), none, none]) rfl rfl ?_
        refine mx_p_gt ?_
        have HB := ih c33 c34 (s4 + 1) _ hq
        exact mx_Ev.weak (mx_le.same _ (mx_le.same _ (mx_le.same _ (mx_le.same _ (mx_le.same _ (mx_le.drop _ (mx_le.drop _ (mx_le.same _ (mx_le.same _ (mx_le.nil)))))))))) HB
set_option maxRecDepth 20000 in
set_option maxHeartbeats 1000000 in
theorem t_X12_sitting {a0 : Nat} {a1 : Int32} {h : mx_Hp} {res} (hq : f_X12_sitting a0 a1 h = some res) : mx_Ms mx_k_X12_sitting [.ref a0, .int a1] h (some (.int res), h) := by
  unfold f_X12_sitting at hq
  show mx_Ev mx_k_X12_sitting mx_noS (mx_b_X12_sitting 0, [some (.ref a0), some (.int a1), none, none, none, none, none, none, none], [], h, 0, 0) _
  refine mx_p_aln rfl ?_
  refine mx_p_iln rfl ?_
  have ho43 : a0 < h.1 ∧ (mx_lay a0).1 = 15 := by
    by_cases hh : a0 < h.1 ∧ (mx_lay a0).1 = 15
    · exact hh
    · rw [if_neg hh] at hq; cases hq
  rw [if_pos ho43] at hq
  obtain ⟨x42, hx42, hq⟩ := mx_bS hq
  refine mx_e_cv mx_t_X12_isWord ho43 rfl rfl rfl ⟨Nat.le_of_ble_eq_true rfl, Nat.le_of_ble_eq_true rfl, Nat.le_of_ble_eq_true rfl⟩ (Nat.le_of_ble_eq_true rfl) rfl rfl rfl ⟨Nat.zero_le _, Nat.zero_le _⟩ (t_X12_isWord hx42) ?_
  by_cases hc44 : ¬ x42 = 0
  · rw [if_pos hc44] at hq
    refine mx_e_zt (decide_eq_true hc44) ?_
    refine mx_p_ic ?_
    refine mx_p_isn (loc' := [some (.ref a0), some (.int a1), some (.int 0), none, none, none, none, none, none]) rfl ?_
    refine mx_p_ic ?_
    refine mx_p_isn (loc' := [some (.ref a0), some (.int a1), some (.int 0), some (.int 0), none, none, none, none, none]) rfl ?_
    refine mx_p_ic ?_
    refine mx_p_is (loc' := [some (.ref a0), some (.int a1), some (.int 0), some (.int 0), some (.int 0), none, none, none, none]) rfl ?_
    refine mx_p_np ?_
    refine mx_Ev.weak (mx_le.same _ (mx_le.same _ (mx_le.same _ (mx_le.same _ (mx_le.same _ (mx_le.same _ (mx_le.same _ (mx_le.same _ (mx_le.same _ (mx_le.nil)))))))))) (e_f_X12_sitting_L17 _ _ _ _ ?_ _ _ _ _ _ hq)
    · intro c45 c46 c47 res hq
      try dsimp only at hq
      refine mx_p_iln rfl ?_
      refine mx_p_iln rfl ?_
      obtain ⟨x48, hx48, hq⟩ := mx_bS hq
      refine mx_e_cs mx_t_X12_has rfl rfl rfl ⟨Nat.le_of_ble_eq_true rfl, Nat.le_of_ble_eq_true rfl, Nat.le_of_ble_eq_true rfl⟩ (Nat.le_of_ble_eq_true rfl) rfl rfl ⟨Nat.zero_le _, Nat.zero_le _⟩ (t_X12_has hx48) ?_
      obtain ⟨v52, hE, hK⟩ := mx_bS hq
      have HJ : mx_Ev mx_k_X12_sitting mx_noS (mx_b_X12_sitting 151, [none, none, none, none, none, none, none, none, none], [.int v52], h, 0, 0) (some (.int res), h) := by
        replace hq := hK
        cases hq; exact mx_e_ri rfl
      clear hK
      replace hq := hE
      by_cases hc49 : x48 = 0
      · rw [if_pos hc49] at hq
        refine mx_e_zt (decide_eq_true hc49) ?_
        refine mx_p_iln rfl ?_
        refine mx_p_iln rfl ?_
        obtain ⟨x50, hx50, hq⟩ := mx_bS hq
        refine mx_e_cs mx_t_X12_has rfl rfl rfl ⟨Nat.le_of_ble_eq_true rfl, Nat.le_of_ble_eq_true rfl, Nat.le_of_ble_eq_true rfl⟩ (Nat.le_of_ble_eq_true rfl) rfl rfl ⟨Nat.zero_le _, Nat.zero_le _⟩ (t_X12_has hx50) ?_
        by_cases hc51 : x50 = 0
        · rw [if_pos hc51] at hq
          refine mx_e_zt (decide_eq_true hc51) ?_
          refine mx_p_ic ?_
          refine mx_p_np ?_
          cases hq; exact mx_Ev.weak (mx_le.same _ (mx_le.drop _ (mx_le.drop _ (mx_le.drop _ (mx_le.same _ (mx_le.same _ (mx_le.same _ (mx_le.same _ (mx_le.same _ (mx_le.nil)))))))))) HJ
        · rw [if_neg hc51] at hq
          refine mx_e_zf (fun z => hc51 (of_decide_eq_true z)) ?_
          refine mx_p_ic ?_
          refine mx_p_gt ?_
          cases hq; exact mx_Ev.weak (mx_le.same _ (mx_le.drop _ (mx_le.drop _ (mx_le.drop _ (mx_le.same _ (mx_le.same _ (mx_le.same _ (mx_le.same _ (mx_le.same _ (mx_le.nil)))))))))) HJ
      · rw [if_neg hc49] at hq
        refine mx_e_zf (fun z => hc49 (of_decide_eq_true z)) ?_
        refine mx_p_ic ?_
        refine mx_p_gt ?_
        cases hq; exact mx_Ev.weak (mx_le.same _ (mx_le.drop _ (mx_le.drop _ (mx_le.drop _ (mx_le.same _ (mx_le.same _ (mx_le.same _ (mx_le.same _ (mx_le.same _ (mx_le.nil)))))))))) HJ
  · rw [if_neg hc44] at hq
    refine mx_e_zf (fun z => hc44 (of_decide_eq_true z)) ?_
    refine mx_p_ic ?_
    cases hq; exact mx_e_ri rfl
set_option maxRecDepth 20000 in
set_option maxHeartbeats 1000000 in
theorem e_f_X12_ways_L56 (l0 : Nat) (l1 : Int32) (l2 : Int32) (l3 : Int32) (l4 : Int32) (l5 : Int32) (k92 : Int32 × mx_Hp → Option (Int32 × mx_Hp)) (Hk92 : ∀ (s6 : Int32) (hh : mx_Hp) res, k92 (s6, hh) = some res → mx_Ev mx_k_X12_ways mx_noS (mx_b_X12_ways 92, [some (.ref l0), some (.int l1), some (.int l2), some (.int l3), some (.int l4), some (.int l5), none, none, none], [], hh, 0, 0) (some (.int res.1), res.2)) : ∀ (n : Nat) (s6 : Int32) (hh : mx_Hp) res, mx_fix (f_X12_ways_L56 l0 l1 l2 l3 l4 l5 k92) n (s6, hh) = some res → mx_Ev mx_k_X12_ways mx_noS (mx_b_X12_ways 56, [some (.ref l0), some (.int l1), some (.int l2), some (.int l3), some (.int l4), some (.int l5), some (.int s6), none, none], [], hh, 0, 0) (some (.int res.1), res.2) := by
  intro n
  induction n with
  | zero => intro s6 hh res hq; cases hq
  | succ n ih =>
    intro s6 hh res hq
    unfold mx_fix at hq
    generalize mx_fix (f_X12_ways_L56 l0 l1 l2 l3 l4 l5 k92) n = S at hq ih
    unfold f_X12_ways_L56 at hq
    try dsimp only at hq
    refine mx_p_il rfl ?_
    refine mx_p_aln rfl ?_
    obtain ⟨x19, hx19, hq⟩ := mx_bS hq
    refine mx_e_gr hx19 rfl ?_
    refine mx_p_ic ?_
    obtain ⟨x20, hx20, hq⟩ := mx_bS hq
    refine mx_e_al hx20 ?_
    by_cases hc21 : x20 ≤ s6
    · rw [if_pos hc21] at hq
      refine mx_e_it (decide_eq_true hc21) ?_
      have HB := Hk92 s6 hh _ hq
      exact mx_Ev.weak (mx_le.same _ (mx_le.same _ (mx_le.same _ (mx_le.same _ (mx_le.same _ (mx_le.same _ (mx_le.drop _ (mx_le.same _ (mx_le.same _ (mx_le.nil)))))))))) HB
    · rw [if_neg hc21] at hq
      refine mx_e_if (fun z => hc21 (of_decide_eq_true z)) ?_
      refine mx_p_aln rfl ?_
      obtain ⟨x22, hx22, hq⟩ := mx_bS hq
      refine mx_e_gr hx22 rfl ?_
      refine mx_p_il rfl ?_
      refine mx_p_il rfl ?_
      refine mx_p_il rfl ?_
      obtain ⟨v24, hE, hK⟩ := mx_bS hq
      have HJ : mx_Ev mx_k_X12_ways mx_noS (mx_b_X12_ways 85, [some (.ref l0), some (.int l1), some (.int l2), some (.int l3), some (.int l4), some (.int l5), some (.int s6), none, none], [.int v24, .int s6, .ref x22], hh, 0, 0) (some (.int res.1), res.2) := by
        replace hq := hK
        obtain ⟨h25, hh25, hq⟩ := mx_bS hq
        refine mx_e_as hh25 ?_
        refine mx_p_inc (loc' := [some (.ref l0), some (.int l1), some (.int l2), some (.int l3), some (.int l4), some (.int l5), some (.int (s6 + 1)), none, none]) rfl rfl ?_
        refine mx_p_gt ?_
        have HB := ih (s6 + 1) h25 _ hq
        exact mx_Ev.weak (mx_le.same _ (mx_le.same _ (mx_le.same _ (mx_le.same _ (mx_le.same _ (mx_le.same _ (mx_le.same _ (mx_le.same _ (mx_le.same _ (mx_le.nil)))))))))) HB
      clear hK
      replace hq := hE
      by_cases hc23 : ¬ s6 = l4
      · rw [if_pos hc23] at hq
        refine mx_e_it (decide_eq_true hc23) ?_
        refine mx_p_ic ?_
        refine mx_p_np ?_
        cases hq; exact mx_Ev.weak (mx_le.same _ (mx_le.same _ (mx_le.same _ (mx_le.same _ (mx_le.same _ (mx_le.same _ (mx_le.same _ (mx_le.same _ (mx_le.same _ (mx_le.nil)))))))))) HJ
      · rw [if_neg hc23] at hq
        refine mx_e_if (fun z => hc23 (of_decide_eq_true z)) ?_
        refine mx_p_ic ?_
        refine mx_p_gt ?_
        cases hq; exact mx_Ev.weak (mx_le.same _ (mx_le.same _ (mx_le.same _ (mx_le.same _ (mx_le.same _ (mx_le.same _ (mx_le.same _ (mx_le.same _ (mx_le.same _ (mx_le.nil)))))))))) HJ
set_option maxRecDepth 20000 in
set_option maxHeartbeats 1000000 in
theorem e_f_X12_ways_L126 (l0 : Nat) (l1 : Int32) (l2 : Int32) (l3 : Int32) (l4 : Int32) (l5 : Int32) (l6 : Int32) (l7 : Int32) (k192 : Int32 × mx_Hp → Option (Int32 × mx_Hp)) (Hk192 : ∀ (s8 : Int32) (hh : mx_Hp) res, k192 (s8, hh) = some res → mx_Ev mx_k_X12_ways mx_noS (mx_b_X12_ways 192, [some (.ref l0), some (.int l1), some (.int l2), some (.int l3), some (.int l4), some (.int l5), some (.int l6), some (.int l7), none], [], hh, 0, 0) (some (.int res.1), res.2)) : ∀ (n : Nat) (s8 : Int32) (hh : mx_Hp) res, mx_fix (f_X12_ways_L126 l0 l1 l2 l3 l4 l5 l6 l7 k192) n (s8, hh) = some res → mx_Ev mx_k_X12_ways mx_noS (mx_b_X12_ways 126, [some (.ref l0), some (.int l1), some (.int l2), some (.int l3), some (.int l4), some (.int l5), some (.int l6), some (.int l7), some (.int s8)], [], hh, 0, 0) (some (.int res.1), res.2) := by
  intro n
  induction n with
  | zero => intro s8 hh res hq; cases hq
  | succ n ih =>
    intro s8 hh res hq
    unfold mx_fix at hq
    generalize mx_fix (f_X12_ways_L126 l0 l1 l2 l3 l4 l5 l6 l7 k192) n = S at hq ih
    unfold f_X12_ways_L126 at hq
    try dsimp only at hq
    refine mx_p_il rfl ?_
    refine mx_p_aln rfl ?_
    obtain ⟨x48, hx48, hq⟩ := mx_bS hq
    refine mx_e_gr hx48 rfl ?_
    refine mx_p_ic ?_
    obtain ⟨x49, hx49, hq⟩ := mx_bS hq
    refine mx_e_al hx49 ?_
    by_cases hc50 : x49 ≤ s8
    · rw [if_pos hc50] at hq
      refine mx_e_it (decide_eq_true hc50) ?_
      have HB := Hk192 s8 hh _ hq
      exact mx_Ev.weak (mx_le.same _ (mx_le.same _ (mx_le.same _ (mx_le.same _ (mx_le.same _ (mx_le.same _ (mx_le.same _ (mx_le.same _ (mx_le.drop _ (mx_le.nil)))))))))) HB
    · rw [if_neg hc50] at hq
      refine mx_e_if (fun z => hc50 (of_decide_eq_true z)) ?_
      refine mx_p_aln rfl ?_
      obtain ⟨x51, hx51, hq⟩ := mx_bS hq
      refine mx_e_gr hx51 rfl ?_
      refine mx_p_il rfl ?_
      refine mx_p_dup2 rfl rfl ?_
      obtain ⟨x52, hx52, hq⟩ := mx_bS hq
      refine mx_e_al hx52 ?_
      refine mx_p_aln rfl ?_
      obtain ⟨x53, hx53, hq⟩ := mx_bS hq
      refine mx_e_gr hx53 rfl ?_
      refine mx_p_bp ?_
      refine mx_p_il rfl ?_
      refine mx_p_iadd ?_
      obtain ⟨x54, hx54, hq⟩ := mx_bS hq
      refine mx_e_al hx54 ?_
      refine mx_p_il rfl ?_
      obtain ⟨x55, hx55, hq⟩ := mx_bS hq
      refine mx_e_cs mx_t_X12_has rfl rfl rfl ⟨Nat.le_of_ble_eq_true rfl, Nat.le_of_ble_eq_true rfl, Nat.le_of_ble_eq_true rfl⟩ (Nat.le_of_ble_eq_true rfl) rfl rfl ⟨Nat.zero_le _, Nat.zero_le _⟩ (t_X12_has hx55) ?_
      obtain ⟨v61, hE, hK⟩ := mx_bS hq
      have HJ : mx_Ev mx_k_X12_ways mx_noS (mx_b_X12_ways 184, [some (.ref l0), some (.int l1), some (.int l2), some (.int l3), some (.int l4), some (.int l5), some (.int l6), some (.int l7), some (.int s8)], [.int v61, .int x52, .int l7, .ref x51], hh, 0, 0) (some (.int res.1), res.2) := by
        replace hq := hK
        refine mx_p_iadd ?_
        obtain ⟨h62, hh62, hq⟩ := mx_bS hq
        refine mx_e_as hh62 ?_
        refine mx_p_inc (loc' := [some (.ref l0), some (.int l1), some (.int l2), some (.int l3), some (.int l4), some (.int l5), some (.int l6), some (.int l7), some (.int (s8 + 1))]) rfl rfl ?_
        refine mx_p_gt ?_
        have HB := ih (s8 + 1) h62 _ hq
        exact mx_Ev.weak (mx_le.same _ (mx_le.same _ (mx_le.same _ (mx_le.same _ (mx_le.same _ (mx_le.same _ (mx_le.same _ (mx_le.same _ (mx_le.same _ (mx_le.nil)))))))))) HB
      clear hK
      replace hq := hE
      by_cases hc56 : x55 = 0
      · rw [if_pos hc56] at hq
        refine mx_e_zt (decide_eq_true hc56) ?_
        refine mx_p_ic ?_
        refine mx_p_np ?_
        cases hq; exact mx_Ev.weak (mx_le.same _ (mx_le.same _ (mx_le.same _ (mx_le.same _ (mx_le.same _ (mx_le.same _ (mx_le.same _ (mx_le.same _ (mx_le.same _ (mx_le.nil)))))))))) HJ
      · rw [if_neg hc56] at hq
        refine mx_e_zf (fun z => hc56 (of_decide_eq_true z)) ?_
        refine mx_p_il rfl ?_
        refine mx_p_il rfl ?_
        obtain ⟨x57, hx57, hq⟩ := mx_bS hq
        refine mx_e_cs mx_t_X12_has rfl rfl rfl ⟨Nat.le_of_ble_eq_true rfl, Nat.le_of_ble_eq_true rfl, Nat.le_of_ble_eq_true rfl⟩ (Nat.le_of_ble_eq_true rfl) rfl rfl ⟨Nat.zero_le _, Nat.zero_le _⟩ (t_X12_has hx57) ?_
        by_cases hc58 : ¬ x57 = 0
        · rw [if_pos hc58] at hq
          refine mx_e_zt (decide_eq_true hc58) ?_
          refine mx_p_ic ?_
          refine mx_p_np ?_
          cases hq; exact mx_Ev.weak (mx_le.same _ (mx_le.same _ (mx_le.same _ (mx_le.same _ (mx_le.same _ (mx_le.same _ (mx_le.same _ (mx_le.same _ (mx_le.same _ (mx_le.nil)))))))))) HJ
        · rw [if_neg hc58] at hq
          refine mx_e_zf (fun z => hc58 (of_decide_eq_true z)) ?_
          refine mx_p_aln rfl ?_
          obtain ⟨x59, hx59, hq⟩ := mx_bS hq
          refine mx_e_gr hx59 rfl ?_
          refine mx_p_il rfl ?_
          obtain ⟨x60, hx60, hq⟩ := mx_bS hq
          refine mx_e_al hx60 ?_
          refine mx_p_gt ?_
          cases hq; exact mx_Ev.weak (mx_le.same _ (mx_le.same _ (mx_le.same _ (mx_le.same _ (mx_le.same _ (mx_le.same _ (mx_le.same _ (mx_le.same _ (mx_le.same _ (mx_le.nil)))))))))) HJ
set_option maxRecDepth 20000 in
set_option maxHeartbeats 1000000 in
theorem e_f_X12_ways_L104 (l0 : Nat) (l1 : Int32) (l2 : Int32) (l3 : Int32) (l4 : Int32) (l5 : Int32) (l6 : Int32) (k198 : Int32 × mx_Hp → Option (Int32 × mx_Hp)) (Hk198 : ∀ (s7 : Int32) (hh : mx_Hp) res, k198 (s7, hh) = some res → mx_Ev mx_k_X12_ways mx_noS (mx_b_X12_ways 198, [some (.ref l0), some (.int l1), some (.int l2), some (.int l3), some (.int l4), some (.int l5), some (.int l6), none, none], [], hh, 0, 0) (some (.int res.1), res.2)) : ∀ (n : Nat) (s7 : Int32) (hh : mx_Hp) res, mx_fix (f_X12_ways_L104 l0 l1 l2 l3 l4 l5 l6 k198) n (s7, hh) = some res → mx_Ev mx_k_X12_ways mx_noS (mx_b_X12_ways 104, [some (.ref l0), some (.int l1), some (.int l2), some (.int l3), some (.int l4), some (.int l5), some (.int l6), some (.int s7), none], [], hh, 0, 0) (some (.int res.1), res.2) := by
  intro n
  induction n with
  | zero => intro s7 hh res hq; cases hq
  | succ n ih =>
    intro s7 hh res hq
    unfold mx_fix at hq
    generalize mx_fix (f_X12_ways_L104 l0 l1 l2 l3 l4 l5 l6 k198) n = S at hq ih
    unfold f_X12_ways_L104 at hq
    try dsimp only at hq
    refine mx_p_il rfl ?_
    refine mx_p_aln rfl ?_
    obtain ⟨x64, hx64, hq⟩ := mx_bS hq
    refine mx_e_gr hx64 rfl ?_
    refine mx_p_ic ?_
    obtain ⟨x65, hx65, hq⟩ := mx_bS hq
    refine mx_e_al hx65 ?_
    by_cases hc66 : x65 ≤ s7
    · rw [if_pos hc66] at hq
      refine mx_e_it (decide_eq_true hc66) ?_
      have HB := Hk198 s7 hh _ hq
      exact mx_Ev.weak (mx_le.same _ (mx_le.same _ (mx_le.same _ (mx_le.same _ (mx_le.same _ (mx_le.same _ (mx_le.same _ (mx_le.drop _ (mx_le.same _ (mx_le.nil)))))))))) HB
    · rw [if_neg hc66] at hq
      refine mx_e_if (fun z => hc66 (of_decide_eq_true z)) ?_
      refine mx_p_aln rfl ?_
      obtain ⟨x67, hx67, hq⟩ := mx_bS hq
      refine mx_e_gr hx67 rfl ?_
      refine mx_p_il rfl ?_
      refine mx_p_ic ?_
      obtain ⟨h68, hh68, hq⟩ := mx_bS hq
      refine mx_e_as hh68 ?_
      refine mx_p_ic ?_
      refine mx_p_is (loc' := [some (.ref l0), some (.int l1), some (.int l2), some (.int l3), some (.int l4), some (.int l5), some (.int l6), some (.int s7), some (.int 0)]) rfl ?_
      refine mx_p_np ?_
      refine mx_Ev.weak (mx_le.same _ (mx_le.same _ (mx_le.same _ (mx_le.same _ (mx_le.same _ (mx_le.same _ (mx_le.same _ (mx_le.same _ (mx_le.same _ (mx_le.nil)))))))))) (e_f_X12_ways_L126 _ _ _ _ _ _ _ _ _ ?_ _ _ _ _ hq)
      · intro c69 c70 res hq
        try dsimp only at hq
        refine mx_p_inc (loc' := [some (.ref l0), some (.int l1), some (.int l2), some (.int l3), some (.int l4), some (.int l5), some (.int l6), some (.int (s7 + 1)), none]) rfl rfl ?_
        refine mx_p_gt ?_
        have HB := ih (s7 + 1) c70 _ hq
        exact mx_Ev.weak (mx_le.same _ (mx_le.same _ (mx_le.same _ (mx_le.same _ (mx_le.same _ (mx_le.same _ (mx_le.same _ (mx_le.same _ (mx_le.same _ (mx_le.nil)))))))))) HB
set_option maxRecDepth 20000 in
set_option maxHeartbeats 1000000 in
theorem e_f_X12_ways_L201 (l0 : Nat) (l1 : Int32) (l2 : Int32) (l3 : Int32) (l4 : Int32) (l5 : Int32) (l6 : Int32) (k232 : Int32 × mx_Hp → Option (Int32 × mx_Hp)) (Hk232 : ∀ (s7 : Int32) (hh : mx_Hp) res, k232 (s7, hh) = some res → mx_Ev mx_k_X12_ways mx_noS (mx_b_X12_ways 232, [some (.ref l0), some (.int l1), some (.int l2), some (.int l3), some (.int l4), some (.int l5), some (.int l6), none, none], [], hh, 0, 0) (some (.int res.1), res.2)) : ∀ (n : Nat) (s7 : Int32) (hh : mx_Hp) res, mx_fix (f_X12_ways_L201 l0 l1 l2 l3 l4 l5 l6 k232) n (s7, hh) = some res → mx_Ev mx_k_X12_ways mx_noS (mx_b_X12_ways 201, [some (.ref l0), some (.int l1), some (.int l2), some (.int l3), some (.int l4), some (.int l5), some (.int l6), some (.int s7), none], [], hh, 0, 0) (some (.int res.1), res.2) := by
  intro n
  induction n with
  | zero => intro s7 hh res hq; cases hq
  | succ n ih =>
    intro s7 hh res hq
    unfold mx_fix at hq
    generalize mx_fix (f_X12_ways_L201 l0 l1 l2 l3 l4 l5 l6 k232) n = S at hq ih
    unfold f_X12_ways_L201 at hq
    try dsimp only at hq
    refine mx_p_il rfl ?_
    refine mx_p_aln rfl ?_
    obtain ⟨x79, hx79, hq⟩ := mx_bS hq
    refine mx_e_gr hx79 rfl ?_
    refine mx_p_ic ?_
    obtain ⟨x80, hx80, hq⟩ := mx_bS hq
    refine mx_e_al hx80 ?_
    by_cases hc81 : x80 ≤ s7
    · rw [if_pos hc81] at hq
      refine mx_e_it (decide_eq_true hc81) ?_
      have HB := Hk232 s7 hh _ hq
      exact mx_Ev.weak (mx_le.same _ (mx_le.same _ (mx_le.same _ (mx_le.same _ (mx_le.same _ (mx_le.same _ (mx_le.same _ (mx_le.drop _ (mx_le.same _ (mx_le.nil)))))))))) HB
    · rw [if_neg hc81] at hq
      refine mx_e_if (fun z => hc81 (of_decide_eq_true z)) ?_
      refine mx_p_aln rfl ?_
      obtain ⟨x82, hx82, hq⟩ := mx_bS hq
      refine mx_e_gr hx82 rfl ?_
      refine mx_p_il rfl ?_
      refine mx_p_aln rfl ?_
      obtain ⟨x83, hx83, hq⟩ := mx_bS hq
      refine mx_e_gr hx83 rfl ?_
      refine mx_p_il rfl ?_
      obtain ⟨x84, hx84, hq⟩ := mx_bS hq
      refine mx_e_al hx84 ?_
      obtain ⟨h85, hh85, hq⟩ := mx_bS hq
      refine mx_e_as hh85 ?_
      refine mx_p_inc (loc' := [some (.ref l0), some (.int l1), some (.int l2), some (.int l3), some (.int l4), some (.int l5), some (.int l6), some (.int (s7 + 1)), none]) rfl rfl ?_
      refine mx_p_gt ?_
      have HB := ih (s7 + 1) h85 _ hq
      exact mx_Ev.weak (mx_le.same _ (mx_le.same _ (mx_le.same _ (mx_le.same _ (mx_le.same _ (mx_le.same _ (mx_le.same _ (mx_le.same _ (mx_le.same _ (mx_le.nil)))))))))) HB
set_option maxRecDepth 20000 in
set_option maxHeartbeats 1000000 in
theorem e_f_X12_ways_L95 (l0 : Nat) (l1 : Int32) (l2 : Int32) (l3 : Int32) (l4 : Int32) (l5 : Int32) (k238 : Int32 × mx_Hp → Option (Int32 × mx_Hp)) (Hk238 : ∀ (s6 : Int32) (hh : mx_Hp) res, k238 (s6, hh) = some res → mx_Ev mx_k_X12_ways mx_noS (mx_b_X12_ways 238, [some (.ref l0), some (.int l1), some (.int l2), some (.int l3), some (.int l4), none, none, none, none], [], hh, 0, 0) (some (.int res.1), res.2)) : ∀ (n : Nat) (s6 : Int32) (hh : mx_Hp) res, mx_fix (f_X12_ways_L95 l0 l1 l2 l3 l4 l5 k238) n (s6, hh) = some res → mx_Ev mx_k_X12_ways mx_noS (mx_b_X12_ways 95, [some (.ref l0), some (.int l1), some (.int l2), some (.int l3), some (.int l4), some (.int l5), some (.int s6), none, none], [], hh, 0, 0) (some (.int res.1), res.2) := by
  intro n
  induction n with
  | zero => intro s6 hh res hq; cases hq
  | succ n ih =>
    intro s6 hh res hq
    unfold mx_fix at hq
    generalize mx_fix (f_X12_ways_L95 l0 l1 l2 l3 l4 l5 k238) n = S at hq ih
    unfold f_X12_ways_L95 at hq
    try dsimp only at hq
    refine mx_p_il rfl ?_
    refine mx_p_iln rfl ?_
    by_cases hc87 : l1 ≤ s6
    · rw [if_pos hc87] at hq
      refine mx_e_it (decide_eq_true hc87) ?_
      have HB := Hk238 s6 hh _ hq
      exact mx_Ev.weak (mx_le.same _ (mx_le.same _ (mx_le.same _ (mx_le.same _ (mx_le.same _ (mx_le.drop _ (mx_le.drop _ (mx_le.same _ (mx_le.same _ (mx_le.nil)))))))))) HB
    · rw [if_neg hc87] at hq
      refine mx_e_if (fun z => hc87 (of_decide_eq_true z)) ?_
      refine mx_p_ic ?_
      refine mx_p_is (loc' := [some (.ref l0), some (.int l1), some (.int l2), some (.int l3), some (.int l4), some (.int l5), some (.int s6), some (.int 0), none]) rfl ?_
      refine mx_p_np ?_
      refine mx_Ev.weak (mx_le.same _ (mx_le.same _ (mx_le.same _ (mx_le.same _ (mx_le.same _ (mx_le.same _ (mx_le.same _ (mx_le.same _ (mx_le.same _ (mx_le.nil)))))))))) (e_f_X12_ways_L104 _ _ _ _ _ _ _ _ ?_ _ _ _ _ hq)
      · intro c88 c89 res hq
        try dsimp only at hq
        refine mx_p_ic ?_
        refine mx_p_is (loc' := [some (.ref l0), some (.int l1), some (.int l2), some (.int l3), some (.int l4), some (.int l5), some (.int s6), some (.int 0), none]) rfl ?_
        refine mx_p_np ?_
        refine mx_Ev.weak (mx_le.same _ (mx_le.same _ (mx_le.same _ (mx_le.same _ (mx_le.same _ (mx_le.same _ (mx_le.same _ (mx_le.same _ (mx_le.same _ (mx_le.nil)))))))))) (e_f_X12_ways_L201 _ _ _ _ _ _ _ _ ?_ _ _ _ _ hq)
        · intro c90 c91 res hq
          try dsimp only at hq
          refine mx_p_inc (loc' := [some (.ref l0), some (.int l1), some (.int l2), some (.int l3), some (.int l4), some (.int l5), some (.int (s6 + 1)), none, none]) rfl rfl ?_
          refine mx_p_gt ?_
          have HB := ih (s6 + 1) c91 _ hq
          exact mx_Ev.weak (mx_le.same _ (mx_le.same _ (mx_le.same _ (mx_le.same _ (mx_le.same _ (mx_le.same _ (mx_le.same _ (mx_le.same _ (mx_le.same _ (mx_le.nil)))))))))) HB
set_option maxRecDepth 20000 in
set_option maxHeartbeats 1000000 in
theorem e_f_X12_ways_L241 (l0 : Nat) (l1 : Int32) (l2 : Int32) (l4 : Int32) (h : mx_Hp) (k285 : Int32 × Int32 → Option (Int32 × mx_Hp)) (Hk285 : ∀ (s3 : Int32) (s6 : Int32) res, k285 (s3, s6) = some res → mx_Ev mx_k_X12_ways mx_noS (mx_b_X12_ways 285, [some (.ref l0), some (.int l1), some (.int l2), some (.int s3), some (.int l4), none, none, none, none], [], h, 0, 0) (some (.int res.1), res.2)) : ∀ (n : Nat) (s3 : Int32) (s6 : Int32) res, mx_fix (f_X12_ways_L241 l0 l1 l2 l4 h k285) n (s3, s6) = some res → mx_Ev mx_k_X12_ways mx_noS (mx_b_X12_ways 241, [some (.ref l0), some (.int l1), some (.int l2), some (.int s3), some (.int l4), none, some (.int s6), none, none], [], h, 0, 0) (some (.int res.1), res.2) := by
  intro n
  induction n with
  | zero => intro s3 s6 res hq; cases hq
  | succ n ih =>
    intro s3 s6 res hq
    unfold mx_fix at hq
    generalize mx_fix (f_X12_ways_L241 l0 l1 l2 l4 h k285) n = S at hq ih
    unfold f_X12_ways_L241 at hq
    try dsimp only at hq
    refine mx_p_il rfl ?_
    refine mx_p_aln rfl ?_
    obtain ⟨x102, hx102, hq⟩ := mx_bS hq
    refine mx_e_gr hx102 rfl ?_
    refine mx_p_ic ?_
    obtain ⟨x103, hx103, hq⟩ := mx_bS hq
    refine mx_e_al hx103 ?_
    by_cases hc104 : x103 ≤ s6
    · rw [if_pos hc104] at hq
      refine mx_e_it (decide_eq_true hc104) ?_
      have HB := Hk285 s3 s6 _ hq
      exact mx_Ev.weak (mx_le.same _ (mx_le.same _ (mx_le.same _ (mx_le.same _ (mx_le.same _ (mx_le.same _ (mx_le.drop _ (mx_le.same _ (mx_le.same _ (mx_le.nil)))))))))) HB
    · rw [if_neg hc104] at hq
      refine mx_e_if (fun z => hc104 (of_decide_eq_true z)) ?_
      refine mx_p_iln rfl ?_
      refine mx_p_aln rfl ?_
      obtain ⟨x105, hx105, hq⟩ := mx_bS hq
      refine mx_e_gr hx105 rfl ?_
      refine mx_p_ic ?_
      refine mx_p_il rfl ?_
      refine mx_p_iadd ?_
      obtain ⟨x106, hx106, hq⟩ := mx_bS hq
      refine mx_e_al hx106 ?_
      refine mx_p_ic ?_
      obtain ⟨v110, hE, hK⟩ := mx_bS hq
      have HJ : mx_Ev mx_k_X12_ways mx_noS (mx_b_X12_ways 277, [some (.ref l0), some (.int l1), some (.int l2), none, some (.int l4), none, some (.int s6), none, none], [.int v110, .int s3], h, 0, 0) (some (.int res.1), res.2) := by
        replace hq := hK
        refine mx_p_iadd ?_
        refine mx_p_isn (loc' := [some (.ref l0), some (.int l1), some (.int l2), some (.int (s3 + v110)), some (.int l4), none, some (.int s6), none, none]) rfl ?_
        refine mx_p_inc (loc' := [some (.ref l0), some (.int l1), some (.int l2), some (.int (s3 + v110)), some (.int l4), none, some (.int (s6 + 1)), none, none]) rfl rfl ?_
        refine mx_p_gt ?_
        have HB := ih (s3 + v110) (s6 + 1) _ hq
        exact mx_Ev.weak (mx_le.same _ (mx_le.same _ (mx_le.same _ (mx_le.same _ (mx_le.same _ (mx_le.same _ (mx_le.same _ (mx_le.same _ (mx_le.same _ (mx_le.nil)))))))))) HB
      clear hK
      replace hq := hE
      by_cases hc107 : ¬ x106 = 2
      · rw [if_pos hc107] at hq
        refine mx_e_it (decide_eq_true hc107) ?_
        refine mx_p_ic ?_
        refine mx_p_np ?_
        cases hq; exact mx_Ev.weak (mx_le.same _ (mx_le.same _ (mx_le.same _ (mx_le.drop _ (mx_le.same _ (mx_le.same _ (mx_le.same _ (mx_le.same _ (mx_le.same _ (mx_le.nil)))))))))) HJ
      · rw [if_neg hc107] at hq
        refine mx_e_if (fun z => hc107 (of_decide_eq_true z)) ?_
        refine mx_p_aln rfl ?_
        obtain ⟨x108, hx108, hq⟩ := mx_bS hq
        refine mx_e_gr hx108 rfl ?_
        refine mx_p_il rfl ?_
        obtain ⟨x109, hx109, hq⟩ := mx_bS hq
        refine mx_e_al hx109 ?_
        refine mx_p_gt ?_
        cases hq; exact mx_Ev.weak (mx_le.same _ (mx_le.same _ (mx_le.same _ (mx_le.drop _ (mx_le.same _ (mx_le.same _ (mx_le.same _ (mx_le.same _ (mx_le.same _ (mx_le.nil)))))))))) HJ
set_option maxRecDepth 20000 in
set_option maxHeartbeats 1000000 in
theorem e_f_X12_ways_L26 (l0 : Nat) (l1 : Int32) (l2 : Int32)   : ∀ (n : Nat) (s3 : Int32) (s4 : Int32) (hh : mx_Hp) res, mx_fix (f_X12_ways_L26 l0 l1 l2 ) n (s3, s4, hh) = some res → mx_Ev mx_k_X12_ways mx_noS (mx_b_X12_ways 26, [some (.ref l0), some (.int l1), some (.int l2), some (.int s3), some (.int s4), none, none, none, none], [], hh, 0, 0) (some (.int res.1), res.2) := by
  intro n
  induction n with
  | zero => intro s3 s4 hh res hq; cases hq
  | succ n ih =>
    intro s3 s4 hh res hq
    unfold mx_fix at hq
    generalize mx_fix (f_X12_ways_L26 l0 l1 l2 ) n = S at hq ih
    unfold f_X12_ways_L26 at hq
    try dsimp only at hq
    refine mx_p_il rfl ?_
    refine mx_p_aln rfl ?_
    obtain ⟨x112, hx112, hq⟩ := mx_bS hq
    refine mx_e_gr hx112 rfl ?_
    refine mx_p_ic ?_
    obtain ⟨x113, hx113, hq⟩ := mx_bS hq
    refine mx_e_al hx113 ?_
    by_cases hc114 : x113 ≤ s4
    · rw [if_pos hc114] at hq
      refine mx_e_it (decide_eq_true hc114) ?_
      refine mx_p_iln rfl ?_
      cases hq; exact mx_e_ri rfl
    · rw [if_neg hc114] at hq
      refine mx_e_if (fun z => hc114 (of_decide_eq_true z)) ?_
      refine mx_p_iln rfl ?_
      obtain ⟨v118, hE, hK⟩ := mx_bS hq
      have HJ : mx_Ev mx_k_X12_ways mx_noS (mx_b_X12_ways 51, [some (.ref l0), some (.int l1), some (.int l2), some (.int s3), some (.int s4), none, none, none, none], [.int v118.1], v118.2, 0, 0) (some (.int res.1), res.2) := by
        replace hq := hK
        refine mx_p_is (loc' := [some (.ref l0), some (.int l1), some (.int l2), some (.int s3), some (.int s4), some (.int v118.1), none, none, none]) rfl ?_
        refine mx_p_ic ?_
        refine mx_p_is (loc' := [some (.ref l0), some (.int l1), some (.int l2), some (.int s3), some (.int s4), some (.int v118.1), some (.int 0), none, none]) rfl ?_
        refine mx_p_np ?_
        refine mx_Ev.weak (mx_le.same _ (mx_le.same _ (mx_le.same _ (mx_le.same _ (mx_le.same _ (mx_le.same _ (mx_le.same _ (mx_le.same _ (mx_le.same _ (mx_le.nil)))))))))) (e_f_X12_ways_L56 _ _ _ _ _ _ _ ?_ _ _ _ _ hq)
        · intro c119 c120 res hq
          try dsimp only at hq
          refine mx_p_ic ?_
          refine mx_p_is (loc' := [some (.ref l0), some (.int l1), some (.int l2), some (.int s3), some (.int s4), some (.int v118.1), some (.int 1), none, none]) rfl ?_
          refine mx_p_np ?_
          refine mx_Ev.weak (mx_le.same _ (mx_le.same _ (mx_le.same _ (mx_le.same _ (mx_le.same _ (mx_le.same _ (mx_le.same _ (mx_le.same _ (mx_le.same _ (mx_le.nil)))))))))) (e_f_X12_ways_L95 _ _ _ _ _ _ _ ?_ _ _ _ _ hq)
          · intro c121 c122 res hq
            try dsimp only at hq
            refine mx_p_ic ?_
            refine mx_p_is (loc' := [some (.ref l0), some (.int l1), some (.int l2), some (.int s3), some (.int s4), none, some (.int 0), none, none]) rfl ?_
            refine mx_p_np ?_
            refine mx_Ev.weak (mx_le.same _ (mx_le.same _ (mx_le.same _ (mx_le.same _ (mx_le.same _ (mx_le.same _ (mx_le.same _ (mx_le.same _ (mx_le.same _ (mx_le.nil)))))))))) (e_f_X12_ways_L241 _ _ _ _ _ _ ?_ _ _ _ _ hq)
            · intro c123 c124 res hq
              try dsimp only at hq
              refine mx_p_inc (loc' := [some (.ref l0), some (.int l1), some (.int l2), some (.int c123), some (.int (s4 + 1)), none, none, none, none]) rfl rfl ?_
              refine mx_p_gt ?_
              have HB := ih c123 (s4 + 1) c122 _ hq
              exact mx_Ev.weak (mx_le.same _ (mx_le.same _ (mx_le.same _ (mx_le.same _ (mx_le.same _ (mx_le.same _ (mx_le.same _ (mx_le.same _ (mx_le.same _ (mx_le.nil)))))))))) HB
      clear hK
      replace hq := hE
      by_cases hc115 : ¬ l2 = 0
      · rw [if_pos hc115] at hq
        refine mx_e_zt (decide_eq_true hc115) ?_
        refine mx_p_aln rfl ?_
        refine mx_p_il rfl ?_
        have ho117 : l0 < hh.1 ∧ (mx_lay l0).1 = 15 := by
          by_cases hh : l0 < hh.1 ∧ (mx_lay l0).1 = 15
          · exact hh
          · rw [if_neg hh] at hq; cases hq
        rw [if_pos ho117] at hq
        obtain ⟨x116, hx116, hq⟩ := mx_bS hq
        refine mx_e_cv mx_t_X12_lost ho117 rfl rfl rfl ⟨Nat.le_of_ble_eq_true rfl, Nat.le_of_ble_eq_true rfl, Nat.le_of_ble_eq_true rfl⟩ (Nat.le_of_ble_eq_true rfl) rfl rfl rfl ⟨Nat.zero_le _, Nat.zero_le _⟩ (t_X12_lost hx116) ?_
        refine mx_p_np ?_
        cases hq; exact mx_Ev.weak (mx_le.same _ (mx_le.same _ (mx_le.same _ (mx_le.same _ (mx_le.same _ (mx_le.same _ (mx_le.same _ (mx_le.same _ (mx_le.same _ (mx_le.nil)))))))))) HJ
      · rw [if_neg hc115] at hq
        refine mx_e_zf (fun z => hc115 (of_decide_eq_true z)) ?_
        refine mx_p_ic ?_
        refine mx_p_gt ?_
        cases hq; exact mx_Ev.weak (mx_le.same _ (mx_le.same _ (mx_le.same _ (mx_le.same _ (mx_le.same _ (mx_le.same _ (mx_le.same _ (mx_le.same _ (mx_le.same _ (mx_le.nil)))))))))) HJ
set_option maxRecDepth 20000 in
set_option maxHeartbeats 1000000 in
theorem t_X12_ways {a0 : Nat} {a1 : Int32} {a2 : Int32} {h : mx_Hp} {res} (hq : f_X12_ways a0 a1 a2 h = some res) : mx_Ms mx_k_X12_ways [.ref a0, .int a1, .int a2] h (some (.int res.1), res.2) := by
  unfold f_X12_ways at hq
  show mx_Ev mx_k_X12_ways mx_noS (mx_b_X12_ways 0, [some (.ref a0), some (.int a1), some (.int a2), none, none, none, none, none, none], [], h, 0, 0) _
  refine mx_p_iln rfl ?_
  refine mx_p_ic ?_
  refine mx_p_bp ?_
  obtain ⟨x125, hx125, hq⟩ := mx_bS hq
  refine mx_e_cs mx_t_X12_in rfl rfl rfl ⟨Nat.le_of_ble_eq_true rfl, Nat.le_of_ble_eq_true rfl, Nat.le_of_ble_eq_true rfl⟩ (Nat.le_of_ble_eq_true rfl) rfl rfl ⟨Nat.zero_le _, Nat.zero_le _⟩ (t_X12_in hx125) ?_
  by_cases hc126 : x125 = 0
  · rw [if_pos hc126] at hq
    refine mx_e_zt (decide_eq_true hc126) ?_
    refine mx_p_ic ?_
    cases hq; exact mx_e_ri rfl
  · rw [if_neg hc126] at hq
    refine mx_e_zf (fun z => hc126 (of_decide_eq_true z)) ?_
    refine mx_p_iln rfl ?_
    refine mx_p_ic ?_
    refine mx_p_ic ?_
    obtain ⟨x127, hx127, hq⟩ := mx_bS hq
    refine mx_e_cs mx_t_X12_in rfl rfl rfl ⟨Nat.le_of_ble_eq_true rfl, Nat.le_of_ble_eq_true rfl, Nat.le_of_ble_eq_true rfl⟩ (Nat.le_of_ble_eq_true rfl) rfl rfl ⟨Nat.zero_le _, Nat.zero_le _⟩ (t_X12_in hx127) ?_
    by_cases hc128 : ¬ x127 = 0
    · rw [if_pos hc128] at hq
      refine mx_e_zt (decide_eq_true hc128) ?_
      refine mx_p_ic ?_
      refine mx_p_isn (loc' := [some (.ref a0), some (.int a1), some (.int a2), some (.int 0), none, none, none, none, none]) rfl ?_
      refine mx_p_ic ?_
      refine mx_p_is (loc' := [some (.ref a0), some (.int a1), some (.int a2), some (.int 0), some (.int 0), none, none, none, none]) rfl ?_
      refine mx_p_np ?_
      refine mx_Ev.weak (mx_le.same _ (mx_le.same _ (mx_le.same _ (mx_le.same _ (mx_le.same _ (mx_le.same _ (mx_le.same _ (mx_le.same _ (mx_le.same _ (mx_le.nil)))))))))) (e_f_X12_ways_L26 _ _ _  _ _ _ _ _ hq)
    · rw [if_neg hc128] at hq
      refine mx_e_zf (fun z => hc128 (of_decide_eq_true z)) ?_
      refine mx_p_np ?_
      refine mx_p_ic ?_
      cases hq; exact mx_e_ri rfl
set_option maxRecDepth 20000 in
set_option maxHeartbeats 1000000 in
theorem t_X12_seen {a0 : Nat} {a1 : Int32} {a2 : Int32} {h : mx_Hp} {res} (hq : f_X12_seen a0 a1 a2 h = some res) : mx_Ms mx_k_X12_seen [.ref a0, .int a1, .int a2] h (some (.int res.1), res.2) := by
  unfold f_X12_seen at hq
  show mx_Ev mx_k_X12_seen mx_noS (mx_b_X12_seen 0, [some (.ref a0), some (.int a1), some (.int a2)], [], h, 0, 0) _
  refine mx_p_aln rfl ?_
  refine mx_p_iln rfl ?_
  have ho15 : a0 < h.1 ∧ (mx_lay a0).1 = 15 := by
    by_cases hh : a0 < h.1 ∧ (mx_lay a0).1 = 15
    · exact hh
    · rw [if_neg hh] at hq; cases hq
  rw [if_pos ho15] at hq
  obtain ⟨x14, hx14, hq⟩ := mx_bS hq
  refine mx_e_cv mx_t_X12_isWord ho15 rfl rfl rfl ⟨Nat.le_of_ble_eq_true rfl, Nat.le_of_ble_eq_true rfl, Nat.le_of_ble_eq_true rfl⟩ (Nat.le_of_ble_eq_true rfl) rfl rfl rfl ⟨Nat.zero_le _, Nat.zero_le _⟩ (t_X12_isWord hx14) ?_
  by_cases hc16 : x14 = 0
  · rw [if_pos hc16] at hq
    refine mx_e_zt (decide_eq_true hc16) ?_
    refine mx_p_ic ?_
    cases hq; exact mx_e_ri rfl
  · rw [if_neg hc16] at hq
    refine mx_e_zf (fun z => hc16 (of_decide_eq_true z)) ?_
    refine mx_p_iln rfl ?_
    refine mx_p_ic ?_
    refine mx_p_ic ?_
    obtain ⟨x17, hx17, hq⟩ := mx_bS hq
    refine mx_e_cs mx_t_X12_in rfl rfl rfl ⟨Nat.le_of_ble_eq_true rfl, Nat.le_of_ble_eq_true rfl, Nat.le_of_ble_eq_true rfl⟩ (Nat.le_of_ble_eq_true rfl) rfl rfl ⟨Nat.zero_le _, Nat.zero_le _⟩ (t_X12_in hx17) ?_
    by_cases hc18 : ¬ x17 = 0
    · rw [if_pos hc18] at hq
      refine mx_e_zt (decide_eq_true hc18) ?_
      refine mx_p_aln rfl ?_
      obtain ⟨x19, hx19, hq⟩ := mx_bS hq
      refine mx_e_gi hx19 (by decide) ?_
      refine mx_p_bp ?_
      by_cases hc20 : ¬ x19 = 8
      · rw [if_pos hc20] at hq
        refine mx_e_it (decide_eq_true hc20) ?_
        refine mx_p_aln rfl ?_
        obtain ⟨x21, hx21, hq⟩ := mx_bS hq
        refine mx_e_gr hx21 rfl ?_
        refine mx_p_aln rfl ?_
        obtain ⟨x22, hx22, hq⟩ := mx_bS hq
        refine mx_e_gi hx22 (by decide) ?_
        refine mx_p_ic ?_
        refine mx_p_iln rfl ?_
        refine mx_p_imul ?_
        refine mx_p_iln rfl ?_
        refine mx_p_iadd ?_
        obtain ⟨h23, hh23, hq⟩ := mx_bS hq
        refine mx_e_as hh23 ?_
        refine mx_p_aln rfl ?_
        refine mx_p_dup rfl ?_
        obtain ⟨x24, hx24, hq⟩ := mx_bS hq
        refine mx_e_gi hx24 (by decide) ?_
        refine mx_p_ic ?_
        refine mx_p_iadd ?_
        obtain ⟨h25, hh25, hq⟩ := mx_bS hq
        refine mx_e_pi hh25 ?_
        refine mx_p_aln rfl ?_
        obtain ⟨x26, hx26, hq⟩ := mx_bS hq
        refine mx_e_gi hx26 (by decide) ?_
        cases hq; exact mx_e_ri rfl
      · rw [if_neg hc20] at hq
        refine mx_e_if (fun z => hc20 (of_decide_eq_true z)) ?_
        refine mx_p_bp ?_
        cases hq; exact mx_e_ri rfl
    · rw [if_neg hc18] at hq
      refine mx_e_zf (fun z => hc18 (of_decide_eq_true z)) ?_
      refine mx_p_np ?_
      refine mx_p_ic ?_
      cases hq; exact mx_e_ri rfl
set_option maxRecDepth 20000 in
set_option maxHeartbeats 1000000 in
theorem t_X12_forget {a0 : Nat} {h : mx_Hp} {res} (hq : f_X12_forget a0 h = some res) : mx_Ms mx_k_X12_forget [.ref a0] h (some (.int res.1), res.2) := by
  unfold f_X12_forget at hq
  show mx_Ev mx_k_X12_forget mx_noS (mx_b_X12_forget 0, [some (.ref a0), none], [], h, 0, 0) _
  refine mx_p_aln rfl ?_
  obtain ⟨x3, hx3, hq⟩ := mx_bS hq
  refine mx_e_gi hx3 (by decide) ?_
  refine mx_p_isn (loc' := [some (.ref a0), some (.int x3)]) rfl ?_
  refine mx_p_aln rfl ?_
  refine mx_p_ic ?_
  obtain ⟨h4, hh4, hq⟩ := mx_bS hq
  refine mx_e_pi hh4 ?_
  refine mx_p_iln rfl ?_
  cases hq; exact mx_e_ri rfl
set_option maxRecDepth 20000 in
set_option maxHeartbeats 1000000 in
theorem e_f_X12_guessed_L39 (l0 : Nat) (l1 : Int32) (l2 : Int32) (l3 : Int32) (l4 : Int32) (l5 : Int32) (k110 : Int32 × Int32 × mx_Hp → Option (Int32 × mx_Hp)) (Hk110 : ∀ (s6 : Int32) (s7 : Int32) (hh : mx_Hp) res, k110 (s6, s7, hh) = some res → mx_Ev mx_k_X12_guessed mx_noS (mx_b_X12_guessed 110, [some (.ref l0), some (.int l1), some (.int l2), some (.int l3), some (.int l4), some (.int l5), some (.int s6), none], [], hh, 0, 0) (some (.int res.1), res.2)) : ∀ (n : Nat) (s6 : Int32) (s7 : Int32) (hh : mx_Hp) res, mx_fix (f_X12_guessed_L39 l0 l1 l2 l3 l4 l5 k110) n (s6, s7, hh) = some res → mx_Ev mx_k_X12_guessed mx_noS (mx_b_X12_guessed 39, [some (.ref l0), some (.int l1), some (.int l2), some (.int l3), some (.int l4), some (.int l5), some (.int s6), some (.int s7)], [], hh, 0, 0) (some (.int res.1), res.2) := by
  intro n
  induction n with
  | zero => intro s6 s7 hh res hq; cases hq
  | succ n ih =>
    intro s6 s7 hh res hq
    unfold mx_fix at hq
    generalize mx_fix (f_X12_guessed_L39 l0 l1 l2 l3 l4 l5 k110) n = S at hq ih
    unfold f_X12_guessed_L39 at hq
    try dsimp only at hq
    refine mx_p_il rfl ?_
    refine mx_p_aln rfl ?_
    obtain ⟨x25, hx25, hq⟩ := mx_bS hq
    refine mx_e_gi hx25 (by decide) ?_
    by_cases hc26 : x25 ≤ s7
    · rw [if_pos hc26] at hq
      refine mx_e_it (decide_eq_true hc26) ?_
      have HB := Hk110 s6 s7 hh _ hq
      exact mx_Ev.weak (mx_le.same _ (mx_le.same _ (mx_le.same _ (mx_le.same _ (mx_le.same _ (mx_le.same _ (mx_le.same _ (mx_le.drop _ (mx_le.nil))))))))) HB
    · rw [if_neg hc26] at hq
      refine mx_e_if (fun z => hc26 (of_decide_eq_true z)) ?_
      refine mx_p_il rfl ?_
      by_cases hc27 : s6 = 0
      · rw [if_pos hc27] at hq
        refine mx_e_zt (decide_eq_true hc27) ?_
        have HB := Hk110 s6 s7 hh _ hq
        exact mx_Ev.weak (mx_le.same _ (mx_le.same _ (mx_le.same _ (mx_le.same _ (mx_le.same _ (mx_le.same _ (mx_le.same _ (mx_le.drop _ (mx_le.nil))))))))) HB
      · rw [if_neg hc27] at hq
        refine mx_e_zf (fun z => hc27 (of_decide_eq_true z)) ?_
        refine mx_p_aln rfl ?_
        refine mx_p_aln rfl ?_
        obtain ⟨x28, hx28, hq⟩ := mx_bS hq
        refine mx_e_gr hx28 rfl ?_
        refine mx_p_il rfl ?_
        obtain ⟨x29, hx29, hq⟩ := mx_bS hq
        refine mx_e_al hx29 ?_
        refine mx_p_ic ?_
        by_cases hc30 : (2 : Int32) = 0
        · rw [if_pos hc30] at hq; cases hq
        rw [if_neg hc30] at hq
        refine mx_e_dv hc30 ?_
        refine mx_p_il rfl ?_
        have ho32 : l0 < hh.1 ∧ (mx_lay l0).1 = 15 := by
          by_cases hh : l0 < hh.1 ∧ (mx_lay l0).1 = 15
          · exact hh
          · rw [if_neg hh] at hq; cases hq
        rw [if_pos ho32] at hq
        obtain ⟨x31, hx31, hq⟩ := mx_bS hq
        refine mx_e_cv mx_t_X12_finishes ho32 rfl rfl rfl ⟨Nat.le_of_ble_eq_true rfl, Nat.le_of_ble_eq_true rfl, Nat.le_of_ble_eq_true rfl⟩ (Nat.le_of_ble_eq_true rfl) rfl rfl rfl ⟨Nat.zero_le _, Nat.zero_le _⟩ (t_X12_finishes hx31) ?_
        obtain ⟨v34, hE, hK⟩ := mx_bS hq
        have HJ : mx_Ev mx_k_X12_guessed mx_noS (mx_b_X12_guessed 76, [some (.ref l0), some (.int l1), some (.int l2), some (.int l3), some (.int l4), some (.int l5), none, some (.int s7)], [.int v34], x31.2, 0, 0) (some (.int res.1), res.2) := by
          replace hq := hK
          refine mx_p_aln rfl ?_
          obtain ⟨x35, hx35, hq⟩ := mx_bS hq
          refine mx_e_gr hx35 rfl ?_
          refine mx_p_il rfl ?_
          obtain ⟨x36, hx36, hq⟩ := mx_bS hq
          refine mx_e_al hx36 ?_
          refine mx_p_ic ?_
          by_cases hc37 : (2 : Int32) = 0
          · rw [if_pos hc37] at hq; cases hq
          rw [if_neg hc37] at hq
          refine mx_e_rm hc37 ?_
          refine mx_p_ic ?_
          obtain ⟨v39, hE, hK⟩ := mx_bS hq
          have HJ : mx_Ev mx_k_X12_guessed mx_noS (mx_b_X12_guessed 94, [some (.ref l0), some (.int l1), some (.int l2), some (.int l3), some (.int l4), some (.int l5), none, some (.int s7)], [.int v39, .int v34], x31.2, 0, 0) (some (.int res.1), res.2) := by
            replace hq := hK
            obtain ⟨v41, hE, hK⟩ := mx_bS hq
            have HJ : mx_Ev mx_k_X12_guessed mx_noS (mx_b_X12_guessed 102, [some (.ref l0), some (.int l1), some (.int l2), some (.int l3), some (.int l4), some (.int l5), none, some (.int s7)], [.int v41], x31.2, 0, 0) (some (.int res.1), res.2) := by
              replace hq := hK
              refine mx_p_is (loc' := [some (.ref l0), some (.int l1), some (.int l2), some (.int l3), some (.int l4), some (.int l5), some (.int v41), some (.int s7)]) rfl ?_
              refine mx_p_inc (loc' := [some (.ref l0), some (.int l1), some (.int l2), some (.int l3), some (.int l4), some (.int l5), some (.int v41), some (.int (s7 + 1))]) rfl rfl ?_
              refine mx_p_gt ?_
              have HB := ih v41 (s7 + 1) x31.2 _ hq
              exact mx_Ev.weak (mx_le.same _ (mx_le.same _ (mx_le.same _ (mx_le.same _ (mx_le.same _ (mx_le.same _ (mx_le.same _ (mx_le.same _ (mx_le.nil))))))))) HB
            clear hK
            replace hq := hE
            by_cases hc40 : ¬ v34 = v39
            · rw [if_pos hc40] at hq
              refine mx_e_it (decide_eq_true hc40) ?_
              refine mx_p_ic ?_
              refine mx_p_np ?_
              cases hq; exact mx_Ev.weak (mx_le.same _ (mx_le.same _ (mx_le.same _ (mx_le.same _ (mx_le.same _ (mx_le.same _ (mx_le.same _ (mx_le.same _ (mx_le.nil))))))))) HJ
            · rw [if_neg hc40] at hq
              refine mx_e_if (fun z => hc40 (of_decide_eq_true z)) ?_
              refine mx_p_ic ?_
              refine mx_p_gt ?_
              cases hq; exact mx_Ev.weak (mx_le.same _ (mx_le.same _ (mx_le.same _ (mx_le.same _ (mx_le.same _ (mx_le.same _ (mx_le.same _ (mx_le.same _ (mx_le.nil))))))))) HJ
          clear hK
          replace hq := hE
          by_cases hc38 : ¬ (x36 - x36 / 2 * 2) = 1
          · rw [if_pos hc38] at hq
            refine mx_e_it (decide_eq_true hc38) ?_
            refine mx_p_ic ?_
            refine mx_p_np ?_
            cases hq; exact mx_Ev.weak (mx_le.same _ (mx_le.same _ (mx_le.same _ (mx_le.same _ (mx_le.same _ (mx_le.same _ (mx_le.same _ (mx_le.same _ (mx_le.nil))))))))) HJ
          · rw [if_neg hc38] at hq
            refine mx_e_if (fun z => hc38 (of_decide_eq_true z)) ?_
            refine mx_p_ic ?_
            refine mx_p_gt ?_
            cases hq; exact mx_Ev.weak (mx_le.same _ (mx_le.same _ (mx_le.same _ (mx_le.same _ (mx_le.same _ (mx_le.same _ (mx_le.same _ (mx_le.same _ (mx_le.nil))))))))) HJ
        clear hK
        replace hq := hE
        by_cases hc33 : x31.1 ≤ 0
        · rw [if_pos hc33] at hq
          refine mx_e_zt (decide_eq_true hc33) ?_
          refine mx_p_ic ?_
          refine mx_p_np ?_
          cases hq; exact mx_Ev.weak (mx_le.same _ (mx_le.same _ (mx_le.same _ (mx_le.same _ (mx_le.same _ (mx_le.same _ (mx_le.drop _ (mx_le.same _ (mx_le.nil))))))))) HJ
        · rw [if_neg hc33] at hq
          refine mx_e_zf (fun z => hc33 (of_decide_eq_true z)) ?_
          refine mx_p_ic ?_
          refine mx_p_gt ?_
          cases hq; exact mx_Ev.weak (mx_le.same _ (mx_le.same _ (mx_le.same _ (mx_le.same _ (mx_le.same _ (mx_le.same _ (mx_le.drop _ (mx_le.same _ (mx_le.nil))))))))) HJ
set_option maxRecDepth 20000 in
set_option maxHeartbeats 1000000 in
theorem e_f_X12_guessed_L24 (l0 : Nat) (l1 : Int32) (k159 : Int32 × Int32 × Int32 × Int32 × mx_Hp → Option (Int32 × mx_Hp)) (Hk159 : ∀ (s2 : Int32) (s3 : Int32) (s4 : Int32) (s5 : Int32) (hh : mx_Hp) res, k159 (s2, s3, s4, s5, hh) = some res → mx_Ev mx_k_X12_guessed mx_noS (mx_b_X12_guessed 159, [none, some (.int l1), some (.int s2), some (.int s3), some (.int s4), none, none, none], [], hh, 0, 0) (some (.int res.1), res.2)) : ∀ (n : Nat) (s2 : Int32) (s3 : Int32) (s4 : Int32) (s5 : Int32) (hh : mx_Hp) res, mx_fix (f_X12_guessed_L24 l0 l1 k159) n (s2, s3, s4, s5, hh) = some res → mx_Ev mx_k_X12_guessed mx_noS (mx_b_X12_guessed 24, [some (.ref l0), some (.int l1), some (.int s2), some (.int s3), some (.int s4), some (.int s5), none, none], [], hh, 0, 0) (some (.int res.1), res.2) := by
  intro n
  induction n with
  | zero => intro s2 s3 s4 s5 hh res hq; cases hq
  | succ n ih =>
    intro s2 s3 s4 s5 hh res hq
    unfold mx_fix at hq
    generalize mx_fix (f_X12_guessed_L24 l0 l1 k159) n = S at hq ih
    unfold f_X12_guessed_L24 at hq
    try dsimp only at hq
    refine mx_p_il rfl ?_
    refine mx_p_aln rfl ?_
    have ho50 : l0 < hh.1 ∧ (mx_lay l0).1 = 15 := by
      by_cases hh : l0 < hh.1 ∧ (mx_lay l0).1 = 15
      · exact hh
      · rw [if_neg hh] at hq; cases hq
    rw [if_pos ho50] at hq
    obtain ⟨x49, hx49, hq⟩ := mx_bS hq
    refine mx_e_cv mx_t_X12_all ho50 rfl rfl rfl ⟨Nat.le_of_ble_eq_true rfl, Nat.le_of_ble_eq_true rfl, Nat.le_of_ble_eq_true rfl⟩ (Nat.le_of_ble_eq_true rfl) rfl rfl rfl ⟨Nat.zero_le _, Nat.zero_le _⟩ (t_X12_all hx49) ?_
    by_cases hc51 : x49 < s5
    · rw [if_pos hc51] at hq
      refine mx_e_it (decide_eq_true hc51) ?_
      have HB := Hk159 s2 s3 s4 s5 hh _ hq
      exact mx_Ev.weak (mx_le.drop _ (mx_le.same _ (mx_le.same _ (mx_le.same _ (mx_le.same _ (mx_le.drop _ (mx_le.same _ (mx_le.same _ (mx_le.nil))))))))) HB
    · rw [if_neg hc51] at hq
      refine mx_e_if (fun z => hc51 (of_decide_eq_true z)) ?_
      refine mx_p_ic ?_
      refine mx_p_is (loc' := [some (.ref l0), some (.int l1), some (.int s2), some (.int s3), some (.int s4), some (.int s5), some (.int 1), none]) rfl ?_
      refine mx_p_ic ?_
      refine mx_p_is (loc' := [some (.ref l0), some (.int l1), some (.int s2), some (.int s3), some (.int s4), some (.int s5), some (.int 1), some (.int 0)]) rfl ?_
      refine mx_p_np ?_
      refine mx_Ev.weak (mx_le.same _ (mx_le.same _ (mx_le.same _ (mx_le.same _ (mx_le.same _ (mx_le.same _ (mx_le.same _ (mx_le.same _ (mx_le.nil))))))))) (e_f_X12_guessed_L39 _ _ _ _ _ _ _ ?_ _ _ _ _ _ hq)
      · intro c52 c53 c54 res hq
        try dsimp only at hq
        refine mx_p_iln rfl ?_
        refine mx_p_il rfl ?_
        obtain ⟨v56, hE, hK⟩ := mx_bS hq
        have HJ : mx_Ev mx_k_X12_guessed mx_noS (mx_b_X12_guessed 121, [some (.ref l0), some (.int l1), none, some (.int s3), some (.int s4), some (.int s5), some (.int c52), none], [.int v56, .int s2], c54, 0, 0) (some (.int res.1), res.2) := by
          replace hq := hK
          refine mx_p_iadd ?_
          refine mx_p_isn (loc' := [some (.ref l0), some (.int l1), some (.int (s2 + v56)), some (.int s3), some (.int s4), some (.int s5), some (.int c52), none]) rfl ?_
          refine mx_p_iln rfl ?_
          refine mx_p_il rfl ?_
          obtain ⟨v58, hE, hK⟩ := mx_bS hq
          have HJ : mx_Ev mx_k_X12_guessed mx_noS (mx_b_X12_guessed 135, [some (.ref l0), some (.int l1), some (.int (s2 + v56)), none, some (.int s4), some (.int s5), some (.int c52), none], [.int v58, .int s3], c54, 0, 0) (some (.int res.1), res.2) := by
            replace hq := hK
            refine mx_p_iand ?_
            refine mx_p_isn (loc' := [some (.ref l0), some (.int l1), some (.int (s2 + v56)), some (.int (s3 &&& v58)), some (.int s4), some (.int s5), some (.int c52), none]) rfl ?_
            refine mx_p_il rfl ?_
            refine mx_p_il rfl ?_
            obtain ⟨v60, hE, hK⟩ := mx_bS hq
            have HJ : mx_Ev mx_k_X12_guessed mx_noS (mx_b_X12_guessed 150, [some (.ref l0), some (.int l1), some (.int (s2 + v56)), some (.int (s3 &&& v58)), none, some (.int s5), none, none], [.int v60, .int s4], c54, 0, 0) (some (.int res.1), res.2) := by
              replace hq := hK
              refine mx_p_ior ?_
              refine mx_p_is (loc' := [some (.ref l0), some (.int l1), some (.int (s2 + v56)), some (.int (s3 &&& v58)), some (.int (s4 ||| v60)), some (.int s5), none, none]) rfl ?_
              refine mx_p_inc (loc' := [some (.ref l0), some (.int l1), some (.int (s2 + v56)), some (.int (s3 &&& v58)), some (.int (s4 ||| v60)), some (.int (s5 + 1)), none, none]) rfl rfl ?_
              refine mx_p_gt ?_
              have HB := ih (s2 + v56) (s3 &&& v58) (s4 ||| v60) (s5 + 1) c54 _ hq
              exact mx_Ev.weak (mx_le.same _ (mx_le.same _ (mx_le.same _ (mx_le.same _ (mx_le.same _ (mx_le.same _ (mx_le.same _ (mx_le.same _ (mx_le.nil))))))))) HB
            clear hK
            replace hq := hE
            by_cases hc59 : c52 = 0
            · rw [if_pos hc59] at hq
              refine mx_e_zt (decide_eq_true hc59) ?_
              refine mx_p_ic ?_
              refine mx_p_np ?_
              cases hq; exact mx_Ev.weak (mx_le.same _ (mx_le.same _ (mx_le.same _ (mx_le.same _ (mx_le.drop _ (mx_le.same _ (mx_le.drop _ (mx_le.same _ (mx_le.nil))))))))) HJ
            · rw [if_neg hc59] at hq
              refine mx_e_zf (fun z => hc59 (of_decide_eq_true z)) ?_
              refine mx_p_il rfl ?_
              refine mx_p_gt ?_
              cases hq; exact mx_Ev.weak (mx_le.same _ (mx_le.same _ (mx_le.same _ (mx_le.same _ (mx_le.drop _ (mx_le.same _ (mx_le.drop _ (mx_le.same _ (mx_le.nil))))))))) HJ
          clear hK
          replace hq := hE
          by_cases hc57 : c52 = 0
          · rw [if_pos hc57] at hq
            refine mx_e_zt (decide_eq_true hc57) ?_
            refine mx_p_ic ?_
            refine mx_p_np ?_
            cases hq; exact mx_Ev.weak (mx_le.same _ (mx_le.same _ (mx_le.same _ (mx_le.drop _ (mx_le.same _ (mx_le.same _ (mx_le.same _ (mx_le.same _ (mx_le.nil))))))))) HJ
          · rw [if_neg hc57] at hq
            refine mx_e_zf (fun z => hc57 (of_decide_eq_true z)) ?_
            refine mx_p_il rfl ?_
            refine mx_p_gt ?_
            cases hq; exact mx_Ev.weak (mx_le.same _ (mx_le.same _ (mx_le.same _ (mx_le.drop _ (mx_le.same _ (mx_le.same _ (mx_le.same _ (mx_le.same _ (mx_le.nil))))))))) HJ
        clear hK
        replace hq := hE
        by_cases hc55 : c52 = 0
        · rw [if_pos hc55] at hq
          refine mx_e_zt (decide_eq_true hc55) ?_
          refine mx_p_ic ?_
          refine mx_p_np ?_
          cases hq; exact mx_Ev.weak (mx_le.same _ (mx_le.same _ (mx_le.drop _ (mx_le.same _ (mx_le.same _ (mx_le.same _ (mx_le.same _ (mx_le.same _ (mx_le.nil))))))))) HJ
        · rw [if_neg hc55] at hq
          refine mx_e_zf (fun z => hc55 (of_decide_eq_true z)) ?_
          refine mx_p_ic ?_
          refine mx_p_gt ?_
          cases hq; exact mx_Ev.weak (mx_le.same _ (mx_le.same _ (mx_le.drop _ (mx_le.same _ (mx_le.same _ (mx_le.same _ (mx_le.same _ (mx_le.same _ (mx_le.nil))))))))) HJ
set_option maxRecDepth 20000 in
set_option maxHeartbeats 1000000 in
theorem t_X12_guessed {a0 : Nat} {a1 : Int32} {h : mx_Hp} {res} (hq : f_X12_guessed a0 a1 h = some res) : mx_Ms mx_k_X12_guessed [.ref a0, .int a1] h (some (.int res.1), res.2) := by
  unfold f_X12_guessed at hq
  show mx_Ev mx_k_X12_guessed mx_noS (mx_b_X12_guessed 0, [some (.ref a0), some (.int a1), none, none, none, none, none, none], [], h, 0, 0) _
  refine mx_p_iln rfl ?_
  refine mx_p_ic ?_
  refine mx_p_ic ?_
  obtain ⟨x66, hx66, hq⟩ := mx_bS hq
  refine mx_e_cs mx_t_X12_in rfl rfl rfl ⟨Nat.le_of_ble_eq_true rfl, Nat.le_of_ble_eq_true rfl, Nat.le_of_ble_eq_true rfl⟩ (Nat.le_of_ble_eq_true rfl) rfl rfl ⟨Nat.zero_le _, Nat.zero_le _⟩ (t_X12_in hx66) ?_
  by_cases hc67 : ¬ x66 = 0
  · rw [if_pos hc67] at hq
    refine mx_e_zt (decide_eq_true hc67) ?_
    refine mx_p_ic ?_
    refine mx_p_isn (loc' := [some (.ref a0), some (.int a1), some (.int 0), none, none, none, none, none]) rfl ?_
    refine mx_p_aln rfl ?_
    have ho69 : a0 < h.1 ∧ (mx_lay a0).1 = 15 := by
      by_cases hh : a0 < h.1 ∧ (mx_lay a0).1 = 15
      · exact hh
      · rw [if_neg hh] at hq; cases hq
    rw [if_pos ho69] at hq
    obtain ⟨x68, hx68, hq⟩ := mx_bS hq
    refine mx_e_cv mx_t_X12_all ho69 rfl rfl rfl ⟨Nat.le_of_ble_eq_true rfl, Nat.le_of_ble_eq_true rfl, Nat.le_of_ble_eq_true rfl⟩ (Nat.le_of_ble_eq_true rfl) rfl rfl rfl ⟨Nat.zero_le _, Nat.zero_le _⟩ (t_X12_all hx68) ?_
    refine mx_p_isn (loc' := [some (.ref a0), some (.int a1), some (.int 0), some (.int x68), none, none, none, none]) rfl ?_
    refine mx_p_ic ?_
    refine mx_p_is (loc' := [some (.ref a0), some (.int a1), some (.int 0), some (.int x68), some (.int 0), none, none, none]) rfl ?_
    refine mx_p_ic ?_
    refine mx_p_is (loc' := [some (.ref a0), some (.int a1), some (.int 0), some (.int x68), some (.int 0), some (.int 0), none, none]) rfl ?_
    refine mx_p_np ?_
    refine mx_Ev.weak (mx_le.same _ (mx_le.same _ (mx_le.same _ (mx_le.same _ (mx_le.same _ (mx_le.same _ (mx_le.same _ (mx_le.same _ (mx_le.nil))))))))) (e_f_X12_guessed_L24 _ _ _ ?_ _ _ _ _ _ _ _ hq)
    · intro c70 c71 c72 c73 c74 res hq
      try dsimp only at hq
      refine mx_p_iln rfl ?_
      obtain ⟨v78, hE, hK⟩ := mx_bS hq
      have HJ : mx_Ev mx_k_X12_guessed mx_noS (mx_b_X12_guessed 187, [none, none, none, none, none, none, none, none], [.int v78], c74, 0, 0) (some (.int res.1), res.2) := by
        replace hq := hK
        cases hq; exact mx_e_ri rfl
      clear hK
      replace hq := hE
      by_cases hc75 : ¬ a1 = 0
      · rw [if_pos hc75] at hq
        refine mx_e_zt (decide_eq_true hc75) ?_
        refine mx_p_iln rfl ?_
        by_cases hc76 : ¬ c70 = 0
        · rw [if_pos hc76] at hq
          refine mx_e_zt (decide_eq_true hc76) ?_
          refine mx_p_iln rfl ?_
          refine mx_p_ic ?_
          by_cases hc77 : ¬ a1 = 1
          · rw [if_pos hc77] at hq
            refine mx_e_it (decide_eq_true hc77) ?_
            refine mx_p_il rfl ?_
            refine mx_p_np ?_
            cases hq; exact mx_Ev.weak (mx_le.same _ (mx_le.drop _ (mx_le.drop _ (mx_le.drop _ (mx_le.drop _ (mx_le.same _ (mx_le.same _ (mx_le.same _ (mx_le.nil))))))))) HJ
          · rw [if_neg hc77] at hq
            refine mx_e_if (fun z => hc77 (of_decide_eq_true z)) ?_
            refine mx_p_iln rfl ?_
            refine mx_p_gt ?_
            cases hq; exact mx_Ev.weak (mx_le.same _ (mx_le.drop _ (mx_le.drop _ (mx_le.drop _ (mx_le.drop _ (mx_le.same _ (mx_le.same _ (mx_le.same _ (mx_le.nil))))))))) HJ
        · rw [if_neg hc76] at hq
          refine mx_e_zf (fun z => hc76 (of_decide_eq_true z)) ?_
          refine mx_p_bp ?_
          refine mx_p_gt ?_
          cases hq; exact mx_Ev.weak (mx_le.same _ (mx_le.drop _ (mx_le.drop _ (mx_le.drop _ (mx_le.drop _ (mx_le.same _ (mx_le.same _ (mx_le.same _ (mx_le.nil))))))))) HJ
      · rw [if_neg hc75] at hq
        refine mx_e_zf (fun z => hc75 (of_decide_eq_true z)) ?_
        refine mx_p_iln rfl ?_
        refine mx_p_gt ?_
        cases hq; exact mx_Ev.weak (mx_le.same _ (mx_le.drop _ (mx_le.drop _ (mx_le.drop _ (mx_le.drop _ (mx_le.same _ (mx_le.same _ (mx_le.same _ (mx_le.nil))))))))) HJ
  · rw [if_neg hc67] at hq
    refine mx_e_zf (fun z => hc67 (of_decide_eq_true z)) ?_
    refine mx_p_ic ?_
    cases hq; exact mx_e_ri rfl
set_option maxRecDepth 20000 in
set_option maxHeartbeats 1000000 in
theorem t_X12_turn {a0 : Nat} {a1 : Int32} {h : mx_Hp} {res} (hq : f_X12_turn a0 a1 h = some res) : mx_Ms mx_k_X12_turn [.ref a0, .int a1] h (none, res) := by
  unfold f_X12_turn at hq
  show mx_Ev mx_k_X12_turn mx_noS (mx_b_X12_turn 0, [some (.ref a0), some (.int a1), none, none], [], h, 0, 0) _
  refine mx_p_iln rfl ?_
  refine mx_p_aln rfl ?_
  obtain ⟨x105, hx105, hq⟩ := mx_bS hq
  refine mx_e_gr hx105 rfl ?_
  refine mx_p_ic ?_
  obtain ⟨x106, hx106, hq⟩ := mx_bS hq
  refine mx_e_al hx106 ?_
  by_cases hc107 : (x106 : Int32) = 0
  · rw [if_pos hc107] at hq; cases hq
  rw [if_neg hc107] at hq
  refine mx_e_rm hc107 ?_
  refine mx_p_isn (loc' := [some (.ref a0), some (.int a1), some (.int (a1 - a1 / x106 * x106)), none]) rfl ?_
  refine mx_p_iln rfl ?_
  refine mx_p_bp ?_
  by_cases hc108 : (64 : Int32) = 0
  · rw [if_pos hc108] at hq; cases hq
  rw [if_neg hc108] at hq
  refine mx_e_dv hc108 ?_
  refine mx_p_ic ?_
  by_cases hc109 : (3 : Int32) = 0
  · rw [if_pos hc109] at hq; cases hq
  rw [if_neg hc109] at hq
  refine mx_e_rm hc109 ?_
  refine mx_p_isn (loc' := [some (.ref a0), some (.int a1), some (.int (a1 - a1 / x106 * x106)), some (.int ((a1 / 64) - (a1 / 64) / 3 * 3))]) rfl ?_
  refine mx_p_iln rfl ?_
  obtain ⟨v208, hE, hK⟩ := mx_bS hq
  have HJ : mx_Ev mx_k_X12_turn mx_noS (mx_b_X12_turn 107, [none, none, none, none], [], v208, 0, 0) (none, res) := by
    replace hq := hK
    cases hq; exact mx_p_rv
  clear hK
  replace hq := hE
  by_cases hc110 : ¬ ((a1 / 64) - (a1 / 64) / 3 * 3) = 0
  · rw [if_pos hc110] at hq
    refine mx_e_zt (decide_eq_true hc110) ?_
    refine mx_p_iln rfl ?_
    refine mx_p_ic ?_
    by_cases hc111 : ¬ ((a1 / 64) - (a1 / 64) / 3 * 3) = 1
    · rw [if_pos hc111] at hq
      refine mx_e_it (decide_eq_true hc111) ?_
      refine mx_p_aln rfl ?_
      refine mx_p_iln rfl ?_
      have ho113 : a0 < h.1 ∧ (mx_lay a0).1 = 15 := by
        by_cases hh : a0 < h.1 ∧ (mx_lay a0).1 = 15
        · exact hh
        · rw [if_neg hh] at hq; cases hq
      rw [if_pos ho113] at hq
      obtain ⟨x112, hx112, hq⟩ := mx_bS hq
      refine mx_e_cv mx_t_X12_maySay ho113 rfl rfl rfl ⟨Nat.le_of_ble_eq_true rfl, Nat.le_of_ble_eq_true rfl, Nat.le_of_ble_eq_true rfl⟩ (Nat.le_of_ble_eq_true rfl) rfl rfl rfl ⟨Nat.zero_le _, Nat.zero_le _⟩ (t_X12_maySay hx112) ?_
      by_cases hc114 : x112 = 0
      · rw [if_pos hc114] at hq
        refine mx_e_zt (decide_eq_true hc114) ?_
        refine mx_p_aln rfl ?_
        obtain ⟨x115, hx115, hq⟩ := mx_bS hq
        refine mx_e_gr hx115 rfl ?_
        refine mx_p_bp ?_
        obtain ⟨x116, hx116, hq⟩ := mx_bS hq
        refine mx_e_al hx116 ?_
        by_cases hc117 : x116 ≤ 0
        · rw [if_pos hc117] at hq
          refine mx_e_zt (decide_eq_true hc117) ?_
          cases hq; exact mx_Ev.weak (mx_le.drop _ (mx_le.drop _ (mx_le.drop _ (mx_le.drop _ (mx_le.nil))))) HJ
        · rw [if_neg hc117] at hq
          refine mx_e_zf (fun z => hc117 (of_decide_eq_true z)) ?_
          refine mx_p_aln rfl ?_
          have ho119 : a0 < h.1 ∧ (mx_lay a0).1 = 15 := by
            by_cases hh : a0 < h.1 ∧ (mx_lay a0).1 = 15
            · exact hh
            · rw [if_neg hh] at hq; cases hq
          rw [if_pos ho119] at hq
          obtain ⟨x118, hx118, hq⟩ := mx_bS hq
          refine mx_e_cv mx_t_X12_drops ho119 rfl rfl rfl ⟨Nat.le_of_ble_eq_true rfl, Nat.le_of_ble_eq_true rfl, Nat.le_of_ble_eq_true rfl⟩ (Nat.le_of_ble_eq_true rfl) rfl rfl rfl ⟨Nat.zero_le _, Nat.zero_le _⟩ (t_X12_drops hx118) ?_
          refine mx_p_np ?_
          cases hq; exact mx_Ev.weak (mx_le.drop _ (mx_le.drop _ (mx_le.drop _ (mx_le.drop _ (mx_le.nil))))) HJ
      · rw [if_neg hc114] at hq
        refine mx_e_zf (fun z => hc114 (of_decide_eq_true z)) ?_
        refine mx_p_aln rfl ?_
        obtain ⟨x120, hx120, hq⟩ := mx_bS hq
        refine mx_e_gr hx120 rfl ?_
        refine mx_p_bp ?_
        obtain ⟨x121, hx121, hq⟩ := mx_bS hq
        refine mx_e_al hx121 ?_
        refine mx_p_bp ?_
        by_cases hc122 : 12 ≤ x121
        · rw [if_pos hc122] at hq
          refine mx_e_it (decide_eq_true hc122) ?_
          refine mx_p_aln rfl ?_
          obtain ⟨x123, hx123, hq⟩ := mx_bS hq
          refine mx_e_gr hx123 rfl ?_
          refine mx_p_bp ?_
          obtain ⟨x124, hx124, hq⟩ := mx_bS hq
          refine mx_e_al hx124 ?_
          by_cases hc125 : x124 ≤ 0
          · rw [if_pos hc125] at hq
            refine mx_e_zt (decide_eq_true hc125) ?_
            cases hq; exact mx_Ev.weak (mx_le.drop _ (mx_le.drop _ (mx_le.drop _ (mx_le.drop _ (mx_le.nil))))) HJ
          · rw [if_neg hc125] at hq
            refine mx_e_zf (fun z => hc125 (of_decide_eq_true z)) ?_
            refine mx_p_aln rfl ?_
            have ho127 : a0 < h.1 ∧ (mx_lay a0).1 = 15 := by
              by_cases hh : a0 < h.1 ∧ (mx_lay a0).1 = 15
              · exact hh
              · rw [if_neg hh] at hq; cases hq
            rw [if_pos ho127] at hq
            obtain ⟨x126, hx126, hq⟩ := mx_bS hq
            refine mx_e_cv mx_t_X12_drops ho127 rfl rfl rfl ⟨Nat.le_of_ble_eq_true rfl, Nat.le_of_ble_eq_true rfl, Nat.le_of_ble_eq_true rfl⟩ (Nat.le_of_ble_eq_true rfl) rfl rfl rfl ⟨Nat.zero_le _, Nat.zero_le _⟩ (t_X12_drops hx126) ?_
            refine mx_p_np ?_
            cases hq; exact mx_Ev.weak (mx_le.drop _ (mx_le.drop _ (mx_le.drop _ (mx_le.drop _ (mx_le.nil))))) HJ
        · rw [if_neg hc122] at hq
          refine mx_e_if (fun z => hc122 (of_decide_eq_true z)) ?_
          refine mx_p_aln rfl ?_
          refine mx_p_iln rfl ?_
          have ho129 : a0 < h.1 ∧ (mx_lay a0).1 = 15 := by
            by_cases hh : a0 < h.1 ∧ (mx_lay a0).1 = 15
            · exact hh
            · rw [if_neg hh] at hq; cases hq
          rw [if_pos ho129] at hq
          obtain ⟨x128, hx128, hq⟩ := mx_bS hq
          refine mx_e_cv mx_t_X12_says ho129 rfl rfl rfl ⟨Nat.le_of_ble_eq_true rfl, Nat.le_of_ble_eq_true rfl, Nat.le_of_ble_eq_true rfl⟩ (Nat.le_of_ble_eq_true rfl) rfl rfl rfl ⟨Nat.zero_le _, Nat.zero_le _⟩ (t_X12_says hx128) ?_
          refine mx_p_gt ?_
          cases hq; exact mx_Ev.weak (mx_le.drop _ (mx_le.drop _ (mx_le.drop _ (mx_le.drop _ (mx_le.nil))))) HJ
    · rw [if_neg hc111] at hq
      refine mx_e_if (fun z => hc111 (of_decide_eq_true z)) ?_
      refine mx_p_aln rfl ?_
      have ho131 : a0 < h.1 ∧ (mx_lay a0).1 = 15 := by
        by_cases hh : a0 < h.1 ∧ (mx_lay a0).1 = 15
        · exact hh
        · rw [if_neg hh] at hq; cases hq
      rw [if_pos ho131] at hq
      obtain ⟨x130, hx130, hq⟩ := mx_bS hq
      refine mx_e_cv mx_t_X12_mayEnd ho131 rfl rfl rfl ⟨Nat.le_of_ble_eq_true rfl, Nat.le_of_ble_eq_true rfl, Nat.le_of_ble_eq_true rfl⟩ (Nat.le_of_ble_eq_true rfl) rfl rfl rfl ⟨Nat.zero_le _, Nat.zero_le _⟩ (t_X12_mayEnd hx130) ?_
      by_cases hc132 : x130 = 0
      · rw [if_pos hc132] at hq
        refine mx_e_zt (decide_eq_true hc132) ?_
        refine mx_p_aln rfl ?_
        refine mx_p_iln rfl ?_
        have ho134 : a0 < h.1 ∧ (mx_lay a0).1 = 15 := by
          by_cases hh : a0 < h.1 ∧ (mx_lay a0).1 = 15
          · exact hh
          · rw [if_neg hh] at hq; cases hq
        rw [if_pos ho134] at hq
        obtain ⟨x133, hx133, hq⟩ := mx_bS hq
        refine mx_e_cv mx_t_X12_maySay ho134 rfl rfl rfl ⟨Nat.le_of_ble_eq_true rfl, Nat.le_of_ble_eq_true rfl, Nat.le_of_ble_eq_true rfl⟩ (Nat.le_of_ble_eq_true rfl) rfl rfl rfl ⟨Nat.zero_le _, Nat.zero_le _⟩ (t_X12_maySay hx133) ?_
        by_cases hc135 : x133 = 0
        · rw [if_pos hc135] at hq
          refine mx_e_zt (decide_eq_true hc135) ?_
          refine mx_p_aln rfl ?_
          obtain ⟨x136, hx136, hq⟩ := mx_bS hq
          refine mx_e_gr hx136 rfl ?_
          refine mx_p_bp ?_
          obtain ⟨x137, hx137, hq⟩ := mx_bS hq
          refine mx_e_al hx137 ?_
          by_cases hc138 : x137 ≤ 0
          · rw [if_pos hc138] at hq
            refine mx_e_zt (decide_eq_true hc138) ?_
            cases hq; exact mx_Ev.weak (mx_le.drop _ (mx_le.drop _ (mx_le.drop _ (mx_le.drop _ (mx_le.nil))))) HJ
          · rw [if_neg hc138] at hq
            refine mx_e_zf (fun z => hc138 (of_decide_eq_true z)) ?_
            refine mx_p_aln rfl ?_
            have ho140 : a0 < h.1 ∧ (mx_lay a0).1 = 15 := by
              by_cases hh : a0 < h.1 ∧ (mx_lay a0).1 = 15
              · exact hh
              · rw [if_neg hh] at hq; cases hq
            rw [if_pos ho140] at hq
            obtain ⟨x139, hx139, hq⟩ := mx_bS hq
            refine mx_e_cv mx_t_X12_drops ho140 rfl rfl rfl ⟨Nat.le_of_ble_eq_true rfl, Nat.le_of_ble_eq_true rfl, Nat.le_of_ble_eq_true rfl⟩ (Nat.le_of_ble_eq_true rfl) rfl rfl rfl ⟨Nat.zero_le _, Nat.zero_le _⟩ (t_X12_drops hx139) ?_
            refine mx_p_np ?_
            cases hq; exact mx_Ev.weak (mx_le.drop _ (mx_le.drop _ (mx_le.drop _ (mx_le.drop _ (mx_le.nil))))) HJ
        · rw [if_neg hc135] at hq
          refine mx_e_zf (fun z => hc135 (of_decide_eq_true z)) ?_
          refine mx_p_aln rfl ?_
          obtain ⟨x141, hx141, hq⟩ := mx_bS hq
          refine mx_e_gr hx141 rfl ?_
          refine mx_p_bp ?_
          obtain ⟨x142, hx142, hq⟩ := mx_bS hq
          refine mx_e_al hx142 ?_
          refine mx_p_bp ?_
          by_cases hc143 : 12 ≤ x142
          · rw [if_pos hc143] at hq
            refine mx_e_it (decide_eq_true hc143) ?_
            refine mx_p_aln rfl ?_
            obtain ⟨x144, hx144, hq⟩ := mx_bS hq
            refine mx_e_gr hx144 rfl ?_
            refine mx_p_bp ?_
            obtain ⟨x145, hx145, hq⟩ := mx_bS hq
            refine mx_e_al hx145 ?_
            by_cases hc146 : x145 ≤ 0
            · rw [if_pos hc146] at hq
              refine mx_e_zt (decide_eq_true hc146) ?_
              cases hq; exact mx_Ev.weak (mx_le.drop _ (mx_le.drop _ (mx_le.drop _ (mx_le.drop _ (mx_le.nil))))) HJ
            · rw [if_neg hc146] at hq
              refine mx_e_zf (fun z => hc146 (of_decide_eq_true z)) ?_
              refine mx_p_aln rfl ?_
              have ho148 : a0 < h.1 ∧ (mx_lay a0).1 = 15 := by
                by_cases hh : a0 < h.1 ∧ (mx_lay a0).1 = 15
                · exact hh
                · rw [if_neg hh] at hq; cases hq
              rw [if_pos ho148] at hq
              obtain ⟨x147, hx147, hq⟩ := mx_bS hq
              refine mx_e_cv mx_t_X12_drops ho148 rfl rfl rfl ⟨Nat.le_of_ble_eq_true rfl, Nat.le_of_ble_eq_true rfl, Nat.le_of_ble_eq_true rfl⟩ (Nat.le_of_ble_eq_true rfl) rfl rfl rfl ⟨Nat.zero_le _, Nat.zero_le _⟩ (t_X12_drops hx147) ?_
              refine mx_p_np ?_
              cases hq; exact mx_Ev.weak (mx_le.drop _ (mx_le.drop _ (mx_le.drop _ (mx_le.drop _ (mx_le.nil))))) HJ
          · rw [if_neg hc143] at hq
            refine mx_e_if (fun z => hc143 (of_decide_eq_true z)) ?_
            refine mx_p_aln rfl ?_
            refine mx_p_iln rfl ?_
            have ho150 : a0 < h.1 ∧ (mx_lay a0).1 = 15 := by
              by_cases hh : a0 < h.1 ∧ (mx_lay a0).1 = 15
              · exact hh
              · rw [if_neg hh] at hq; cases hq
            rw [if_pos ho150] at hq
            obtain ⟨x149, hx149, hq⟩ := mx_bS hq
            refine mx_e_cv mx_t_X12_says ho150 rfl rfl rfl ⟨Nat.le_of_ble_eq_true rfl, Nat.le_of_ble_eq_true rfl, Nat.le_of_ble_eq_true rfl⟩ (Nat.le_of_ble_eq_true rfl) rfl rfl rfl ⟨Nat.zero_le _, Nat.zero_le _⟩ (t_X12_says hx149) ?_
            refine mx_p_gt ?_
            cases hq; exact mx_Ev.weak (mx_le.drop _ (mx_le.drop _ (mx_le.drop _ (mx_le.drop _ (mx_le.nil))))) HJ
      · rw [if_neg hc132] at hq
        refine mx_e_zf (fun z => hc132 (of_decide_eq_true z)) ?_
        refine mx_p_aln rfl ?_
        refine mx_p_aln rfl ?_
        obtain ⟨x151, hx151, hq⟩ := mx_bS hq
        refine mx_e_gr hx151 rfl ?_
        refine mx_p_bp ?_
        obtain ⟨x152, hx152, hq⟩ := mx_bS hq
        refine mx_e_al hx152 ?_
        refine mx_p_aln rfl ?_
        have ho154 : a0 < h.1 ∧ (mx_lay a0).1 = 15 := by
          by_cases hh : a0 < h.1 ∧ (mx_lay a0).1 = 15
          · exact hh
          · rw [if_neg hh] at hq; cases hq
        rw [if_pos ho154] at hq
        obtain ⟨x153, hx153, hq⟩ := mx_bS hq
        refine mx_e_cv mx_t_X12_worthNow ho154 rfl rfl rfl ⟨Nat.le_of_ble_eq_true rfl, Nat.le_of_ble_eq_true rfl, Nat.le_of_ble_eq_true rfl⟩ (Nat.le_of_ble_eq_true rfl) rfl rfl rfl ⟨Nat.zero_le _, Nat.zero_le _⟩ (t_X12_worthNow hx153) ?_
        have ho156 : a0 < h.1 ∧ (mx_lay a0).1 = 15 := by
          by_cases hh : a0 < h.1 ∧ (mx_lay a0).1 = 15
          · exact hh
          · rw [if_neg hh] at hq; cases hq
        rw [if_pos ho156] at hq
        obtain ⟨x155, hx155, hq⟩ := mx_bS hq
        refine mx_e_cv mx_t_X12_decrees ho156 rfl rfl rfl ⟨Nat.le_of_ble_eq_true rfl, Nat.le_of_ble_eq_true rfl, Nat.le_of_ble_eq_true rfl⟩ (Nat.le_of_ble_eq_true rfl) rfl rfl rfl ⟨Nat.zero_le _, Nat.zero_le _⟩ (t_X12_decrees hx155) ?_
        refine mx_p_gt ?_
        cases hq; exact mx_Ev.weak (mx_le.drop _ (mx_le.drop _ (mx_le.drop _ (mx_le.drop _ (mx_le.nil))))) HJ
  · rw [if_neg hc110] at hq
    refine mx_e_zf (fun z => hc110 (of_decide_eq_true z)) ?_
    refine mx_p_aln rfl ?_
    have ho158 : a0 < h.1 ∧ (mx_lay a0).1 = 15 := by
      by_cases hh : a0 < h.1 ∧ (mx_lay a0).1 = 15
      · exact hh
      · rw [if_neg hh] at hq; cases hq
    rw [if_pos ho158] at hq
    obtain ⟨x157, hx157, hq⟩ := mx_bS hq
    refine mx_e_cv mx_t_X12_finishesNow ho158 rfl rfl rfl ⟨Nat.le_of_ble_eq_true rfl, Nat.le_of_ble_eq_true rfl, Nat.le_of_ble_eq_true rfl⟩ (Nat.le_of_ble_eq_true rfl) rfl rfl rfl ⟨Nat.zero_le _, Nat.zero_le _⟩ (t_X12_finishesNow hx157) ?_
    by_cases hc159 : x157.1 ≤ 0
    · rw [if_pos hc159] at hq
      refine mx_e_zt (decide_eq_true hc159) ?_
      refine mx_p_iln rfl ?_
      refine mx_p_ic ?_
      by_cases hc160 : ¬ ((a1 / 64) - (a1 / 64) / 3 * 3) = 1
      · rw [if_pos hc160] at hq
        refine mx_e_it (decide_eq_true hc160) ?_
        refine mx_p_aln rfl ?_
        refine mx_p_iln rfl ?_
        have ho162 : a0 < x157.2.1 ∧ (mx_lay a0).1 = 15 := by
          by_cases hh : a0 < x157.2.1 ∧ (mx_lay a0).1 = 15
          · exact hh
          · rw [if_neg hh] at hq; cases hq
        rw [if_pos ho162] at hq
        obtain ⟨x161, hx161, hq⟩ := mx_bS hq
        refine mx_e_cv mx_t_X12_maySay ho162 rfl rfl rfl ⟨Nat.le_of_ble_eq_true rfl, Nat.le_of_ble_eq_true rfl, Nat.le_of_ble_eq_true rfl⟩ (Nat.le_of_ble_eq_true rfl) rfl rfl rfl ⟨Nat.zero_le _, Nat.zero_le _⟩ (t_X12_maySay hx161) ?_
        by_cases hc163 : x161 = 0
        · rw [if_pos hc163] at hq
          refine mx_e_zt (decide_eq_true hc163) ?_
          refine mx_p_aln rfl ?_
          obtain ⟨x164, hx164, hq⟩ := mx_bS hq
          refine mx_e_gr hx164 rfl ?_
          refine mx_p_bp ?_
          obtain ⟨x165, hx165, hq⟩ := mx_bS hq
          refine mx_e_al hx165 ?_
          by_cases hc166 : x165 ≤ 0
          · rw [if_pos hc166] at hq
            refine mx_e_zt (decide_eq_true hc166) ?_
            cases hq; exact mx_Ev.weak (mx_le.drop _ (mx_le.drop _ (mx_le.drop _ (mx_le.drop _ (mx_le.nil))))) HJ
          · rw [if_neg hc166] at hq
            refine mx_e_zf (fun z => hc166 (of_decide_eq_true z)) ?_
            refine mx_p_aln rfl ?_
            have ho168 : a0 < x157.2.1 ∧ (mx_lay a0).1 = 15 := by
              by_cases hh : a0 < x157.2.1 ∧ (mx_lay a0).1 = 15
              · exact hh
              · rw [if_neg hh] at hq; cases hq
            rw [if_pos ho168] at hq
            obtain ⟨x167, hx167, hq⟩ := mx_bS hq
            refine mx_e_cv mx_t_X12_drops ho168 rfl rfl rfl ⟨Nat.le_of_ble_eq_true rfl, Nat.le_of_ble_eq_true rfl, Nat.le_of_ble_eq_true rfl⟩ (Nat.le_of_ble_eq_true rfl) rfl rfl rfl ⟨Nat.zero_le _, Nat.zero_le _⟩ (t_X12_drops hx167) ?_
            refine mx_p_np ?_
            cases hq; exact mx_Ev.weak (mx_le.drop _ (mx_le.drop _ (mx_le.drop _ (mx_le.drop _ (mx_le.nil))))) HJ
        · rw [if_neg hc163] at hq
          refine mx_e_zf (fun z => hc163 (of_decide_eq_true z)) ?_
          refine mx_p_aln rfl ?_
          obtain ⟨x169, hx169, hq⟩ := mx_bS hq
          refine mx_e_gr hx169 rfl ?_
          refine mx_p_bp ?_
          obtain ⟨x170, hx170, hq⟩ := mx_bS hq
          refine mx_e_al hx170 ?_
          refine mx_p_bp ?_
          by_cases hc171 : 12 ≤ x170
          · rw [if_pos hc171] at hq
            refine mx_e_it (decide_eq_true hc171) ?_
            refine mx_p_aln rfl ?_
            obtain ⟨x172, hx172, hq⟩ := mx_bS hq
            refine mx_e_gr hx172 rfl ?_
            refine mx_p_bp ?_
            obtain ⟨x173, hx173, hq⟩ := mx_bS hq
            refine mx_e_al hx173 ?_
            by_cases hc174 : x173 ≤ 0
            · rw [if_pos hc174] at hq
              refine mx_e_zt (decide_eq_true hc174) ?_
              cases hq; exact mx_Ev.weak (mx_le.drop _ (mx_le.drop _ (mx_le.drop _ (mx_le.drop _ (mx_le.nil))))) HJ
            · rw [if_neg hc174] at hq
              refine mx_e_zf (fun z => hc174 (of_decide_eq_true z)) ?_
              refine mx_p_aln rfl ?_
              have ho176 : a0 < x157.2.1 ∧ (mx_lay a0).1 = 15 := by
                by_cases hh : a0 < x157.2.1 ∧ (mx_lay a0).1 = 15
                · exact hh
                · rw [if_neg hh] at hq; cases hq
              rw [if_pos ho176] at hq
              obtain ⟨x175, hx175, hq⟩ := mx_bS hq
              refine mx_e_cv mx_t_X12_drops ho176 rfl rfl rfl ⟨Nat.le_of_ble_eq_true rfl, Nat.le_of_ble_eq_true rfl, Nat.le_of_ble_eq_true rfl⟩ (Nat.le_of_ble_eq_true rfl) rfl rfl rfl ⟨Nat.zero_le _, Nat.zero_le _⟩ (t_X12_drops hx175) ?_
              refine mx_p_np ?_
              cases hq; exact mx_Ev.weak (mx_le.drop _ (mx_le.drop _ (mx_le.drop _ (mx_le.drop _ (mx_le.nil))))) HJ
          · rw [if_neg hc171] at hq
            refine mx_e_if (fun z => hc171 (of_decide_eq_true z)) ?_
            refine mx_p_aln rfl ?_
            refine mx_p_iln rfl ?_
            have ho178 : a0 < x157.2.1 ∧ (mx_lay a0).1 = 15 := by
              by_cases hh : a0 < x157.2.1 ∧ (mx_lay a0).1 = 15
              · exact hh
              · rw [if_neg hh] at hq; cases hq
            rw [if_pos ho178] at hq
            obtain ⟨x177, hx177, hq⟩ := mx_bS hq
            refine mx_e_cv mx_t_X12_says ho178 rfl rfl rfl ⟨Nat.le_of_ble_eq_true rfl, Nat.le_of_ble_eq_true rfl, Nat.le_of_ble_eq_true rfl⟩ (Nat.le_of_ble_eq_true rfl) rfl rfl rfl ⟨Nat.zero_le _, Nat.zero_le _⟩ (t_X12_says hx177) ?_
            refine mx_p_gt ?_
            cases hq; exact mx_Ev.weak (mx_le.drop _ (mx_le.drop _ (mx_le.drop _ (mx_le.drop _ (mx_le.nil))))) HJ
      · rw [if_neg hc160] at hq
        refine mx_e_if (fun z => hc160 (of_decide_eq_true z)) ?_
        refine mx_p_aln rfl ?_
        have ho180 : a0 < x157.2.1 ∧ (mx_lay a0).1 = 15 := by
          by_cases hh : a0 < x157.2.1 ∧ (mx_lay a0).1 = 15
          · exact hh
          · rw [if_neg hh] at hq; cases hq
        rw [if_pos ho180] at hq
        obtain ⟨x179, hx179, hq⟩ := mx_bS hq
        refine mx_e_cv mx_t_X12_mayEnd ho180 rfl rfl rfl ⟨Nat.le_of_ble_eq_true rfl, Nat.le_of_ble_eq_true rfl, Nat.le_of_ble_eq_true rfl⟩ (Nat.le_of_ble_eq_true rfl) rfl rfl rfl ⟨Nat.zero_le _, Nat.zero_le _⟩ (t_X12_mayEnd hx179) ?_
        by_cases hc181 : x179 = 0
        · rw [if_pos hc181] at hq
          refine mx_e_zt (decide_eq_true hc181) ?_
          refine mx_p_aln rfl ?_
          refine mx_p_iln rfl ?_
          have ho183 : a0 < x157.2.1 ∧ (mx_lay a0).1 = 15 := by
            by_cases hh : a0 < x157.2.1 ∧ (mx_lay a0).1 = 15
            · exact hh
            · rw [if_neg hh] at hq; cases hq
          rw [if_pos ho183] at hq
          obtain ⟨x182, hx182, hq⟩ := mx_bS hq
          refine mx_e_cv mx_t_X12_maySay ho183 rfl rfl rfl ⟨Nat.le_of_ble_eq_true rfl, Nat.le_of_ble_eq_true rfl, Nat.le_of_ble_eq_true rfl⟩ (Nat.le_of_ble_eq_true rfl) rfl rfl rfl ⟨Nat.zero_le _, Nat.zero_le _⟩ (t_X12_maySay hx182) ?_
          by_cases hc184 : x182 = 0
          · rw [if_pos hc184] at hq
            refine mx_e_zt (decide_eq_true hc184) ?_
            refine mx_p_aln rfl ?_
            obtain ⟨x185, hx185, hq⟩ := mx_bS hq
            refine mx_e_gr hx185 rfl ?_
            refine mx_p_bp ?_
            obtain ⟨x186, hx186, hq⟩ := mx_bS hq
            refine mx_e_al hx186 ?_
            by_cases hc187 : x186 ≤ 0
            · rw [if_pos hc187] at hq
              refine mx_e_zt (decide_eq_true hc187) ?_
              cases hq; exact mx_Ev.weak (mx_le.drop _ (mx_le.drop _ (mx_le.drop _ (mx_le.drop _ (mx_le.nil))))) HJ
            · rw [if_neg hc187] at hq
              refine mx_e_zf (fun z => hc187 (of_decide_eq_true z)) ?_
              refine mx_p_aln rfl ?_
              have ho189 : a0 < x157.2.1 ∧ (mx_lay a0).1 = 15 := by
                by_cases hh : a0 < x157.2.1 ∧ (mx_lay a0).1 = 15
                · exact hh
                · rw [if_neg hh] at hq; cases hq
              rw [if_pos ho189] at hq
              obtain ⟨x188, hx188, hq⟩ := mx_bS hq
              refine mx_e_cv mx_t_X12_drops ho189 rfl rfl rfl ⟨Nat.le_of_ble_eq_true rfl, Nat.le_of_ble_eq_true rfl, Nat.le_of_ble_eq_true rfl⟩ (Nat.le_of_ble_eq_true rfl) rfl rfl rfl ⟨Nat.zero_le _, Nat.zero_le _⟩ (t_X12_drops hx188) ?_
              refine mx_p_np ?_
              cases hq; exact mx_Ev.weak (mx_le.drop _ (mx_le.drop _ (mx_le.drop _ (mx_le.drop _ (mx_le.nil))))) HJ
          · rw [if_neg hc184] at hq
            refine mx_e_zf (fun z => hc184 (of_decide_eq_true z)) ?_
            refine mx_p_aln rfl ?_
            obtain ⟨x190, hx190, hq⟩ := mx_bS hq
            refine mx_e_gr hx190 rfl ?_
            refine mx_p_bp ?_
            obtain ⟨x191, hx191, hq⟩ := mx_bS hq
            refine mx_e_al hx191 ?_
            refine mx_p_bp ?_
            by_cases hc192 : 12 ≤ x191
            · rw [if_pos hc192] at hq
              refine mx_e_it (decide_eq_true hc192) ?_
              refine mx_p_aln rfl ?_
              obtain ⟨x193, hx193, hq⟩ := mx_bS hq
              refine mx_e_gr hx193 rfl ?_
              refine mx_p_bp ?_
              obtain ⟨x194, hx194, hq⟩ := mx_bS hq
              refine mx_e_al hx194 ?_
              by_cases hc195 : x194 ≤ 0
              · rw [if_pos hc195] at hq
                refine mx_e_zt (decide_eq_true hc195) ?_
                cases hq; exact mx_Ev.weak (mx_le.drop _ (mx_le.drop _ (mx_le.drop _ (mx_le.drop _ (mx_le.nil))))) HJ
              · rw [if_neg hc195] at hq
                refine mx_e_zf (fun z => hc195 (of_decide_eq_true z)) ?_
                refine mx_p_aln rfl ?_
                have ho197 : a0 < x157.2.1 ∧ (mx_lay a0).1 = 15 := by
                  by_cases hh : a0 < x157.2.1 ∧ (mx_lay a0).1 = 15
                  · exact hh
                  · rw [if_neg hh] at hq; cases hq
                rw [if_pos ho197] at hq
                obtain ⟨x196, hx196, hq⟩ := mx_bS hq
                refine mx_e_cv mx_t_X12_drops ho197 rfl rfl rfl ⟨Nat.le_of_ble_eq_true rfl, Nat.le_of_ble_eq_true rfl, Nat.le_of_ble_eq_true rfl⟩ (Nat.le_of_ble_eq_true rfl) rfl rfl rfl ⟨Nat.zero_le _, Nat.zero_le _⟩ (t_X12_drops hx196) ?_
                refine mx_p_np ?_
                cases hq; exact mx_Ev.weak (mx_le.drop _ (mx_le.drop _ (mx_le.drop _ (mx_le.drop _ (mx_le.nil))))) HJ
            · rw [if_neg hc192] at hq
              refine mx_e_if (fun z => hc192 (of_decide_eq_true z)) ?_
              refine mx_p_aln rfl ?_
              refine mx_p_iln rfl ?_
              have ho199 : a0 < x157.2.1 ∧ (mx_lay a0).1 = 15 := by
                by_cases hh : a0 < x157.2.1 ∧ (mx_lay a0).1 = 15
                · exact hh
                · rw [if_neg hh] at hq; cases hq
              rw [if_pos ho199] at hq
              obtain ⟨x198, hx198, hq⟩ := mx_bS hq
              refine mx_e_cv mx_t_X12_says ho199 rfl rfl rfl ⟨Nat.le_of_ble_eq_true rfl, Nat.le_of_ble_eq_true rfl, Nat.le_of_ble_eq_true rfl⟩ (Nat.le_of_ble_eq_true rfl) rfl rfl rfl ⟨Nat.zero_le _, Nat.zero_le _⟩ (t_X12_says hx198) ?_
              refine mx_p_gt ?_
              cases hq; exact mx_Ev.weak (mx_le.drop _ (mx_le.drop _ (mx_le.drop _ (mx_le.drop _ (mx_le.nil))))) HJ
        · rw [if_neg hc181] at hq
          refine mx_e_zf (fun z => hc181 (of_decide_eq_true z)) ?_
          refine mx_p_aln rfl ?_
          refine mx_p_aln rfl ?_
          obtain ⟨x200, hx200, hq⟩ := mx_bS hq
          refine mx_e_gr hx200 rfl ?_
          refine mx_p_bp ?_
          obtain ⟨x201, hx201, hq⟩ := mx_bS hq
          refine mx_e_al hx201 ?_
          refine mx_p_aln rfl ?_
          have ho203 : a0 < x157.2.1 ∧ (mx_lay a0).1 = 15 := by
            by_cases hh : a0 < x157.2.1 ∧ (mx_lay a0).1 = 15
            · exact hh
            · rw [if_neg hh] at hq; cases hq
          rw [if_pos ho203] at hq
          obtain ⟨x202, hx202, hq⟩ := mx_bS hq
          refine mx_e_cv mx_t_X12_worthNow ho203 rfl rfl rfl ⟨Nat.le_of_ble_eq_true rfl, Nat.le_of_ble_eq_true rfl, Nat.le_of_ble_eq_true rfl⟩ (Nat.le_of_ble_eq_true rfl) rfl rfl rfl ⟨Nat.zero_le _, Nat.zero_le _⟩ (t_X12_worthNow hx202) ?_
          have ho205 : a0 < x157.2.1 ∧ (mx_lay a0).1 = 15 := by
            by_cases hh : a0 < x157.2.1 ∧ (mx_lay a0).1 = 15
            · exact hh
            · rw [if_neg hh] at hq; cases hq
          rw [if_pos ho205] at hq
          obtain ⟨x204, hx204, hq⟩ := mx_bS hq
          refine mx_e_cv mx_t_X12_decrees ho205 rfl rfl rfl ⟨Nat.le_of_ble_eq_true rfl, Nat.le_of_ble_eq_true rfl, Nat.le_of_ble_eq_true rfl⟩ (Nat.le_of_ble_eq_true rfl) rfl rfl rfl ⟨Nat.zero_le _, Nat.zero_le _⟩ (t_X12_decrees hx204) ?_
          refine mx_p_gt ?_
          cases hq; exact mx_Ev.weak (mx_le.drop _ (mx_le.drop _ (mx_le.drop _ (mx_le.drop _ (mx_le.nil))))) HJ
    · rw [if_neg hc159] at hq
      refine mx_e_zf (fun z => hc159 (of_decide_eq_true z)) ?_
      refine mx_p_aln rfl ?_
      have ho207 : a0 < x157.2.1 ∧ (mx_lay a0).1 = 15 := by
        by_cases hh : a0 < x157.2.1 ∧ (mx_lay a0).1 = 15
        · exact hh
        · rw [if_neg hh] at hq; cases hq
      rw [if_pos ho207] at hq
      obtain ⟨x206, hx206, hq⟩ := mx_bS hq
      refine mx_e_cv mx_t_X12_ends ho207 rfl rfl rfl ⟨Nat.le_of_ble_eq_true rfl, Nat.le_of_ble_eq_true rfl, Nat.le_of_ble_eq_true rfl⟩ (Nat.le_of_ble_eq_true rfl) rfl rfl rfl ⟨Nat.zero_le _, Nat.zero_le _⟩ (t_X12_ends hx206) ?_
      refine mx_p_pop rfl ?_
      refine mx_p_gt ?_
      cases hq; exact mx_Ev.weak (mx_le.drop _ (mx_le.drop _ (mx_le.drop _ (mx_le.drop _ (mx_le.nil))))) HJ
set_option maxRecDepth 20000 in
set_option maxHeartbeats 1000000 in
theorem e_f_X12_council_L35 (l0 : Nat) (l1 : Int32) (l2 : Int32) (l3 : Int32) (k62 : Int32 × mx_Hp → Option (Int32 × mx_Hp)) (Hk62 : ∀ (s4 : Int32) (hh : mx_Hp) res, k62 (s4, hh) = some res → mx_Ev mx_k_X12_council mx_noS (mx_b_X12_council 62, [some (.ref l0), some (.int l1), some (.int l2), some (.int l3), none, none, none], [], hh, 0, 0) (some (.int res.1), res.2)) : ∀ (n : Nat) (s4 : Int32) (hh : mx_Hp) res, mx_fix (f_X12_council_L35 l0 l1 l2 l3 k62) n (s4, hh) = some res → mx_Ev mx_k_X12_council mx_noS (mx_b_X12_council 35, [some (.ref l0), some (.int l1), some (.int l2), some (.int l3), some (.int s4), none, none], [], hh, 0, 0) (some (.int res.1), res.2) := by
  intro n
  induction n with
  | zero => intro s4 hh res hq; cases hq
  | succ n ih =>
    intro s4 hh res hq
    unfold mx_fix at hq
    generalize mx_fix (f_X12_council_L35 l0 l1 l2 l3 k62) n = S at hq ih
    unfold f_X12_council_L35 at hq
    try dsimp only at hq
    refine mx_p_il rfl ?_
    refine mx_p_bp ?_
    by_cases hc12 : 22 ≤ s4
    · rw [if_pos hc12] at hq
      refine mx_e_it (decide_eq_true hc12) ?_
      have HB := Hk62 s4 hh _ hq
      exact mx_Ev.weak (mx_le.same _ (mx_le.same _ (mx_le.same _ (mx_le.same _ (mx_le.drop _ (mx_le.same _ (mx_le.same _ (mx_le.nil)))))))) HB
    · rw [if_neg hc12] at hq
      refine mx_e_if (fun z => hc12 (of_decide_eq_true z)) ?_
      refine mx_p_aln rfl ?_
      obtain ⟨x13, hx13, hq⟩ := mx_bS hq
      refine mx_e_gr hx13 rfl ?_
      refine mx_p_il rfl ?_
      refine mx_p_aln rfl ?_
      obtain ⟨x14, hx14, hq⟩ := mx_bS hq
      refine mx_e_gr hx14 rfl ?_
      refine mx_p_il rfl ?_
      obtain ⟨x15, hx15, hq⟩ := mx_bS hq
      refine mx_e_al hx15 ?_
      obtain ⟨h16, hh16, hq⟩ := mx_bS hq
      refine mx_e_as hh16 ?_
      refine mx_p_inc (loc' := [some (.ref l0), some (.int l1), some (.int l2), some (.int l3), some (.int (s4 + 1)), none, none]) rfl rfl ?_
      refine mx_p_gt ?_
      have HB := ih (s4 + 1) h16 _ hq
      exact mx_Ev.weak (mx_le.same _ (mx_le.same _ (mx_le.same _ (mx_le.same _ (mx_le.same _ (mx_le.same _ (mx_le.same _ (mx_le.nil)))))))) HB
set_option maxRecDepth 20000 in
set_option maxHeartbeats 1000000 in
theorem e_f_X12_council_L65 (l0 : Nat) (l1 : Int32) (l2 : Int32) (l3 : Int32) (k111 : Int32 × mx_Hp → Option (Int32 × mx_Hp)) (Hk111 : ∀ (s4 : Int32) (hh : mx_Hp) res, k111 (s4, hh) = some res → mx_Ev mx_k_X12_council mx_noS (mx_b_X12_council 111, [some (.ref l0), none, none, some (.int l3), none, none, none], [], hh, 0, 0) (some (.int res.1), res.2)) : ∀ (n : Nat) (s4 : Int32) (hh : mx_Hp) res, mx_fix (f_X12_council_L65 l0 l1 l2 l3 k111) n (s4, hh) = some res → mx_Ev mx_k_X12_council mx_noS (mx_b_X12_council 65, [some (.ref l0), some (.int l1), some (.int l2), some (.int l3), some (.int s4), none, none], [], hh, 0, 0) (some (.int res.1), res.2) := by
  intro n
  induction n with
  | zero => intro s4 hh res hq; cases hq
  | succ n ih =>
    intro s4 hh res hq
    unfold mx_fix at hq
    generalize mx_fix (f_X12_council_L65 l0 l1 l2 l3 k111) n = S at hq ih
    unfold f_X12_council_L65 at hq
    try dsimp only at hq
    refine mx_p_il rfl ?_
    refine mx_p_iln rfl ?_
    by_cases hc23 : l2 ≤ s4
    · rw [if_pos hc23] at hq
      refine mx_e_it (decide_eq_true hc23) ?_
      have HB := Hk111 s4 hh _ hq
      exact mx_Ev.weak (mx_le.same _ (mx_le.drop _ (mx_le.drop _ (mx_le.same _ (mx_le.drop _ (mx_le.same _ (mx_le.same _ (mx_le.nil)))))))) HB
    · rw [if_neg hc23] at hq
      refine mx_e_if (fun z => hc23 (of_decide_eq_true z)) ?_
      refine mx_p_l2 ?_
      refine mx_p_iln rfl ?_
      refine mx_p_i2l ?_
      refine mx_p_lmul ?_
      refine mx_p_l2 ?_
      refine mx_p_il rfl ?_
      refine mx_p_i2l ?_
      refine mx_p_lmul ?_
      refine mx_p_ladd ?_
      refine mx_p_lc ?_
      refine mx_p_ladd ?_
      refine mx_p_ls (loc' := [some (.ref l0), some (.int l1), some (.int l2), some (.int l3), some (.int s4), some (.long ((((7919 : Int32).toInt64 * (l1).toInt64) + ((6151 : Int32).toInt64 * (s4).toInt64)) + (1 : Int32).toInt64)), none]) rfl ?_
      refine mx_p_aln rfl ?_
      refine mx_p_ll rfl ?_
      refine mx_p_ll rfl ?_
      refine mx_p_lmul ?_
      refine mx_p_l2 ?_
      by_cases hc24 : ((65521 : Int32).toInt64 : Int64) = 0
      · rw [if_pos hc24] at hq; cases hq
      rw [if_neg hc24] at hq
      refine mx_e_lrm hc24 ?_
      refine mx_p_l2i ?_
      refine mx_p_ic ?_
      by_cases hc25 : (2 : Int32) = 0
      · rw [if_pos hc25] at hq; cases hq
      rw [if_neg hc25] at hq
      refine mx_e_dv hc25 ?_
      have ho27 : l0 < hh.1 ∧ (mx_lay l0).1 = 15 := by
        by_cases hh : l0 < hh.1 ∧ (mx_lay l0).1 = 15
        · exact hh
        · rw [if_neg hh] at hq; cases hq
      rw [if_pos ho27] at hq
      obtain ⟨x26, hx26, hq⟩ := mx_bS hq
      refine mx_e_cv mx_t_X12_turn ho27 rfl rfl rfl ⟨Nat.le_of_ble_eq_true rfl, Nat.le_of_ble_eq_true rfl, Nat.le_of_ble_eq_true rfl⟩ (Nat.le_of_ble_eq_true rfl) rfl rfl rfl ⟨Nat.zero_le _, Nat.zero_le _⟩ (t_X12_turn hx26) ?_
      refine mx_p_inc (loc' := [some (.ref l0), some (.int l1), some (.int l2), some (.int l3), some (.int (s4 + 1)), some (.long ((((7919 : Int32).toInt64 * (l1).toInt64) + ((6151 : Int32).toInt64 * (s4).toInt64)) + (1 : Int32).toInt64)), none]) rfl rfl ?_
      refine mx_p_gt ?_
      have HB := ih (s4 + 1) x26 _ hq
      exact mx_Ev.weak (mx_le.same _ (mx_le.same _ (mx_le.same _ (mx_le.same _ (mx_le.same _ (mx_le.drop _ (mx_le.same _ (mx_le.nil)))))))) HB
set_option maxRecDepth 20000 in
set_option maxHeartbeats 1000000 in
theorem e_f_X12_council_L172 (l0 : Nat) (l4 : Int32)   : ∀ (n : Nat) (s5 : Int32) (hh : mx_Hp) res, mx_fix (f_X12_council_L172 l0 l4 ) n (s5, hh) = some res → mx_Ev mx_k_X12_council mx_noS (mx_b_X12_council 172, [some (.ref l0), none, none, none, some (.int l4), some (.int s5), none], [], hh, 0, 0) (some (.int res.1), res.2) := by
  intro n
  induction n with
  | zero => intro s5 hh res hq; cases hq
  | succ n ih =>
    intro s5 hh res hq
    unfold mx_fix at hq
    generalize mx_fix (f_X12_council_L172 l0 l4 ) n = S at hq ih
    unfold f_X12_council_L172 at hq
    try dsimp only at hq
    refine mx_p_il rfl ?_
    refine mx_p_bp ?_
    by_cases hc47 : 22 ≤ s5
    · rw [if_pos hc47] at hq
      refine mx_e_it (decide_eq_true hc47) ?_
      refine mx_p_il rfl ?_
      cases hq; exact mx_e_ri rfl
    · rw [if_neg hc47] at hq
      refine mx_e_if (fun z => hc47 (of_decide_eq_true z)) ?_
      refine mx_p_aln rfl ?_
      obtain ⟨x48, hx48, hq⟩ := mx_bS hq
      refine mx_e_gr hx48 rfl ?_
      refine mx_p_il rfl ?_
      refine mx_p_aln rfl ?_
      obtain ⟨x49, hx49, hq⟩ := mx_bS hq
      refine mx_e_gr hx49 rfl ?_
      refine mx_p_il rfl ?_
      obtain ⟨x50, hx50, hq⟩ := mx_bS hq
      refine mx_e_al hx50 ?_
      obtain ⟨h51, hh51, hq⟩ := mx_bS hq
      refine mx_e_as hh51 ?_
      refine mx_p_inc (loc' := [some (.ref l0), none, none, none, some (.int l4), some (.int (s5 + 1)), none]) rfl rfl ?_
      refine mx_p_gt ?_
      have HB := ih (s5 + 1) h51 _ hq
      exact mx_Ev.weak (mx_le.same _ (mx_le.same _ (mx_le.same _ (mx_le.same _ (mx_le.same _ (mx_le.same _ (mx_le.same _ (mx_le.nil)))))))) HB
set_option maxRecDepth 20000 in
set_option maxHeartbeats 1000000 in
theorem t_X12_council {a0 : Nat} {a1 : Int32} {a2 : Int32} {a3 : Int32} {h : mx_Hp} {res} (hq : f_X12_council a0 a1 a2 a3 h = some res) : mx_Ms mx_k_X12_council [.ref a0, .int a1, .int a2, .int a3] h (some (.int res.1), res.2) := by
  unfold f_X12_council at hq
  show mx_Ev mx_k_X12_council mx_noS (mx_b_X12_council 0, [some (.ref a0), some (.int a1), some (.int a2), some (.int a3), none, none, none], [], h, 0, 0) _
  refine mx_p_iln rfl ?_
  refine mx_p_ic ?_
  refine mx_p_sp ?_
  obtain ⟨x52, hx52, hq⟩ := mx_bS hq
  refine mx_e_cs mx_t_X12_in rfl rfl rfl ⟨Nat.le_of_ble_eq_true rfl, Nat.le_of_ble_eq_true rfl, Nat.le_of_ble_eq_true rfl⟩ (Nat.le_of_ble_eq_true rfl) rfl rfl ⟨Nat.zero_le _, Nat.zero_le _⟩ (t_X12_in hx52) ?_
  by_cases hc53 : x52 = 0
  · rw [if_pos hc53] at hq
    refine mx_e_zt (decide_eq_true hc53) ?_
    refine mx_p_ic ?_
    cases hq; exact mx_e_ri rfl
  · rw [if_neg hc53] at hq
    refine mx_e_zf (fun z => hc53 (of_decide_eq_true z)) ?_
    refine mx_p_iln rfl ?_
    refine mx_p_ic ?_
    refine mx_p_bp ?_
    obtain ⟨x54, hx54, hq⟩ := mx_bS hq
    refine mx_e_cs mx_t_X12_in rfl rfl rfl ⟨Nat.le_of_ble_eq_true rfl, Nat.le_of_ble_eq_true rfl, Nat.le_of_ble_eq_true rfl⟩ (Nat.le_of_ble_eq_true rfl) rfl rfl ⟨Nat.zero_le _, Nat.zero_le _⟩ (t_X12_in hx54) ?_
    by_cases hc55 : x54 = 0
    · rw [if_pos hc55] at hq
      refine mx_e_zt (decide_eq_true hc55) ?_
      refine mx_p_ic ?_
      cases hq; exact mx_e_ri rfl
    · rw [if_neg hc55] at hq
      refine mx_e_zf (fun z => hc55 (of_decide_eq_true z)) ?_
      refine mx_p_iln rfl ?_
      refine mx_p_ic ?_
      refine mx_p_ic ?_
      obtain ⟨x56, hx56, hq⟩ := mx_bS hq
      refine mx_e_cs mx_t_X12_in rfl rfl rfl ⟨Nat.le_of_ble_eq_true rfl, Nat.le_of_ble_eq_true rfl, Nat.le_of_ble_eq_true rfl⟩ (Nat.le_of_ble_eq_true rfl) rfl rfl ⟨Nat.zero_le _, Nat.zero_le _⟩ (t_X12_in hx56) ?_
      by_cases hc57 : ¬ x56 = 0
      · rw [if_pos hc57] at hq
        refine mx_e_zt (decide_eq_true hc57) ?_
        refine mx_p_ic ?_
        refine mx_p_is (loc' := [some (.ref a0), some (.int a1), some (.int a2), some (.int a3), some (.int 0), none, none]) rfl ?_
        refine mx_p_np ?_
        refine mx_Ev.weak (mx_le.same _ (mx_le.same _ (mx_le.same _ (mx_le.same _ (mx_le.same _ (mx_le.same _ (mx_le.same _ (mx_le.nil)))))))) (e_f_X12_council_L35 _ _ _ _ _ ?_ _ _ _ _ hq)
        · intro c58 c59 res hq
          try dsimp only at hq
          refine mx_p_ic ?_
          refine mx_p_is (loc' := [some (.ref a0), some (.int a1), some (.int a2), some (.int a3), some (.int 0), none, none]) rfl ?_
          refine mx_p_np ?_
          refine mx_Ev.weak (mx_le.same _ (mx_le.same _ (mx_le.same _ (mx_le.same _ (mx_le.same _ (mx_le.same _ (mx_le.same _ (mx_le.nil)))))))) (e_f_X12_council_L65 _ _ _ _ _ ?_ _ _ _ _ hq)
          · intro c60 c61 res hq
            try dsimp only at hq
            refine mx_p_iln rfl ?_
            obtain ⟨v74, hE, hK⟩ := mx_bS hq
            have HJ : mx_Ev mx_k_X12_council mx_noS (mx_b_X12_council 167, [some (.ref a0), none, none, none, none, none, none], [.int v74], c61, 0, 0) (some (.int res.1), res.2) := by
              replace hq := hK
              refine mx_p_is (loc' := [some (.ref a0), none, none, none, some (.int v74), none, none]) rfl ?_
              refine mx_p_ic ?_
              refine mx_p_is (loc' := [some (.ref a0), none, none, none, some (.int v74), some (.int 0), none]) rfl ?_
              refine mx_p_np ?_
              refine mx_Ev.weak (mx_le.same _ (mx_le.same _ (mx_le.same _ (mx_le.same _ (mx_le.same _ (mx_le.same _ (mx_le.same _ (mx_le.nil)))))))) (e_f_X12_council_L172 _ _  _ _ _ _ hq)
            clear hK
            replace hq := hE
            by_cases hc62 : ¬ a3 = 0
            · rw [if_pos hc62] at hq
              refine mx_e_zt (decide_eq_true hc62) ?_
              refine mx_p_iln rfl ?_
              refine mx_p_ic ?_
              by_cases hc63 : ¬ a3 = 1
              · rw [if_pos hc63] at hq
                refine mx_e_it (decide_eq_true hc63) ?_
                refine mx_p_sp ?_
                refine mx_p_aln rfl ?_
                obtain ⟨x64, hx64, hq⟩ := mx_bS hq
                refine mx_e_gr hx64 rfl ?_
                refine mx_p_bp ?_
                obtain ⟨x65, hx65, hq⟩ := mx_bS hq
                refine mx_e_al hx65 ?_
                refine mx_p_iadd ?_
                refine mx_p_aln rfl ?_
                obtain ⟨x66, hx66, hq⟩ := mx_bS hq
                refine mx_e_gr hx66 rfl ?_
                refine mx_p_bp ?_
                obtain ⟨x67, hx67, hq⟩ := mx_bS hq
                refine mx_e_al hx67 ?_
                refine mx_p_isub ?_
                refine mx_p_np ?_
                cases hq; exact mx_Ev.weak (mx_le.same _ (mx_le.same _ (mx_le.same _ (mx_le.drop _ (mx_le.same _ (mx_le.same _ (mx_le.same _ (mx_le.nil)))))))) HJ
              · rw [if_neg hc63] at hq
                refine mx_e_if (fun z => hc63 (of_decide_eq_true z)) ?_
                refine mx_p_aln rfl ?_
                obtain ⟨x68, hx68, hq⟩ := mx_bS hq
                refine mx_e_gr hx68 rfl ?_
                refine mx_p_bp ?_
                obtain ⟨x69, hx69, hq⟩ := mx_bS hq
                refine mx_e_al hx69 ?_
                refine mx_p_aln rfl ?_
                obtain ⟨x70, hx70, hq⟩ := mx_bS hq
                refine mx_e_gr hx70 rfl ?_
                refine mx_p_bp ?_
                obtain ⟨x71, hx71, hq⟩ := mx_bS hq
                refine mx_e_al hx71 ?_
                refine mx_p_iadd ?_
                refine mx_p_gt ?_
                cases hq; exact mx_Ev.weak (mx_le.same _ (mx_le.same _ (mx_le.same _ (mx_le.drop _ (mx_le.same _ (mx_le.same _ (mx_le.same _ (mx_le.nil)))))))) HJ
            · rw [if_neg hc62] at hq
              refine mx_e_zf (fun z => hc62 (of_decide_eq_true z)) ?_
              refine mx_p_aln rfl ?_
              obtain ⟨x72, hx72, hq⟩ := mx_bS hq
              refine mx_e_gr hx72 rfl ?_
              refine mx_p_bp ?_
              obtain ⟨x73, hx73, hq⟩ := mx_bS hq
              refine mx_e_al hx73 ?_
              refine mx_p_gt ?_
              cases hq; exact mx_Ev.weak (mx_le.same _ (mx_le.same _ (mx_le.same _ (mx_le.drop _ (mx_le.same _ (mx_le.same _ (mx_le.same _ (mx_le.nil)))))))) HJ
      · rw [if_neg hc57] at hq
        refine mx_e_zf (fun z => hc57 (of_decide_eq_true z)) ?_
        refine mx_p_np ?_
        refine mx_p_ic ?_
        cases hq; exact mx_e_ri rfl
set_option maxRecDepth 20000 in
set_option maxHeartbeats 1000000 in
theorem e_f_X12_keep_L13 (l0 : Nat) (k45 : Int32 × mx_Hp → Option (Int32 × mx_Hp)) (Hk45 : ∀ (s1 : Int32) (hh : mx_Hp) res, k45 (s1, hh) = some res → mx_Ev mx_k_X12_keep mx_noS (mx_b_X12_keep 45, [some (.ref l0), none], [], hh, 0, 0) (some (.int res.1), res.2)) : ∀ (n : Nat) (s1 : Int32) (hh : mx_Hp) res, mx_fix (f_X12_keep_L13 l0 k45) n (s1, hh) = some res → mx_Ev mx_k_X12_keep mx_noS (mx_b_X12_keep 13, [some (.ref l0), some (.int s1)], [], hh, 0, 0) (some (.int res.1), res.2) := by
  intro n
  induction n with
  | zero => intro s1 hh res hq; cases hq
  | succ n ih =>
    intro s1 hh res hq
    unfold mx_fix at hq
    generalize mx_fix (f_X12_keep_L13 l0 k45) n = S at hq ih
    unfold f_X12_keep_L13 at hq
    try dsimp only at hq
    refine mx_p_iln rfl ?_
    refine mx_p_bp ?_
    by_cases hc9 : 22 ≤ s1
    · rw [if_pos hc9] at hq
      refine mx_e_it (decide_eq_true hc9) ?_
      have HB := Hk45 s1 hh _ hq
      exact mx_Ev.weak (mx_le.same _ (mx_le.drop _ (mx_le.nil))) HB
    · rw [if_neg hc9] at hq
      refine mx_e_if (fun z => hc9 (of_decide_eq_true z)) ?_
      refine mx_p_aln rfl ?_
      obtain ⟨x10, hx10, hq⟩ := mx_bS hq
      refine mx_e_gr hx10 rfl ?_
      refine mx_p_bp ?_
      refine mx_p_aln rfl ?_
      obtain ⟨x11, hx11, hq⟩ := mx_bS hq
      refine mx_e_gi hx11 (by decide) ?_
      refine mx_p_imul ?_
      refine mx_p_iln rfl ?_
      refine mx_p_iadd ?_
      refine mx_p_aln rfl ?_
      obtain ⟨x12, hx12, hq⟩ := mx_bS hq
      refine mx_e_gr hx12 rfl ?_
      refine mx_p_iln rfl ?_
      obtain ⟨x13, hx13, hq⟩ := mx_bS hq
      refine mx_e_al hx13 ?_
      obtain ⟨h14, hh14, hq⟩ := mx_bS hq
      refine mx_e_as hh14 ?_
      refine mx_p_inc (loc' := [some (.ref l0), some (.int (s1 + 1))]) rfl rfl ?_
      refine mx_p_gt ?_
      have HB := ih (s1 + 1) h14 _ hq
      exact mx_Ev.weak (mx_le.same _ (mx_le.same _ (mx_le.nil))) HB
set_option maxRecDepth 20000 in
set_option maxHeartbeats 1000000 in
theorem t_X12_keep {a0 : Nat} {h : mx_Hp} {res} (hq : f_X12_keep a0 h = some res) : mx_Ms mx_k_X12_keep [.ref a0] h (some (.int res.1), res.2) := by
  unfold f_X12_keep at hq
  show mx_Ev mx_k_X12_keep mx_noS (mx_b_X12_keep 0, [some (.ref a0), none], [], h, 0, 0) _
  refine mx_p_aln rfl ?_
  obtain ⟨x19, hx19, hq⟩ := mx_bS hq
  refine mx_e_gi hx19 (by decide) ?_
  refine mx_p_ic ?_
  by_cases hc20 : ¬ x19 = 2
  · rw [if_pos hc20] at hq
    refine mx_e_it (decide_eq_true hc20) ?_
    refine mx_p_ic ?_
    refine mx_p_isn (loc' := [some (.ref a0), some (.int 0)]) rfl ?_
    refine mx_p_np ?_
    refine mx_Ev.weak (mx_le.same _ (mx_le.same _ (mx_le.nil))) (e_f_X12_keep_L13 _ _ ?_ _ _ _ _ hq)
    · intro c21 c22 res hq
      try dsimp only at hq
      refine mx_p_aln rfl ?_
      refine mx_p_dup rfl ?_
      obtain ⟨x23, hx23, hq⟩ := mx_bS hq
      refine mx_e_gi hx23 (by decide) ?_
      refine mx_p_ic ?_
      refine mx_p_iadd ?_
      obtain ⟨h24, hh24, hq⟩ := mx_bS hq
      refine mx_e_pi hh24 ?_
      refine mx_p_aln rfl ?_
      obtain ⟨x25, hx25, hq⟩ := mx_bS hq
      refine mx_e_gi hx25 (by decide) ?_
      cases hq; exact mx_e_ri rfl
  · rw [if_neg hc20] at hq
    refine mx_e_if (fun z => hc20 (of_decide_eq_true z)) ?_
    refine mx_p_bp ?_
    cases hq; exact mx_e_ri rfl
set_option maxRecDepth 20000 in
set_option maxHeartbeats 1000000 in
theorem e_f_X12_back_L22 (l0 : Nat)   : ∀ (n : Nat) (s1 : Int32) (hh : mx_Hp) res, mx_fix (f_X12_back_L22 l0 ) n (s1, hh) = some res → mx_Ev mx_k_X12_back mx_noS (mx_b_X12_back 22, [some (.ref l0), some (.int s1)], [], hh, 0, 0) (some (.int res.1), res.2) := by
  intro n
  induction n with
  | zero => intro s1 hh res hq; cases hq
  | succ n ih =>
    intro s1 hh res hq
    unfold mx_fix at hq
    generalize mx_fix (f_X12_back_L22 l0 ) n = S at hq ih
    unfold f_X12_back_L22 at hq
    try dsimp only at hq
    refine mx_p_iln rfl ?_
    refine mx_p_bp ?_
    by_cases hc13 : 22 ≤ s1
    · rw [if_pos hc13] at hq
      refine mx_e_it (decide_eq_true hc13) ?_
      refine mx_p_aln rfl ?_
      refine mx_p_ic ?_
      obtain ⟨h14, hh14, hq⟩ := mx_bS hq
      refine mx_e_pi hh14 ?_
      refine mx_p_aln rfl ?_
      obtain ⟨x15, hx15, hq⟩ := mx_bS hq
      refine mx_e_gi hx15 (by decide) ?_
      cases hq; exact mx_e_ri rfl
    · rw [if_neg hc13] at hq
      refine mx_e_if (fun z => hc13 (of_decide_eq_true z)) ?_
      refine mx_p_aln rfl ?_
      obtain ⟨x16, hx16, hq⟩ := mx_bS hq
      refine mx_e_gr hx16 rfl ?_
      refine mx_p_iln rfl ?_
      refine mx_p_aln rfl ?_
      obtain ⟨x17, hx17, hq⟩ := mx_bS hq
      refine mx_e_gr hx17 rfl ?_
      refine mx_p_bp ?_
      refine mx_p_aln rfl ?_
      obtain ⟨x18, hx18, hq⟩ := mx_bS hq
      refine mx_e_gi hx18 (by decide) ?_
      refine mx_p_imul ?_
      refine mx_p_iln rfl ?_
      refine mx_p_iadd ?_
      obtain ⟨x19, hx19, hq⟩ := mx_bS hq
      refine mx_e_al hx19 ?_
      obtain ⟨h20, hh20, hq⟩ := mx_bS hq
      refine mx_e_as hh20 ?_
      refine mx_p_inc (loc' := [some (.ref l0), some (.int (s1 + 1))]) rfl rfl ?_
      refine mx_p_gt ?_
      have HB := ih (s1 + 1) h20 _ hq
      exact mx_Ev.weak (mx_le.same _ (mx_le.same _ (mx_le.nil))) HB
set_option maxRecDepth 20000 in
set_option maxHeartbeats 1000000 in
theorem t_X12_back {a0 : Nat} {h : mx_Hp} {res} (hq : f_X12_back a0 h = some res) : mx_Ms mx_k_X12_back [.ref a0] h (some (.int res.1), res.2) := by
  unfold f_X12_back at hq
  show mx_Ev mx_k_X12_back mx_noS (mx_b_X12_back 0, [some (.ref a0), none], [], h, 0, 0) _
  refine mx_p_aln rfl ?_
  obtain ⟨x21, hx21, hq⟩ := mx_bS hq
  refine mx_e_gi hx21 (by decide) ?_
  by_cases hc22 : ¬ x21 = 0
  · rw [if_pos hc22] at hq
    refine mx_e_zt (decide_eq_true hc22) ?_
    refine mx_p_aln rfl ?_
    refine mx_p_dup rfl ?_
    obtain ⟨x23, hx23, hq⟩ := mx_bS hq
    refine mx_e_gi hx23 (by decide) ?_
    refine mx_p_ic ?_
    refine mx_p_isub ?_
    obtain ⟨h24, hh24, hq⟩ := mx_bS hq
    refine mx_e_pi hh24 ?_
    refine mx_p_ic ?_
    refine mx_p_isn (loc' := [some (.ref a0), some (.int 0)]) rfl ?_
    refine mx_p_np ?_
    refine mx_Ev.weak (mx_le.same _ (mx_le.same _ (mx_le.nil))) (e_f_X12_back_L22 _  _ _ _ _ hq)
  · rw [if_neg hc22] at hq
    refine mx_e_zf (fun z => hc22 (of_decide_eq_true z)) ?_
    refine mx_p_bp ?_
    cases hq; exact mx_e_ri rfl
set_option maxRecDepth 20000 in
set_option maxHeartbeats 1000000 in
theorem t_X12_count {a0 : Nat} {a1 : Int32} {h : mx_Hp} {res} (hq : f_X12_count a0 a1 h = some res) : mx_Ms mx_k_X12_count [.ref a0, .int a1] h (some (.int res), h) := by
  unfold f_X12_count at hq
  show mx_Ev mx_k_X12_count mx_noS (mx_b_X12_count 0, [some (.ref a0), some (.int a1)], [], h, 0, 0) _
  refine mx_p_iln rfl ?_
  by_cases hw29 : a1 = 0
  · rw [if_pos hw29] at hq
    refine mx_e_sw (mx_sw_t hw29) ?_
    refine mx_p_aln rfl ?_
    obtain ⟨x30, hx30, hq⟩ := mx_bS hq
    refine mx_e_gr hx30 rfl ?_
    refine mx_p_ic ?_
    obtain ⟨x31, hx31, hq⟩ := mx_bS hq
    refine mx_e_al hx31 ?_
    cases hq; exact mx_e_ri rfl
  rw [if_neg hw29] at hq
  by_cases hw32 : a1 = 1
  · rw [if_pos hw32] at hq
    refine mx_e_sw (mx_sw_f hw29 (mx_sw_t hw32)) ?_
    refine mx_p_aln rfl ?_
    obtain ⟨x33, hx33, hq⟩ := mx_bS hq
    refine mx_e_gr hx33 rfl ?_
    refine mx_p_bp ?_
    obtain ⟨x34, hx34, hq⟩ := mx_bS hq
    refine mx_e_al hx34 ?_
    cases hq; exact mx_e_ri rfl
  rw [if_neg hw32] at hq
  by_cases hw35 : a1 = 2
  · rw [if_pos hw35] at hq
    refine mx_e_sw (mx_sw_f hw29 (mx_sw_f hw32 (mx_sw_t hw35))) ?_
    refine mx_p_aln rfl ?_
    obtain ⟨x36, hx36, hq⟩ := mx_bS hq
    refine mx_e_gr hx36 rfl ?_
    refine mx_p_bp ?_
    obtain ⟨x37, hx37, hq⟩ := mx_bS hq
    refine mx_e_al hx37 ?_
    cases hq; exact mx_e_ri rfl
  rw [if_neg hw35] at hq
  by_cases hw38 : a1 = 3
  · rw [if_pos hw38] at hq
    refine mx_e_sw (mx_sw_f hw29 (mx_sw_f hw32 (mx_sw_f hw35 (mx_sw_t hw38)))) ?_
    refine mx_p_aln rfl ?_
    obtain ⟨x39, hx39, hq⟩ := mx_bS hq
    refine mx_e_gr hx39 rfl ?_
    refine mx_p_bp ?_
    obtain ⟨x40, hx40, hq⟩ := mx_bS hq
    refine mx_e_al hx40 ?_
    refine mx_p_aln rfl ?_
    obtain ⟨x41, hx41, hq⟩ := mx_bS hq
    refine mx_e_gr hx41 rfl ?_
    refine mx_p_bp ?_
    obtain ⟨x42, hx42, hq⟩ := mx_bS hq
    refine mx_e_al hx42 ?_
    refine mx_p_iadd ?_
    cases hq; exact mx_e_ri rfl
  rw [if_neg hw38] at hq
  by_cases hw43 : a1 = 4
  · rw [if_pos hw43] at hq
    refine mx_e_sw (mx_sw_f hw29 (mx_sw_f hw32 (mx_sw_f hw35 (mx_sw_f hw38 (mx_sw_t hw43))))) ?_
    refine mx_p_aln rfl ?_
    obtain ⟨x44, hx44, hq⟩ := mx_bS hq
    refine mx_e_gr hx44 rfl ?_
    refine mx_p_bp ?_
    obtain ⟨x45, hx45, hq⟩ := mx_bS hq
    refine mx_e_al hx45 ?_
    cases hq; exact mx_e_ri rfl
  rw [if_neg hw43] at hq
  by_cases hw46 : a1 = 5
  · rw [if_pos hw46] at hq
    refine mx_e_sw (mx_sw_f hw29 (mx_sw_f hw32 (mx_sw_f hw35 (mx_sw_f hw38 (mx_sw_f hw43 (mx_sw_t hw46)))))) ?_
    refine mx_p_aln rfl ?_
    obtain ⟨x47, hx47, hq⟩ := mx_bS hq
    refine mx_e_gr hx47 rfl ?_
    refine mx_p_ic ?_
    obtain ⟨x48, hx48, hq⟩ := mx_bS hq
    refine mx_e_al hx48 ?_
    cases hq; exact mx_e_ri rfl
  rw [if_neg hw46] at hq
  by_cases hw49 : a1 = 6
  · rw [if_pos hw49] at hq
    refine mx_e_sw (mx_sw_f hw29 (mx_sw_f hw32 (mx_sw_f hw35 (mx_sw_f hw38 (mx_sw_f hw43 (mx_sw_f hw46 (mx_sw_t hw49))))))) ?_
    refine mx_p_aln rfl ?_
    obtain ⟨x50, hx50, hq⟩ := mx_bS hq
    refine mx_e_gi hx50 (by decide) ?_
    cases hq; exact mx_e_ri rfl
  rw [if_neg hw49] at hq
  by_cases hw51 : a1 = 7
  · rw [if_pos hw51] at hq
    refine mx_e_sw (mx_sw_f hw29 (mx_sw_f hw32 (mx_sw_f hw35 (mx_sw_f hw38 (mx_sw_f hw43 (mx_sw_f hw46 (mx_sw_f hw49 (mx_sw_t hw51)))))))) ?_
    refine mx_p_aln rfl ?_
    obtain ⟨x52, hx52, hq⟩ := mx_bS hq
    refine mx_e_gi hx52 (by decide) ?_
    cases hq; exact mx_e_ri rfl
  rw [if_neg hw51] at hq
  by_cases hw53 : a1 = 8
  · rw [if_pos hw53] at hq
    refine mx_e_sw (mx_sw_f hw29 (mx_sw_f hw32 (mx_sw_f hw35 (mx_sw_f hw38 (mx_sw_f hw43 (mx_sw_f hw46 (mx_sw_f hw49 (mx_sw_f hw51 (mx_sw_t hw53))))))))) ?_
    refine mx_p_aln rfl ?_
    obtain ⟨x54, hx54, hq⟩ := mx_bS hq
    refine mx_e_gi hx54 (by decide) ?_
    cases hq; exact mx_e_ri rfl
  rw [if_neg hw53] at hq
  by_cases hw55 : a1 = 9
  · rw [if_pos hw55] at hq
    refine mx_e_sw (mx_sw_f hw29 (mx_sw_f hw32 (mx_sw_f hw35 (mx_sw_f hw38 (mx_sw_f hw43 (mx_sw_f hw46 (mx_sw_f hw49 (mx_sw_f hw51 (mx_sw_f hw53 (mx_sw_t hw55)))))))))) ?_
    refine mx_p_aln rfl ?_
    obtain ⟨x56, hx56, hq⟩ := mx_bS hq
    refine mx_e_gi hx56 (by decide) ?_
    cases hq; exact mx_e_ri rfl
  rw [if_neg hw55] at hq
  refine mx_e_sw (mx_sw_f hw29 (mx_sw_f hw32 (mx_sw_f hw35 (mx_sw_f hw38 (mx_sw_f hw43 (mx_sw_f hw46 (mx_sw_f hw49 (mx_sw_f hw51 (mx_sw_f hw53 (mx_sw_f hw55 rfl)))))))))) ?_
  refine mx_p_ic ?_
  cases hq; exact mx_e_ri rfl
