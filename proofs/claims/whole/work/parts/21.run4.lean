/-! their runs come to them: by wip/gen/dec.py -/
set_option maxRecDepth 20000 in
set_option maxHeartbeats 1000000 in
theorem e_f_X12_lays_L2 (l0 : Nat) (k26 : Int32 × mx_Hp → Option (mx_Hp)) (Hk26 : ∀ (s1 : Int32) (hh : mx_Hp) res, k26 (s1, hh) = some res → mx_Ev mx_k_X12_lays mx_noS (mx_b_X12_lays 26, [some (.ref l0), none], [], hh, 0, 0) (none, res)) : ∀ (n : Nat) (s1 : Int32) (hh : mx_Hp) res, mx_fix (f_X12_lays_L2 l0 k26) n (s1, hh) = some res → mx_Ev mx_k_X12_lays mx_noS (mx_b_X12_lays 2, [some (.ref l0), some (.int s1)], [], hh, 0, 0) (none, res) := by
  intro n
  induction n with
  | zero => intro s1 hh res hq; cases hq
  | succ n ih =>
    intro s1 hh res hq
    unfold mx_fix at hq
    generalize mx_fix (f_X12_lays_L2 l0 k26) n = S at hq ih
    unfold f_X12_lays_L2 at hq
    try dsimp only at hq
    refine mx_p_iln rfl ?_
    refine mx_p_bp ?_
    by_cases hc6 : 35 ≤ s1
    · rw [if_pos hc6] at hq
      refine mx_e_it (decide_eq_true hc6) ?_
      have HB := Hk26 s1 hh _ hq
      exact mx_Ev.weak (mx_le.same _ (mx_le.drop _ (mx_le.nil))) HB
    · rw [if_neg hc6] at hq
      refine mx_e_if (fun z => hc6 (of_decide_eq_true z)) ?_
      refine mx_p_aln rfl ?_
      obtain ⟨x7, hx7, hq⟩ := mx_bS hq
      refine mx_e_gr hx7 rfl ?_
      refine mx_p_iln rfl ?_
      refine mx_p_aln rfl ?_
      obtain ⟨x8, hx8, hq⟩ := mx_bS hq
      refine mx_e_gr hx8 rfl ?_
      refine mx_p_iln rfl ?_
      obtain ⟨x9, hx9, hq⟩ := mx_bS hq
      refine mx_e_al hx9 ?_
      obtain ⟨h10, hh10, hq⟩ := mx_bS hq
      refine mx_e_as hh10 ?_
      refine mx_p_inc (loc' := [some (.ref l0), some (.int (s1 + 1))]) rfl rfl ?_
      refine mx_p_gt ?_
      have HB := ih (s1 + 1) h10 _ hq
      exact mx_Ev.weak (mx_le.same _ (mx_le.same _ (mx_le.nil))) HB
set_option maxRecDepth 20000 in
set_option maxHeartbeats 1000000 in
theorem e_f_X12_lays_L28 (l0 : Nat) (k47 : Int32 × mx_Hp → Option (mx_Hp)) (Hk47 : ∀ (s1 : Int32) (hh : mx_Hp) res, k47 (s1, hh) = some res → mx_Ev mx_k_X12_lays mx_noS (mx_b_X12_lays 47, [some (.ref l0), none], [], hh, 0, 0) (none, res)) : ∀ (n : Nat) (s1 : Int32) (hh : mx_Hp) res, mx_fix (f_X12_lays_L28 l0 k47) n (s1, hh) = some res → mx_Ev mx_k_X12_lays mx_noS (mx_b_X12_lays 28, [some (.ref l0), some (.int s1)], [], hh, 0, 0) (none, res) := by
  intro n
  induction n with
  | zero => intro s1 hh res hq; cases hq
  | succ n ih =>
    intro s1 hh res hq
    unfold mx_fix at hq
    generalize mx_fix (f_X12_lays_L28 l0 k47) n = S at hq ih
    unfold f_X12_lays_L28 at hq
    try dsimp only at hq
    refine mx_p_iln rfl ?_
    refine mx_p_bp ?_
    by_cases hc15 : 22 ≤ s1
    · rw [if_pos hc15] at hq
      refine mx_e_it (decide_eq_true hc15) ?_
      have HB := Hk47 s1 hh _ hq
      exact mx_Ev.weak (mx_le.same _ (mx_le.drop _ (mx_le.nil))) HB
    · rw [if_neg hc15] at hq
      refine mx_e_if (fun z => hc15 (of_decide_eq_true z)) ?_
      refine mx_p_aln rfl ?_
      obtain ⟨x16, hx16, hq⟩ := mx_bS hq
      refine mx_e_gr hx16 rfl ?_
      refine mx_p_iln rfl ?_
      refine mx_p_ic ?_
      obtain ⟨h17, hh17, hq⟩ := mx_bS hq
      refine mx_e_as hh17 ?_
      refine mx_p_inc (loc' := [some (.ref l0), some (.int (s1 + 1))]) rfl rfl ?_
      refine mx_p_gt ?_
      have HB := ih (s1 + 1) h17 _ hq
      exact mx_Ev.weak (mx_le.same _ (mx_le.same _ (mx_le.nil))) HB
set_option maxRecDepth 20000 in
set_option maxHeartbeats 1000000 in
theorem t_X12_lays {a0 : Nat} {h : mx_Hp} {res} (hq : f_X12_lays a0 h = some res) : mx_Ms mx_k_X12_lays [.ref a0] h (none, res) := by
  unfold f_X12_lays at hq
  show mx_Ev mx_k_X12_lays mx_noS (mx_b_X12_lays 0, [some (.ref a0), none], [], h, 0, 0) _
  refine mx_p_ic ?_
  refine mx_p_isn (loc' := [some (.ref a0), some (.int 0)]) rfl ?_
  refine mx_p_np ?_
  refine mx_Ev.weak (mx_le.same _ (mx_le.same _ (mx_le.nil))) (e_f_X12_lays_L2 _ _ ?_ _ _ _ _ hq)
  · intro c34 c35 res hq
    try dsimp only at hq
    refine mx_p_ic ?_
    refine mx_p_isn (loc' := [some (.ref a0), some (.int 0)]) rfl ?_
    refine mx_p_np ?_
    refine mx_Ev.weak (mx_le.same _ (mx_le.same _ (mx_le.nil))) (e_f_X12_lays_L28 _ _ ?_ _ _ _ _ hq)
    · intro c36 c37 res hq
      try dsimp only at hq
      refine mx_p_aln rfl ?_
      obtain ⟨x38, hx38, hq⟩ := mx_bS hq
      refine mx_e_gr hx38 rfl ?_
      refine mx_p_bp ?_
      refine mx_p_aln rfl ?_
      obtain ⟨x39, hx39, hq⟩ := mx_bS hq
      refine mx_e_gr hx39 rfl ?_
      refine mx_p_ic ?_
      obtain ⟨x40, hx40, hq⟩ := mx_bS hq
      refine mx_e_al hx40 ?_
      obtain ⟨h41, hh41, hq⟩ := mx_bS hq
      refine mx_e_as hh41 ?_
      refine mx_p_aln rfl ?_
      obtain ⟨x42, hx42, hq⟩ := mx_bS hq
      refine mx_e_gr hx42 rfl ?_
      refine mx_p_bp ?_
      refine mx_p_aln rfl ?_
      obtain ⟨x43, hx43, hq⟩ := mx_bS hq
      refine mx_e_gr hx43 rfl ?_
      refine mx_p_bp ?_
      obtain ⟨x44, hx44, hq⟩ := mx_bS hq
      refine mx_e_al hx44 ?_
      obtain ⟨h45, hh45, hq⟩ := mx_bS hq
      refine mx_e_as hh45 ?_
      refine mx_p_aln rfl ?_
      obtain ⟨x46, hx46, hq⟩ := mx_bS hq
      refine mx_e_gr hx46 rfl ?_
      refine mx_p_bp ?_
      refine mx_p_aln rfl ?_
      obtain ⟨x47, hx47, hq⟩ := mx_bS hq
      refine mx_e_gr hx47 rfl ?_
      refine mx_p_bp ?_
      obtain ⟨x48, hx48, hq⟩ := mx_bS hq
      refine mx_e_al hx48 ?_
      obtain ⟨h49, hh49, hq⟩ := mx_bS hq
      refine mx_e_as hh49 ?_
      refine mx_p_aln rfl ?_
      refine mx_p_ic ?_
      obtain ⟨h50, hh50, hq⟩ := mx_bS hq
      refine mx_e_pi hh50 ?_
      refine mx_p_aln rfl ?_
      refine mx_p_ic ?_
      obtain ⟨h51, hh51, hq⟩ := mx_bS hq
      refine mx_e_pi hh51 ?_
      refine mx_p_aln rfl ?_
      refine mx_p_ic ?_
      obtain ⟨h52, hh52, hq⟩ := mx_bS hq
      refine mx_e_pi hh52 ?_
      cases hq; exact mx_p_rv
set_option maxRecDepth 20000 in
set_option maxHeartbeats 1000000 in
theorem t_X12_in {a0 : Int32} {a1 : Int32} {a2 : Int32} {h : mx_Hp} {res} (hq : f_X12_in a0 a1 a2 h = some res) : mx_Ms mx_k_X12_in [.int a0, .int a1, .int a2] h (some (.int res), h) := by
  unfold f_X12_in at hq
  show mx_Ev mx_k_X12_in mx_noS (mx_b_X12_in 0, [some (.int a0), some (.int a1), some (.int a2)], [], h, 0, 0) _
  refine mx_p_iln rfl ?_
  refine mx_p_iln rfl ?_
  obtain ⟨v7, hE, hK⟩ := mx_bS hq
  have HJ : mx_Ev mx_k_X12_in mx_noS (mx_b_X12_in 15, [none, none, none], [.int v7], h, 0, 0) (some (.int res), h) := by
    replace hq := hK
    by_cases hb8 : v7 = 0 ∨ v7 = 1
    · rw [if_pos hb8] at hq; cases hq; exact mx_e_rb rfl hb8
    · rw [if_neg hb8] at hq; cases hq
  clear hK
  replace hq := hE
  by_cases hc5 : a0 < a1
  · rw [if_pos hc5] at hq
    refine mx_e_it (decide_eq_true hc5) ?_
    refine mx_p_ic ?_
    refine mx_p_np ?_
    cases hq; exact mx_Ev.weak (mx_le.drop _ (mx_le.drop _ (mx_le.drop _ (mx_le.nil)))) HJ
  · rw [if_neg hc5] at hq
    refine mx_e_if (fun z => hc5 (of_decide_eq_true z)) ?_
    refine mx_p_iln rfl ?_
    refine mx_p_iln rfl ?_
    by_cases hc6 : a2 < a0
    · rw [if_pos hc6] at hq
      refine mx_e_it (decide_eq_true hc6) ?_
      refine mx_p_ic ?_
      refine mx_p_np ?_
      cases hq; exact mx_Ev.weak (mx_le.drop _ (mx_le.drop _ (mx_le.drop _ (mx_le.nil)))) HJ
    · rw [if_neg hc6] at hq
      refine mx_e_if (fun z => hc6 (of_decide_eq_true z)) ?_
      refine mx_p_ic ?_
      refine mx_p_gt ?_
      cases hq; exact mx_Ev.weak (mx_le.drop _ (mx_le.drop _ (mx_le.drop _ (mx_le.nil)))) HJ
set_option maxRecDepth 20000 in
set_option maxHeartbeats 1000000 in
theorem t_X12_isWord {a0 : Nat} {a1 : Int32} {h : mx_Hp} {res} (hq : f_X12_isWord a0 a1 h = some res) : mx_Ms mx_k_X12_isWord [.ref a0, .int a1] h (some (.int res), h) := by
  unfold f_X12_isWord at hq
  show mx_Ev mx_k_X12_isWord mx_noS (mx_b_X12_isWord 0, [some (.ref a0), some (.int a1)], [], h, 0, 0) _
  refine mx_p_iln rfl ?_
  refine mx_p_ic ?_
  refine mx_p_aln rfl ?_
  obtain ⟨x5, hx5, hq⟩ := mx_bS hq
  refine mx_e_gr hx5 rfl ?_
  refine mx_p_ic ?_
  obtain ⟨x6, hx6, hq⟩ := mx_bS hq
  refine mx_e_al hx6 ?_
  refine mx_p_ic ?_
  refine mx_p_isub ?_
  obtain ⟨x7, hx7, hq⟩ := mx_bS hq
  refine mx_e_cs mx_t_X12_in rfl rfl rfl ⟨Nat.le_of_ble_eq_true rfl, Nat.le_of_ble_eq_true rfl, Nat.le_of_ble_eq_true rfl⟩ (Nat.le_of_ble_eq_true rfl) rfl rfl ⟨Nat.zero_le _, Nat.zero_le _⟩ (t_X12_in hx7) ?_
  by_cases hb8 : x7 = 0 ∨ x7 = 1
  · rw [if_pos hb8] at hq; cases hq; exact mx_e_rb rfl hb8
  · rw [if_neg hb8] at hq; cases hq
set_option maxRecDepth 20000 in
set_option maxHeartbeats 1000000 in
theorem t_X12_has {a0 : Int32} {a1 : Int32} {h : mx_Hp} {res} (hq : f_X12_has a0 a1 h = some res) : mx_Ms mx_k_X12_has [.int a0, .int a1] h (some (.int res), h) := by
  unfold f_X12_has at hq
  show mx_Ev mx_k_X12_has mx_noS (mx_b_X12_has 0, [some (.int a0), some (.int a1)], [], h, 0, 0) _
  refine mx_p_iln rfl ?_
  refine mx_p_iln rfl ?_
  refine mx_p_ishr ?_
  refine mx_p_ic ?_
  refine mx_p_iand ?_
  refine mx_p_ic ?_
  obtain ⟨v5, hE, hK⟩ := mx_bS hq
  have HJ : mx_Ev mx_k_X12_has mx_noS (mx_b_X12_has 14, [none, none], [.int v5], h, 0, 0) (some (.int res), h) := by
    replace hq := hK
    by_cases hb6 : v5 = 0 ∨ v5 = 1
    · rw [if_pos hb6] at hq; cases hq; exact mx_e_rb rfl hb6
    · rw [if_neg hb6] at hq; cases hq
  clear hK
  replace hq := hE
  by_cases hc4 : ¬ ((a0 >>> (a1 &&& 31)) &&& 1) = 1
  · rw [if_pos hc4] at hq
    refine mx_e_it (decide_eq_true hc4) ?_
    refine mx_p_ic ?_
    refine mx_p_np ?_
    cases hq; exact mx_Ev.weak (mx_le.drop _ (mx_le.drop _ (mx_le.nil))) HJ
  · rw [if_neg hc4] at hq
    refine mx_e_if (fun z => hc4 (of_decide_eq_true z)) ?_
    refine mx_p_ic ?_
    refine mx_p_gt ?_
    cases hq; exact mx_Ev.weak (mx_le.drop _ (mx_le.drop _ (mx_le.nil))) HJ
set_option maxRecDepth 20000 in
set_option maxHeartbeats 1000000 in
theorem t_X12_write {a0 : Nat} {a1 : Int32} {h : mx_Hp} {res} (hq : f_X12_write a0 a1 h = some res) : mx_Ms mx_k_X12_write [.ref a0, .int a1] h (some (.int res.1), res.2) := by
  unfold f_X12_write at hq
  show mx_Ev mx_k_X12_write mx_noS (mx_b_X12_write 0, [some (.ref a0), some (.int a1)], [], h, 0, 0) _
  refine mx_p_iln rfl ?_
  refine mx_p_bp ?_
  refine mx_p_bp ?_
  obtain ⟨x11, hx11, hq⟩ := mx_bS hq
  refine mx_e_cs mx_t_X12_in rfl rfl rfl ⟨Nat.le_of_ble_eq_true rfl, Nat.le_of_ble_eq_true rfl, Nat.le_of_ble_eq_true rfl⟩ (Nat.le_of_ble_eq_true rfl) rfl rfl ⟨Nat.zero_le _, Nat.zero_le _⟩ (t_X12_in hx11) ?_
  by_cases hc12 : ¬ x11 = 0
  · rw [if_pos hc12] at hq
    refine mx_e_zt (decide_eq_true hc12) ?_
    refine mx_p_aln rfl ?_
    obtain ⟨x13, hx13, hq⟩ := mx_bS hq
    refine mx_e_gi hx13 (by decide) ?_
    refine mx_p_sp ?_
    by_cases hc14 : ¬ x13 = 200
    · rw [if_pos hc14] at hq
      refine mx_e_it (decide_eq_true hc14) ?_
      refine mx_p_aln rfl ?_
      obtain ⟨x15, hx15, hq⟩ := mx_bS hq
      refine mx_e_gr hx15 rfl ?_
      refine mx_p_aln rfl ?_
      obtain ⟨x16, hx16, hq⟩ := mx_bS hq
      refine mx_e_gi hx16 (by decide) ?_
      refine mx_p_iln rfl ?_
      obtain ⟨h17, hh17, hq⟩ := mx_bS hq
      refine mx_e_as hh17 ?_
      refine mx_p_aln rfl ?_
      refine mx_p_dup rfl ?_
      obtain ⟨x18, hx18, hq⟩ := mx_bS hq
      refine mx_e_gi hx18 (by decide) ?_
      refine mx_p_ic ?_
      refine mx_p_iadd ?_
      obtain ⟨h19, hh19, hq⟩ := mx_bS hq
      refine mx_e_pi hh19 ?_
      refine mx_p_aln rfl ?_
      obtain ⟨x20, hx20, hq⟩ := mx_bS hq
      refine mx_e_gi hx20 (by decide) ?_
      cases hq; exact mx_e_ri rfl
    · rw [if_neg hc14] at hq
      refine mx_e_if (fun z => hc14 (of_decide_eq_true z)) ?_
      refine mx_p_bp ?_
      cases hq; exact mx_e_ri rfl
  · rw [if_neg hc12] at hq
    refine mx_e_zf (fun z => hc12 (of_decide_eq_true z)) ?_
    refine mx_p_ic ?_
    cases hq; exact mx_e_ri rfl
set_option maxRecDepth 20000 in
set_option maxHeartbeats 1000000 in
theorem t_X12_wipe {a0 : Nat} {h : mx_Hp} {res} (hq : f_X12_wipe a0 h = some res) : mx_Ms mx_k_X12_wipe [.ref a0] h (some (.int res.1), res.2) := by
  unfold f_X12_wipe at hq
  show mx_Ev mx_k_X12_wipe mx_noS (mx_b_X12_wipe 0, [some (.ref a0), none], [], h, 0, 0) _
  refine mx_p_aln rfl ?_
  obtain ⟨x3, hx3, hq⟩ := mx_bS hq
  refine mx_e_gi hx3 (by decide) ?_
  refine mx_p_isn (loc' := [some (.ref a0), some (.int x3)]) rfl ?_
  refine mx_p_aln rfl ?_
  refine mx_p_ic ?_
  obtain ⟨h4, hh4, hq⟩ := mx_bS hq
  refine mx_e_pi hh4 ?_
  refine mx_p_iln rfl ?_
  cases hq; exact mx_e_ri rfl
set_option maxRecDepth 20000 in
set_option maxHeartbeats 1000000 in
theorem t_X12_letterAt {a0 : Nat} {a1 : Int32} {h : mx_Hp} {res} (hq : f_X12_letterAt a0 a1 h = some res) : mx_Ms mx_k_X12_letterAt [.ref a0, .int a1] h (some (.int res), h) := by
  unfold f_X12_letterAt at hq
  show mx_Ev mx_k_X12_letterAt mx_noS (mx_b_X12_letterAt 0, [some (.ref a0), some (.int a1)], [], h, 0, 0) _
  refine mx_p_iln rfl ?_
  refine mx_p_aln rfl ?_
  obtain ⟨x6, hx6, hq⟩ := mx_bS hq
  refine mx_e_gi hx6 (by decide) ?_
  obtain ⟨v10, hE, hK⟩ := mx_bS hq
  have HJ : mx_Ev mx_k_X12_letterAt mx_noS (mx_b_X12_letterAt 18, [none, none], [.int v10], h, 0, 0) (some (.int res), h) := by
    replace hq := hK
    cases hq; exact mx_e_ri rfl
  clear hK
  replace hq := hE
  by_cases hc7 : x6 ≤ a1
  · rw [if_pos hc7] at hq
    refine mx_e_it (decide_eq_true hc7) ?_
    refine mx_p_ic ?_
    refine mx_p_np ?_
    cases hq; exact mx_Ev.weak (mx_le.drop _ (mx_le.drop _ (mx_le.nil))) HJ
  · rw [if_neg hc7] at hq
    refine mx_e_if (fun z => hc7 (of_decide_eq_true z)) ?_
    refine mx_p_aln rfl ?_
    obtain ⟨x8, hx8, hq⟩ := mx_bS hq
    refine mx_e_gr hx8 rfl ?_
    refine mx_p_iln rfl ?_
    obtain ⟨x9, hx9, hq⟩ := mx_bS hq
    refine mx_e_al hx9 ?_
    refine mx_p_gt ?_
    cases hq; exact mx_Ev.weak (mx_le.drop _ (mx_le.drop _ (mx_le.nil))) HJ
set_option maxRecDepth 20000 in
set_option maxHeartbeats 1000000 in
theorem t_X12_isFigure {a0 : Int32} {h : mx_Hp} {res} (hq : f_X12_isFigure a0 h = some res) : mx_Ms mx_k_X12_isFigure [.int a0] h (some (.int res), h) := by
  unfold f_X12_isFigure at hq
  show mx_Ev mx_k_X12_isFigure mx_noS (mx_b_X12_isFigure 0, [some (.int a0)], [], h, 0, 0) _
  refine mx_p_iln rfl ?_
  refine mx_p_bp ?_
  refine mx_p_bp ?_
  obtain ⟨x3, hx3, hq⟩ := mx_bS hq
  refine mx_e_cs mx_t_X12_in rfl rfl rfl ⟨Nat.le_of_ble_eq_true rfl, Nat.le_of_ble_eq_true rfl, Nat.le_of_ble_eq_true rfl⟩ (Nat.le_of_ble_eq_true rfl) rfl rfl ⟨Nat.zero_le _, Nat.zero_le _⟩ (t_X12_in hx3) ?_
  by_cases hb4 : x3 = 0 ∨ x3 = 1
  · rw [if_pos hb4] at hq; cases hq; exact mx_e_rb rfl hb4
  · rw [if_neg hb4] at hq; cases hq
set_option maxRecDepth 20000 in
set_option maxHeartbeats 1000000 in
theorem t_X12_number {a0 : Nat} {a1 : Int32} {a2 : Int32} {a3 : Int32} {h : mx_Hp} {res} (hq : f_X12_number a0 a1 a2 a3 h = some res) : mx_Ms mx_k_X12_number [.ref a0, .int a1, .int a2, .int a3] h (some (.int res.1), res.2) := by
  unfold f_X12_number at hq
  show mx_Ev mx_k_X12_number mx_noS (mx_b_X12_number 0, [some (.ref a0), some (.int a1), some (.int a2), some (.int a3), none, none], [], h, 0, 0) _
  refine mx_p_aln rfl ?_
  refine mx_p_aln rfl ?_
  obtain ⟨x33, hx33, hq⟩ := mx_bS hq
  refine mx_e_gi hx33 (by decide) ?_
  have ho35 : a0 < h.1 ∧ (mx_lay a0).1 = 15 := by
    by_cases hh : a0 < h.1 ∧ (mx_lay a0).1 = 15
    · exact hh
    · rw [if_neg hh] at hq; cases hq
  rw [if_pos ho35] at hq
  obtain ⟨x34, hx34, hq⟩ := mx_bS hq
  refine mx_e_cv mx_t_X12_letterAt ho35 rfl rfl rfl ⟨Nat.le_of_ble_eq_true rfl, Nat.le_of_ble_eq_true rfl, Nat.le_of_ble_eq_true rfl⟩ (Nat.le_of_ble_eq_true rfl) rfl rfl rfl ⟨Nat.zero_le _, Nat.zero_le _⟩ (t_X12_letterAt hx34) ?_
  obtain ⟨x36, hx36, hq⟩ := mx_bS hq
  refine mx_e_cs mx_t_X12_isFigure rfl rfl rfl ⟨Nat.le_of_ble_eq_true rfl, Nat.le_of_ble_eq_true rfl, Nat.le_of_ble_eq_true rfl⟩ (Nat.le_of_ble_eq_true rfl) rfl rfl ⟨Nat.zero_le _, Nat.zero_le _⟩ (t_X12_isFigure hx36) ?_
  by_cases hc37 : ¬ x36 = 0
  · rw [if_pos hc37] at hq
    refine mx_e_zt (decide_eq_true hc37) ?_
    refine mx_p_aln rfl ?_
    refine mx_p_aln rfl ?_
    obtain ⟨x38, hx38, hq⟩ := mx_bS hq
    refine mx_e_gi hx38 (by decide) ?_
    have ho40 : a0 < h.1 ∧ (mx_lay a0).1 = 15 := by
      by_cases hh : a0 < h.1 ∧ (mx_lay a0).1 = 15
      · exact hh
      · rw [if_neg hh] at hq; cases hq
    rw [if_pos ho40] at hq
    obtain ⟨x39, hx39, hq⟩ := mx_bS hq
    refine mx_e_cv mx_t_X12_letterAt ho40 rfl rfl rfl ⟨Nat.le_of_ble_eq_true rfl, Nat.le_of_ble_eq_true rfl, Nat.le_of_ble_eq_true rfl⟩ (Nat.le_of_ble_eq_true rfl) rfl rfl rfl ⟨Nat.zero_le _, Nat.zero_le _⟩ (t_X12_letterAt hx39) ?_
    refine mx_p_bp ?_
    refine mx_p_isub ?_
    refine mx_p_is (loc' := [some (.ref a0), some (.int a1), some (.int a2), some (.int a3), some (.int (x39 - 48)), none]) rfl ?_
    refine mx_p_aln rfl ?_
    refine mx_p_dup rfl ?_
    obtain ⟨x41, hx41, hq⟩ := mx_bS hq
    refine mx_e_gi hx41 (by decide) ?_
    refine mx_p_ic ?_
    refine mx_p_iadd ?_
    obtain ⟨h42, hh42, hq⟩ := mx_bS hq
    refine mx_e_pi hh42 ?_
    refine mx_p_aln rfl ?_
    refine mx_p_aln rfl ?_
    obtain ⟨x43, hx43, hq⟩ := mx_bS hq
    refine mx_e_gi hx43 (by decide) ?_
    have ho45 : a0 < h42.1 ∧ (mx_lay a0).1 = 15 := by
      by_cases hh : a0 < h42.1 ∧ (mx_lay a0).1 = 15
      · exact hh
      · rw [if_neg hh] at hq; cases hq
    rw [if_pos ho45] at hq
    obtain ⟨x44, hx44, hq⟩ := mx_bS hq
    refine mx_e_cv mx_t_X12_letterAt ho45 rfl rfl rfl ⟨Nat.le_of_ble_eq_true rfl, Nat.le_of_ble_eq_true rfl, Nat.le_of_ble_eq_true rfl⟩ (Nat.le_of_ble_eq_true rfl) rfl rfl rfl ⟨Nat.zero_le _, Nat.zero_le _⟩ (t_X12_letterAt hx44) ?_
    obtain ⟨x46, hx46, hq⟩ := mx_bS hq
    refine mx_e_cs mx_t_X12_isFigure rfl rfl rfl ⟨Nat.le_of_ble_eq_true rfl, Nat.le_of_ble_eq_true rfl, Nat.le_of_ble_eq_true rfl⟩ (Nat.le_of_ble_eq_true rfl) rfl rfl ⟨Nat.zero_le _, Nat.zero_le _⟩ (t_X12_isFigure hx46) ?_
    obtain ⟨v53, hE, hK⟩ := mx_bS hq
    have HJ : mx_Ev mx_k_X12_number mx_noS (mx_b_X12_number 82, [some (.ref a0), some (.int a1), some (.int a2), some (.int a3), some (.int v53.1), none], [], v53.2, 0, 0) (some (.int res.1), res.2) := by
      replace hq := hK
      refine mx_p_aln rfl ?_
      refine mx_p_aln rfl ?_
      obtain ⟨x54, hx54, hq⟩ := mx_bS hq
      refine mx_e_gi hx54 (by decide) ?_
      have ho56 : a0 < v53.2.1 ∧ (mx_lay a0).1 = 15 := by
        by_cases hh : a0 < v53.2.1 ∧ (mx_lay a0).1 = 15
        · exact hh
        · rw [if_neg hh] at hq; cases hq
      rw [if_pos ho56] at hq
      obtain ⟨x55, hx55, hq⟩ := mx_bS hq
      refine mx_e_cv mx_t_X12_letterAt ho56 rfl rfl rfl ⟨Nat.le_of_ble_eq_true rfl, Nat.le_of_ble_eq_true rfl, Nat.le_of_ble_eq_true rfl⟩ (Nat.le_of_ble_eq_true rfl) rfl rfl rfl ⟨Nat.zero_le _, Nat.zero_le _⟩ (t_X12_letterAt hx55) ?_
      refine mx_p_iln rfl ?_
      obtain ⟨v60, hE, hK⟩ := mx_bS hq
      have HJ : mx_Ev mx_k_X12_number mx_noS (mx_b_X12_number 109, [some (.ref a0), none, none, none, some (.int v53.1), none], [.int v60], v53.2, 0, 0) (some (.int res.1), res.2) := by
        replace hq := hK
        refine mx_p_is (loc' := [some (.ref a0), none, none, none, some (.int v53.1), some (.int v60)]) rfl ?_
        refine mx_p_aln rfl ?_
        refine mx_p_dup rfl ?_
        obtain ⟨x61, hx61, hq⟩ := mx_bS hq
        refine mx_e_gi hx61 (by decide) ?_
        refine mx_p_ic ?_
        refine mx_p_iadd ?_
        obtain ⟨h62, hh62, hq⟩ := mx_bS hq
        refine mx_e_pi hh62 ?_
        refine mx_p_il rfl ?_
        obtain ⟨v64, hE, hK⟩ := mx_bS hq
        have HJ : mx_Ev mx_k_X12_number mx_noS (mx_b_X12_number 132, [none, none, none, none, none, none], [.int v64], h62, 0, 0) (some (.int res.1), res.2) := by
          replace hq := hK
          cases hq; exact mx_e_ri rfl
        clear hK
        replace hq := hE
        by_cases hc63 : v60 = 0
        · rw [if_pos hc63] at hq
          refine mx_e_zt (decide_eq_true hc63) ?_
          refine mx_p_ic ?_
          refine mx_p_np ?_
          cases hq; exact mx_Ev.weak (mx_le.drop _ (mx_le.same _ (mx_le.same _ (mx_le.same _ (mx_le.drop _ (mx_le.drop _ (mx_le.nil))))))) HJ
        · rw [if_neg hc63] at hq
          refine mx_e_zf (fun z => hc63 (of_decide_eq_true z)) ?_
          refine mx_p_il rfl ?_
          refine mx_p_gt ?_
          cases hq; exact mx_Ev.weak (mx_le.drop _ (mx_le.same _ (mx_le.same _ (mx_le.same _ (mx_le.drop _ (mx_le.drop _ (mx_le.nil))))))) HJ
      clear hK
      replace hq := hE
      by_cases hc57 : ¬ x55 = a3
      · rw [if_pos hc57] at hq
        refine mx_e_it (decide_eq_true hc57) ?_
        refine mx_p_ic ?_
        refine mx_p_np ?_
        cases hq; exact mx_Ev.weak (mx_le.same _ (mx_le.drop _ (mx_le.drop _ (mx_le.drop _ (mx_le.same _ (mx_le.same _ (mx_le.nil))))))) HJ
      · rw [if_neg hc57] at hq
        refine mx_e_if (fun z => hc57 (of_decide_eq_true z)) ?_
        refine mx_p_il rfl ?_
        refine mx_p_iln rfl ?_
        refine mx_p_iln rfl ?_
        obtain ⟨x58, hx58, hq⟩ := mx_bS hq
        refine mx_e_cs mx_t_X12_in rfl rfl rfl ⟨Nat.le_of_ble_eq_true rfl, Nat.le_of_ble_eq_true rfl, Nat.le_of_ble_eq_true rfl⟩ (Nat.le_of_ble_eq_true rfl) rfl rfl ⟨Nat.zero_le _, Nat.zero_le _⟩ (t_X12_in hx58) ?_
        by_cases hc59 : x58 = 0
        · rw [if_pos hc59] at hq
          refine mx_e_zt (decide_eq_true hc59) ?_
          refine mx_p_ic ?_
          refine mx_p_np ?_
          cases hq; exact mx_Ev.weak (mx_le.same _ (mx_le.drop _ (mx_le.drop _ (mx_le.drop _ (mx_le.same _ (mx_le.same _ (mx_le.nil))))))) HJ
        · rw [if_neg hc59] at hq
          refine mx_e_zf (fun z => hc59 (of_decide_eq_true z)) ?_
          refine mx_p_ic ?_
          refine mx_p_gt ?_
          cases hq; exact mx_Ev.weak (mx_le.same _ (mx_le.drop _ (mx_le.drop _ (mx_le.drop _ (mx_le.same _ (mx_le.same _ (mx_le.nil))))))) HJ
    clear hK
    replace hq := hE
    by_cases hc47 : x46 = 0
    · rw [if_pos hc47] at hq
      refine mx_e_zt (decide_eq_true hc47) ?_
      cases hq; exact mx_Ev.weak (mx_le.same _ (mx_le.same _ (mx_le.same _ (mx_le.same _ (mx_le.same _ (mx_le.same _ (mx_le.nil))))))) HJ
    · rw [if_neg hc47] at hq
      refine mx_e_zf (fun z => hc47 (of_decide_eq_true z)) ?_
      refine mx_p_bp ?_
      refine mx_p_il rfl ?_
      refine mx_p_imul ?_
      refine mx_p_aln rfl ?_
      refine mx_p_aln rfl ?_
      obtain ⟨x48, hx48, hq⟩ := mx_bS hq
      refine mx_e_gi hx48 (by decide) ?_
      have ho50 : a0 < h42.1 ∧ (mx_lay a0).1 = 15 := by
        by_cases hh : a0 < h42.1 ∧ (mx_lay a0).1 = 15
        · exact hh
        · rw [if_neg hh] at hq; cases hq
      rw [if_pos ho50] at hq
      obtain ⟨x49, hx49, hq⟩ := mx_bS hq
      refine mx_e_cv mx_t_X12_letterAt ho50 rfl rfl rfl ⟨Nat.le_of_ble_eq_true rfl, Nat.le_of_ble_eq_true rfl, Nat.le_of_ble_eq_true rfl⟩ (Nat.le_of_ble_eq_true rfl) rfl rfl rfl ⟨Nat.zero_le _, Nat.zero_le _⟩ (t_X12_letterAt hx49) ?_
      refine mx_p_iadd ?_
      refine mx_p_bp ?_
      refine mx_p_isub ?_
      refine mx_p_is (loc' := [some (.ref a0), some (.int a1), some (.int a2), some (.int a3), some (.int (((10 * (x39 - 48)) + x49) - 48)), none]) rfl ?_
      refine mx_p_aln rfl ?_
      refine mx_p_dup rfl ?_
      obtain ⟨x51, hx51, hq⟩ := mx_bS hq
      refine mx_e_gi hx51 (by decide) ?_
      refine mx_p_ic ?_
      refine mx_p_iadd ?_
      obtain ⟨h52, hh52, hq⟩ := mx_bS hq
      refine mx_e_pi hh52 ?_
      refine mx_p_np ?_
      cases hq; exact mx_Ev.weak (mx_le.same _ (mx_le.same _ (mx_le.same _ (mx_le.same _ (mx_le.same _ (mx_le.same _ (mx_le.nil))))))) HJ
  · rw [if_neg hc37] at hq
    refine mx_e_zf (fun z => hc37 (of_decide_eq_true z)) ?_
    refine mx_p_ic ?_
    cases hq; exact mx_e_ri rfl
set_option maxRecDepth 20000 in
set_option maxHeartbeats 1000000 in
theorem t_X12_readsItem {a0 : Nat} {a1 : Int32} {h : mx_Hp} {res} (hq : f_X12_readsItem a0 a1 h = some res) : mx_Ms mx_k_X12_readsItem [.ref a0, .int a1] h (some (.int res.1), res.2) := by
  unfold f_X12_readsItem at hq
  show mx_Ev mx_k_X12_readsItem mx_noS (mx_b_X12_readsItem 0, [some (.ref a0), some (.int a1), none, none], [], h, 0, 0) _
  refine mx_p_iln rfl ?_
  by_cases hw62 : a1 = 99
  · rw [if_pos hw62] at hq
    refine mx_e_lk (mx_sw_t hw62) ?_
    refine mx_p_aln rfl ?_
    obtain ⟨x63, hx63, hq⟩ := mx_bS hq
    refine mx_e_gr hx63 rfl ?_
    refine mx_p_ic ?_
    refine mx_p_aln rfl ?_
    refine mx_p_ic ?_
    refine mx_p_ic ?_
    refine mx_p_bp ?_
    have ho65 : a0 < h.1 ∧ (mx_lay a0).1 = 15 := by
      by_cases hh : a0 < h.1 ∧ (mx_lay a0).1 = 15
      · exact hh
      · rw [if_neg hh] at hq; cases hq
    rw [if_pos ho65] at hq
    obtain ⟨x64, hx64, hq⟩ := mx_bS hq
    refine mx_e_cv mx_t_X12_number ho65 rfl rfl rfl ⟨Nat.le_of_ble_eq_true rfl, Nat.le_of_ble_eq_true rfl, Nat.le_of_ble_eq_true rfl⟩ (Nat.le_of_ble_eq_true rfl) rfl rfl rfl ⟨Nat.zero_le _, Nat.zero_le _⟩ (t_X12_number hx64) ?_
    obtain ⟨h66, hh66, hq⟩ := mx_bS hq
    refine mx_e_as hh66 ?_
    refine mx_p_aln rfl ?_
    obtain ⟨x67, hx67, hq⟩ := mx_bS hq
    refine mx_e_gr hx67 rfl ?_
    refine mx_p_ic ?_
    obtain ⟨x68, hx68, hq⟩ := mx_bS hq
    refine mx_e_al hx68 ?_
    obtain ⟨v70, hE, hK⟩ := mx_bS hq
    have HJ : mx_Ev mx_k_X12_readsItem mx_noS (mx_b_X12_readsItem 280, [none, none, none, none], [.int v70], h66, 0, 0) (some (.int res.1), res.2) := by
      replace hq := hK
      by_cases hb71 : v70 = 0 ∨ v70 = 1
      · rw [if_pos hb71] at hq; cases hq; exact mx_e_rb rfl hb71
      · rw [if_neg hb71] at hq; cases hq
    clear hK
    replace hq := hE
    by_cases hc69 : x68 < 0
    · rw [if_pos hc69] at hq
      refine mx_e_zt (decide_eq_true hc69) ?_
      refine mx_p_ic ?_
      refine mx_p_np ?_
      cases hq; exact mx_Ev.weak (mx_le.drop _ (mx_le.drop _ (mx_le.same _ (mx_le.same _ (mx_le.nil))))) HJ
    · rw [if_neg hc69] at hq
      refine mx_e_zf (fun z => hc69 (of_decide_eq_true z)) ?_
      refine mx_p_ic ?_
      refine mx_p_gt ?_
      cases hq; exact mx_Ev.weak (mx_le.drop _ (mx_le.drop _ (mx_le.same _ (mx_le.same _ (mx_le.nil))))) HJ
  rw [if_neg hw62] at hq
  by_cases hw72 : a1 = 103
  · rw [if_pos hw72] at hq
    refine mx_e_lk (mx_sw_f hw62 (mx_sw_t hw72)) ?_
    refine mx_p_aln rfl ?_
    refine mx_p_ic ?_
    refine mx_p_aln rfl ?_
    obtain ⟨x73, hx73, hq⟩ := mx_bS hq
    refine mx_e_gr hx73 rfl ?_
    refine mx_p_ic ?_
    obtain ⟨x74, hx74, hq⟩ := mx_bS hq
    refine mx_e_al hx74 ?_
    refine mx_p_ic ?_
    refine mx_p_isub ?_
    refine mx_p_bp ?_
    have ho76 : a0 < h.1 ∧ (mx_lay a0).1 = 15 := by
      by_cases hh : a0 < h.1 ∧ (mx_lay a0).1 = 15
      · exact hh
      · rw [if_neg hh] at hq; cases hq
    rw [if_pos ho76] at hq
    obtain ⟨x75, hx75, hq⟩ := mx_bS hq
    refine mx_e_cv mx_t_X12_number ho76 rfl rfl rfl ⟨Nat.le_of_ble_eq_true rfl, Nat.le_of_ble_eq_true rfl, Nat.le_of_ble_eq_true rfl⟩ (Nat.le_of_ble_eq_true rfl) rfl rfl rfl ⟨Nat.zero_le _, Nat.zero_le _⟩ (t_X12_number hx75) ?_
    refine mx_p_isn (loc' := [some (.ref a0), some (.int a1), some (.int x75.1), none]) rfl ?_
    refine mx_p_iln rfl ?_
    obtain ⟨v82, hE, hK⟩ := mx_bS hq
    have HJ : mx_Ev mx_k_X12_readsItem mx_noS (mx_b_X12_readsItem 143, [some (.ref a0), none, some (.int x75.1), none], [.int v82.1], v82.2, 0, 0) (some (.int res.1), res.2) := by
      replace hq := hK
      refine mx_p_isn (loc' := [some (.ref a0), none, some (.int x75.1), some (.int v82.1)]) rfl ?_
      refine mx_p_iln rfl ?_
      by_cases hc83 : 0 ≤ v82.1
      · rw [if_pos hc83] at hq
        refine mx_e_zt (decide_eq_true hc83) ?_
        refine mx_p_aln rfl ?_
        obtain ⟨x84, hx84, hq⟩ := mx_bS hq
        refine mx_e_gr hx84 rfl ?_
        refine mx_p_bp ?_
        refine mx_p_iln rfl ?_
        refine mx_p_iadd ?_
        refine mx_p_dup2 rfl rfl ?_
        obtain ⟨x85, hx85, hq⟩ := mx_bS hq
        refine mx_e_al hx85 ?_
        refine mx_p_ic ?_
        refine mx_p_iln rfl ?_
        refine mx_p_ishl ?_
        refine mx_p_ior ?_
        obtain ⟨h86, hh86, hq⟩ := mx_bS hq
        refine mx_e_as hh86 ?_
        refine mx_p_ic ?_
        cases hq; exact mx_e_rb rfl (by decide)
      · rw [if_neg hc83] at hq
        refine mx_e_zf (fun z => hc83 (of_decide_eq_true z)) ?_
        refine mx_p_ic ?_
        cases hq; exact mx_e_rb rfl (by decide)
    clear hK
    replace hq := hE
    by_cases hc77 : 0 ≤ x75.1
    · rw [if_pos hc77] at hq
      refine mx_e_zt (decide_eq_true hc77) ?_
      refine mx_p_aln rfl ?_
      refine mx_p_ic ?_
      refine mx_p_aln rfl ?_
      obtain ⟨x78, hx78, hq⟩ := mx_bS hq
      refine mx_e_gr hx78 rfl ?_
      refine mx_p_ic ?_
      obtain ⟨x79, hx79, hq⟩ := mx_bS hq
      refine mx_e_al hx79 ?_
      refine mx_p_ic ?_
      refine mx_p_isub ?_
      refine mx_p_bp ?_
      have ho81 : a0 < x75.2.1 ∧ (mx_lay a0).1 = 15 := by
        by_cases hh : a0 < x75.2.1 ∧ (mx_lay a0).1 = 15
        · exact hh
        · rw [if_neg hh] at hq; cases hq
      rw [if_pos ho81] at hq
      obtain ⟨x80, hx80, hq⟩ := mx_bS hq
      refine mx_e_cv mx_t_X12_number ho81 rfl rfl rfl ⟨Nat.le_of_ble_eq_true rfl, Nat.le_of_ble_eq_true rfl, Nat.le_of_ble_eq_true rfl⟩ (Nat.le_of_ble_eq_true rfl) rfl rfl rfl ⟨Nat.zero_le _, Nat.zero_le _⟩ (t_X12_number hx80) ?_
      refine mx_p_np ?_
      cases hq; exact mx_Ev.weak (mx_le.same _ (mx_le.drop _ (mx_le.same _ (mx_le.same _ (mx_le.nil))))) HJ
    · rw [if_neg hc77] at hq
      refine mx_e_zf (fun z => hc77 (of_decide_eq_true z)) ?_
      refine mx_p_ic ?_
      refine mx_p_gt ?_
      cases hq; exact mx_Ev.weak (mx_le.same _ (mx_le.drop _ (mx_le.same _ (mx_le.same _ (mx_le.nil))))) HJ
  rw [if_neg hw72] at hq
  by_cases hw87 : a1 = 107
  · rw [if_pos hw87] at hq
    refine mx_e_lk (mx_sw_f hw62 (mx_sw_f hw72 (mx_sw_t hw87))) ?_
    refine mx_p_aln rfl ?_
    refine mx_p_ic ?_
    refine mx_p_ic ?_
    refine mx_p_bp ?_
    have ho89 : a0 < h.1 ∧ (mx_lay a0).1 = 15 := by
      by_cases hh : a0 < h.1 ∧ (mx_lay a0).1 = 15
      · exact hh
      · rw [if_neg hh] at hq; cases hq
    rw [if_pos ho89] at hq
    obtain ⟨x88, hx88, hq⟩ := mx_bS hq
    refine mx_e_cv mx_t_X12_number ho89 rfl rfl rfl ⟨Nat.le_of_ble_eq_true rfl, Nat.le_of_ble_eq_true rfl, Nat.le_of_ble_eq_true rfl⟩ (Nat.le_of_ble_eq_true rfl) rfl rfl rfl ⟨Nat.zero_le _, Nat.zero_le _⟩ (t_X12_number hx88) ?_
    refine mx_p_isn (loc' := [some (.ref a0), some (.int a1), some (.int x88.1), none]) rfl ?_
    refine mx_p_iln rfl ?_
    obtain ⟨v95, hE, hK⟩ := mx_bS hq
    have HJ : mx_Ev mx_k_X12_readsItem mx_noS (mx_b_X12_readsItem 199, [some (.ref a0), none, some (.int x88.1), none], [.int v95.1], v95.2, 0, 0) (some (.int res.1), res.2) := by
      replace hq := hK
      refine mx_p_isn (loc' := [some (.ref a0), none, some (.int x88.1), some (.int v95.1)]) rfl ?_
      refine mx_p_iln rfl ?_
      by_cases hc96 : 0 ≤ v95.1
      · rw [if_pos hc96] at hq
        refine mx_e_zt (decide_eq_true hc96) ?_
        refine mx_p_aln rfl ?_
        obtain ⟨x97, hx97, hq⟩ := mx_bS hq
        refine mx_e_gr hx97 rfl ?_
        refine mx_p_bp ?_
        refine mx_p_iln rfl ?_
        refine mx_p_iadd ?_
        refine mx_p_dup2 rfl rfl ?_
        obtain ⟨x98, hx98, hq⟩ := mx_bS hq
        refine mx_e_al hx98 ?_
        refine mx_p_ic ?_
        refine mx_p_iln rfl ?_
        refine mx_p_ishl ?_
        refine mx_p_ior ?_
        obtain ⟨h99, hh99, hq⟩ := mx_bS hq
        refine mx_e_as hh99 ?_
        refine mx_p_ic ?_
        cases hq; exact mx_e_rb rfl (by decide)
      · rw [if_neg hc96] at hq
        refine mx_e_zf (fun z => hc96 (of_decide_eq_true z)) ?_
        refine mx_p_ic ?_
        cases hq; exact mx_e_rb rfl (by decide)
    clear hK
    replace hq := hE
    by_cases hc90 : 0 ≤ x88.1
    · rw [if_pos hc90] at hq
      refine mx_e_zt (decide_eq_true hc90) ?_
      refine mx_p_aln rfl ?_
      refine mx_p_ic ?_
      refine mx_p_aln rfl ?_
      obtain ⟨x91, hx91, hq⟩ := mx_bS hq
      refine mx_e_gr hx91 rfl ?_
      refine mx_p_ic ?_
      obtain ⟨x92, hx92, hq⟩ := mx_bS hq
      refine mx_e_al hx92 ?_
      refine mx_p_ic ?_
      refine mx_p_isub ?_
      refine mx_p_bp ?_
      have ho94 : a0 < x88.2.1 ∧ (mx_lay a0).1 = 15 := by
        by_cases hh : a0 < x88.2.1 ∧ (mx_lay a0).1 = 15
        · exact hh
        · rw [if_neg hh] at hq; cases hq
      rw [if_pos ho94] at hq
      obtain ⟨x93, hx93, hq⟩ := mx_bS hq
      refine mx_e_cv mx_t_X12_number ho94 rfl rfl rfl ⟨Nat.le_of_ble_eq_true rfl, Nat.le_of_ble_eq_true rfl, Nat.le_of_ble_eq_true rfl⟩ (Nat.le_of_ble_eq_true rfl) rfl rfl rfl ⟨Nat.zero_le _, Nat.zero_le _⟩ (t_X12_number hx93) ?_
      refine mx_p_np ?_
      cases hq; exact mx_Ev.weak (mx_le.same _ (mx_le.drop _ (mx_le.same _ (mx_le.same _ (mx_le.nil))))) HJ
    · rw [if_neg hc90] at hq
      refine mx_e_zf (fun z => hc90 (of_decide_eq_true z)) ?_
      refine mx_p_ic ?_
      refine mx_p_gt ?_
      cases hq; exact mx_Ev.weak (mx_le.same _ (mx_le.drop _ (mx_le.same _ (mx_le.same _ (mx_le.nil))))) HJ
  rw [if_neg hw87] at hq
  by_cases hw100 : a1 = 108
  · rw [if_pos hw100] at hq
    refine mx_e_lk (mx_sw_f hw62 (mx_sw_f hw72 (mx_sw_f hw87 (mx_sw_t hw100)))) ?_
    refine mx_p_aln rfl ?_
    obtain ⟨x101, hx101, hq⟩ := mx_bS hq
    refine mx_e_gr hx101 rfl ?_
    refine mx_p_ic ?_
    refine mx_p_aln rfl ?_
    refine mx_p_ic ?_
    refine mx_p_ic ?_
    refine mx_p_bp ?_
    have ho103 : a0 < h.1 ∧ (mx_lay a0).1 = 15 := by
      by_cases hh : a0 < h.1 ∧ (mx_lay a0).1 = 15
      · exact hh
      · rw [if_neg hh] at hq; cases hq
    rw [if_pos ho103] at hq
    obtain ⟨x102, hx102, hq⟩ := mx_bS hq
    refine mx_e_cv mx_t_X12_number ho103 rfl rfl rfl ⟨Nat.le_of_ble_eq_true rfl, Nat.le_of_ble_eq_true rfl, Nat.le_of_ble_eq_true rfl⟩ (Nat.le_of_ble_eq_true rfl) rfl rfl rfl ⟨Nat.zero_le _, Nat.zero_le _⟩ (t_X12_number hx102) ?_
    obtain ⟨h104, hh104, hq⟩ := mx_bS hq
    refine mx_e_as hh104 ?_
    refine mx_p_aln rfl ?_
    obtain ⟨x105, hx105, hq⟩ := mx_bS hq
    refine mx_e_gr hx105 rfl ?_
    refine mx_p_ic ?_
    obtain ⟨x106, hx106, hq⟩ := mx_bS hq
    refine mx_e_al hx106 ?_
    obtain ⟨v108, hE, hK⟩ := mx_bS hq
    have HJ : mx_Ev mx_k_X12_readsItem mx_noS (mx_b_X12_readsItem 251, [none, none, none, none], [.int v108], h104, 0, 0) (some (.int res.1), res.2) := by
      replace hq := hK
      by_cases hb109 : v108 = 0 ∨ v108 = 1
      · rw [if_pos hb109] at hq; cases hq; exact mx_e_rb rfl hb109
      · rw [if_neg hb109] at hq; cases hq
    clear hK
    replace hq := hE
    by_cases hc107 : x106 ≤ 0
    · rw [if_pos hc107] at hq
      refine mx_e_zt (decide_eq_true hc107) ?_
      refine mx_p_ic ?_
      refine mx_p_np ?_
      cases hq; exact mx_Ev.weak (mx_le.drop _ (mx_le.drop _ (mx_le.same _ (mx_le.same _ (mx_le.nil))))) HJ
    · rw [if_neg hc107] at hq
      refine mx_e_zf (fun z => hc107 (of_decide_eq_true z)) ?_
      refine mx_p_ic ?_
      refine mx_p_gt ?_
      cases hq; exact mx_Ev.weak (mx_le.drop _ (mx_le.drop _ (mx_le.same _ (mx_le.same _ (mx_le.nil))))) HJ
  rw [if_neg hw100] at hq
  by_cases hw110 : a1 = 119
  · rw [if_pos hw110] at hq
    refine mx_e_lk (mx_sw_f hw62 (mx_sw_f hw72 (mx_sw_f hw87 (mx_sw_f hw100 (mx_sw_t hw110))))) ?_
    refine mx_p_aln rfl ?_
    refine mx_p_ic ?_
    refine mx_p_ic ?_
    refine mx_p_bp ?_
    have ho112 : a0 < h.1 ∧ (mx_lay a0).1 = 15 := by
      by_cases hh : a0 < h.1 ∧ (mx_lay a0).1 = 15
      · exact hh
      · rw [if_neg hh] at hq; cases hq
    rw [if_pos ho112] at hq
    obtain ⟨x111, hx111, hq⟩ := mx_bS hq
    refine mx_e_cv mx_t_X12_number ho112 rfl rfl rfl ⟨Nat.le_of_ble_eq_true rfl, Nat.le_of_ble_eq_true rfl, Nat.le_of_ble_eq_true rfl⟩ (Nat.le_of_ble_eq_true rfl) rfl rfl rfl ⟨Nat.zero_le _, Nat.zero_le _⟩ (t_X12_number hx111) ?_
    refine mx_p_isn (loc' := [some (.ref a0), some (.int a1), some (.int x111.1), none]) rfl ?_
    refine mx_p_iln rfl ?_
    obtain ⟨v116, hE, hK⟩ := mx_bS hq
    have HJ : mx_Ev mx_k_X12_readsItem mx_noS (mx_b_X12_readsItem 78, [some (.ref a0), none, some (.int x111.1), none], [.int v116.1], v116.2, 0, 0) (some (.int res.1), res.2) := by
      replace hq := hK
      refine mx_p_isn (loc' := [some (.ref a0), none, some (.int x111.1), some (.int v116.1)]) rfl ?_
      refine mx_p_iln rfl ?_
      by_cases hc117 : v116.1 < 0
      · rw [if_pos hc117] at hq
        refine mx_e_zt (decide_eq_true hc117) ?_
        refine mx_p_ic ?_
        cases hq; exact mx_e_rb rfl (by decide)
      · rw [if_neg hc117] at hq
        refine mx_e_zf (fun z => hc117 (of_decide_eq_true z)) ?_
        refine mx_p_aln rfl ?_
        obtain ⟨x118, hx118, hq⟩ := mx_bS hq
        refine mx_e_gr hx118 rfl ?_
        refine mx_p_ic ?_
        obtain ⟨x119, hx119, hq⟩ := mx_bS hq
        refine mx_e_al hx119 ?_
        refine mx_p_bp ?_
        by_cases hc120 : ¬ x119 = 10
        · rw [if_pos hc120] at hq
          refine mx_e_it (decide_eq_true hc120) ?_
          refine mx_p_aln rfl ?_
          refine mx_p_iln rfl ?_
          refine mx_p_iln rfl ?_
          have ho122 : a0 < v116.2.1 ∧ (mx_lay a0).1 = 15 := by
            by_cases hh : a0 < v116.2.1 ∧ (mx_lay a0).1 = 15
            · exact hh
            · rw [if_neg hh] at hq; cases hq
          rw [if_pos ho122] at hq
          obtain ⟨x121, hx121, hq⟩ := mx_bS hq
          refine mx_e_cv mx_t_X12_wordOf ho122 rfl rfl rfl ⟨Nat.le_of_ble_eq_true rfl, Nat.le_of_ble_eq_true rfl, Nat.le_of_ble_eq_true rfl⟩ (Nat.le_of_ble_eq_true rfl) rfl rfl rfl ⟨Nat.zero_le _, Nat.zero_le _⟩ (t_X12_wordOf hx121) ?_
          refine mx_p_ic ?_
          cases hq; exact mx_e_rb rfl (by decide)
        · rw [if_neg hc120] at hq
          refine mx_e_if (fun z => hc120 (of_decide_eq_true z)) ?_
          refine mx_p_np ?_
          refine mx_p_ic ?_
          cases hq; exact mx_e_rb rfl (by decide)
    clear hK
    replace hq := hE
    by_cases hc113 : 0 ≤ x111.1
    · rw [if_pos hc113] at hq
      refine mx_e_zt (decide_eq_true hc113) ?_
      refine mx_p_aln rfl ?_
      refine mx_p_ic ?_
      refine mx_p_bp ?_
      refine mx_p_bp ?_
      have ho115 : a0 < x111.2.1 ∧ (mx_lay a0).1 = 15 := by
        by_cases hh : a0 < x111.2.1 ∧ (mx_lay a0).1 = 15
        · exact hh
        · rw [if_neg hh] at hq; cases hq
      rw [if_pos ho115] at hq
      obtain ⟨x114, hx114, hq⟩ := mx_bS hq
      refine mx_e_cv mx_t_X12_number ho115 rfl rfl rfl ⟨Nat.le_of_ble_eq_true rfl, Nat.le_of_ble_eq_true rfl, Nat.le_of_ble_eq_true rfl⟩ (Nat.le_of_ble_eq_true rfl) rfl rfl rfl ⟨Nat.zero_le _, Nat.zero_le _⟩ (t_X12_number hx114) ?_
      refine mx_p_np ?_
      cases hq; exact mx_Ev.weak (mx_le.same _ (mx_le.drop _ (mx_le.same _ (mx_le.same _ (mx_le.nil))))) HJ
    · rw [if_neg hc113] at hq
      refine mx_e_zf (fun z => hc113 (of_decide_eq_true z)) ?_
      refine mx_p_ic ?_
      refine mx_p_gt ?_
      cases hq; exact mx_Ev.weak (mx_le.same _ (mx_le.drop _ (mx_le.same _ (mx_le.same _ (mx_le.nil))))) HJ
  rw [if_neg hw110] at hq
  refine mx_e_lk (mx_sw_f hw62 (mx_sw_f hw72 (mx_sw_f hw87 (mx_sw_f hw100 (mx_sw_f hw110 rfl))))) ?_
  refine mx_p_ic ?_
  cases hq; exact mx_e_rb rfl (by decide)
set_option maxRecDepth 20000 in
set_option maxHeartbeats 1000000 in
theorem e_f_X12_readsAll_L9 (l0 : Nat)   : ∀ (n : Nat) (hh : mx_Hp) res, mx_fix (f_X12_readsAll_L9 l0 ) n hh = some res → mx_Ev mx_k_X12_readsAll mx_noS (mx_b_X12_readsAll 9, [some (.ref l0), none], [], hh, 0, 0) (some (.int res.1), res.2) := by
  intro n
  induction n with
  | zero => intro hh res hq; cases hq
  | succ n ih =>
    intro hh res hq
    unfold mx_fix at hq
    generalize mx_fix (f_X12_readsAll_L9 l0 ) n = S at hq ih
    unfold f_X12_readsAll_L9 at hq
    try dsimp only at hq
    refine mx_p_aln rfl ?_
    obtain ⟨x15, hx15, hq⟩ := mx_bS hq
    refine mx_e_gi hx15 (by decide) ?_
    refine mx_p_aln rfl ?_
    obtain ⟨x16, hx16, hq⟩ := mx_bS hq
    refine mx_e_gi hx16 (by decide) ?_
    by_cases hc17 : x16 ≤ x15
    · rw [if_pos hc17] at hq
      refine mx_e_it (decide_eq_true hc17) ?_
      refine mx_p_bp ?_
      cases hq; exact mx_e_ri rfl
    · rw [if_neg hc17] at hq
      refine mx_e_if (fun z => hc17 (of_decide_eq_true z)) ?_
      refine mx_p_aln rfl ?_
      obtain ⟨x18, hx18, hq⟩ := mx_bS hq
      refine mx_e_gi hx18 (by decide) ?_
      refine mx_p_isn (loc' := [some (.ref l0), some (.int x18)]) rfl ?_
      refine mx_p_aln rfl ?_
      refine mx_p_dup rfl ?_
      obtain ⟨x19, hx19, hq⟩ := mx_bS hq
      refine mx_e_gi hx19 (by decide) ?_
      refine mx_p_ic ?_
      refine mx_p_iadd ?_
      obtain ⟨h20, hh20, hq⟩ := mx_bS hq
      refine mx_e_pi hh20 ?_
      refine mx_p_aln rfl ?_
      refine mx_p_aln rfl ?_
      obtain ⟨x21, hx21, hq⟩ := mx_bS hq
      refine mx_e_gr hx21 rfl ?_
      refine mx_p_iln rfl ?_
      obtain ⟨x22, hx22, hq⟩ := mx_bS hq
      refine mx_e_al hx22 ?_
      have ho24 : l0 < h20.1 ∧ (mx_lay l0).1 = 15 := by
        by_cases hh : l0 < h20.1 ∧ (mx_lay l0).1 = 15
        · exact hh
        · rw [if_neg hh] at hq; cases hq
      rw [if_pos ho24] at hq
      obtain ⟨x23, hx23, hq⟩ := mx_bS hq
      refine mx_e_cv mx_t_X12_readsItem ho24 rfl rfl rfl ⟨Nat.le_of_ble_eq_true rfl, Nat.le_of_ble_eq_true rfl, Nat.le_of_ble_eq_true rfl⟩ (Nat.le_of_ble_eq_true rfl) rfl rfl rfl ⟨Nat.zero_le _, Nat.zero_le _⟩ (t_X12_readsItem hx23) ?_
      by_cases hc25 : ¬ x23.1 = 0
      · rw [if_pos hc25] at hq
        refine mx_e_zt (decide_eq_true hc25) ?_
        refine mx_p_gt ?_
        have HB := ih x23.2 _ hq
        exact mx_Ev.weak (mx_le.same _ (mx_le.drop _ (mx_le.nil))) HB
      · rw [if_neg hc25] at hq
        refine mx_e_zf (fun z => hc25 (of_decide_eq_true z)) ?_
        refine mx_p_iln rfl ?_
        cases hq; exact mx_e_ri rfl
set_option maxRecDepth 20000 in
set_option maxHeartbeats 1000000 in
theorem t_X12_readsAll {a0 : Nat} {h : mx_Hp} {res} (hq : f_X12_readsAll a0 h = some res) : mx_Ms mx_k_X12_readsAll [.ref a0] h (some (.int res.1), res.2) := by
  unfold f_X12_readsAll at hq
  show mx_Ev mx_k_X12_readsAll mx_noS (mx_b_X12_readsAll 0, [some (.ref a0), none], [], h, 0, 0) _
  refine mx_p_aln rfl ?_
  have ho27 : a0 < h.1 ∧ (mx_lay a0).1 = 15 := by
    by_cases hh : a0 < h.1 ∧ (mx_lay a0).1 = 15
    · exact hh
    · rw [if_neg hh] at hq; cases hq
  rw [if_pos ho27] at hq
  obtain ⟨x26, hx26, hq⟩ := mx_bS hq
  refine mx_e_cv mx_t_X12_begins ho27 rfl rfl rfl ⟨Nat.le_of_ble_eq_true rfl, Nat.le_of_ble_eq_true rfl, Nat.le_of_ble_eq_true rfl⟩ (Nat.le_of_ble_eq_true rfl) rfl rfl rfl ⟨Nat.zero_le _, Nat.zero_le _⟩ (t_X12_begins hx26) ?_
  refine mx_p_aln rfl ?_
  refine mx_p_ic ?_
  obtain ⟨h28, hh28, hq⟩ := mx_bS hq
  refine mx_e_pi hh28 ?_
  refine mx_p_np ?_
  refine mx_Ev.weak (mx_le.same _ (mx_le.same _ (mx_le.nil))) (e_f_X12_readsAll_L9 _  _ _ _ hq)
set_option maxRecDepth 20000 in
set_option maxHeartbeats 1000000 in
theorem t_X12_fault {a0 : Nat} {h : mx_Hp} {res} (hq : f_X12_fault a0 h = some res) : mx_Ms mx_k_X12_fault [.ref a0] h (some (.int res.1), res.2) := by
  unfold f_X12_fault at hq
  show mx_Ev mx_k_X12_fault mx_noS (mx_b_X12_fault 0, [some (.ref a0)], [], h, 0, 0) _
  refine mx_p_aln rfl ?_
  have ho4 : a0 < h.1 ∧ (mx_lay a0).1 = 15 := by
    by_cases hh : a0 < h.1 ∧ (mx_lay a0).1 = 15
    · exact hh
    · rw [if_neg hh] at hq; cases hq
  rw [if_pos ho4] at hq
  obtain ⟨x3, hx3, hq⟩ := mx_bS hq
  refine mx_e_cv mx_t_X12_readsAll ho4 rfl rfl rfl ⟨Nat.le_of_ble_eq_true rfl, Nat.le_of_ble_eq_true rfl, Nat.le_of_ble_eq_true rfl⟩ (Nat.le_of_ble_eq_true rfl) rfl rfl rfl ⟨Nat.zero_le _, Nat.zero_le _⟩ (t_X12_readsAll hx3) ?_
  cases hq; exact mx_e_ri rfl
set_option maxRecDepth 20000 in
set_option maxHeartbeats 1000000 in
theorem t_X12_lay {a0 : Nat} {h : mx_Hp} {res} (hq : f_X12_lay a0 h = some res) : mx_Ms mx_k_X12_lay [.ref a0] h (some (.int res.1), res.2) := by
  unfold f_X12_lay at hq
  show mx_Ev mx_k_X12_lay mx_noS (mx_b_X12_lay 0, [some (.ref a0)], [], h, 0, 0) _
  refine mx_p_aln rfl ?_
  have ho12 : a0 < h.1 ∧ (mx_lay a0).1 = 15 := by
    by_cases hh : a0 < h.1 ∧ (mx_lay a0).1 = 15
    · exact hh
    · rw [if_neg hh] at hq; cases hq
  rw [if_pos ho12] at hq
  obtain ⟨x11, hx11, hq⟩ := mx_bS hq
  refine mx_e_cv mx_t_X12_readsAll ho12 rfl rfl rfl ⟨Nat.le_of_ble_eq_true rfl, Nat.le_of_ble_eq_true rfl, Nat.le_of_ble_eq_true rfl⟩ (Nat.le_of_ble_eq_true rfl) rfl rfl rfl ⟨Nat.zero_le _, Nat.zero_le _⟩ (t_X12_readsAll hx11) ?_
  refine mx_p_bp ?_
  by_cases hc13 : ¬ x11.1 = (-4)
  · rw [if_pos hc13] at hq
    refine mx_e_it (decide_eq_true hc13) ?_
    refine mx_p_bp ?_
    cases hq; exact mx_e_ri rfl
  · rw [if_neg hc13] at hq
    refine mx_e_if (fun z => hc13 (of_decide_eq_true z)) ?_
    refine mx_p_aln rfl ?_
    obtain ⟨x14, hx14, hq⟩ := mx_bS hq
    refine mx_e_gr hx14 rfl ?_
    refine mx_p_ic ?_
    obtain ⟨x15, hx15, hq⟩ := mx_bS hq
    refine mx_e_al hx15 ?_
    by_cases hc16 : ¬ x15 = 0
    · rw [if_pos hc16] at hq
      refine mx_e_zt (decide_eq_true hc16) ?_
      refine mx_p_aln rfl ?_
      have ho18 : a0 < x11.2.1 ∧ (mx_lay a0).1 = 15 := by
        by_cases hh : a0 < x11.2.1 ∧ (mx_lay a0).1 = 15
        · exact hh
        · rw [if_neg hh] at hq; cases hq
      rw [if_pos ho18] at hq
      obtain ⟨x17, hx17, hq⟩ := mx_bS hq
      refine mx_e_cv mx_t_X12_lays ho18 rfl rfl rfl ⟨Nat.le_of_ble_eq_true rfl, Nat.le_of_ble_eq_true rfl, Nat.le_of_ble_eq_true rfl⟩ (Nat.le_of_ble_eq_true rfl) rfl rfl rfl ⟨Nat.zero_le _, Nat.zero_le _⟩ (t_X12_lays hx17) ?_
      refine mx_p_aln rfl ?_
      obtain ⟨x19, hx19, hq⟩ := mx_bS hq
      refine mx_e_gr hx19 rfl ?_
      refine mx_p_ic ?_
      obtain ⟨x20, hx20, hq⟩ := mx_bS hq
      refine mx_e_al hx20 ?_
      cases hq; exact mx_e_ri rfl
    · rw [if_neg hc16] at hq
      refine mx_e_zf (fun z => hc16 (of_decide_eq_true z)) ?_
      refine mx_p_np ?_
      refine mx_p_bp ?_
      cases hq; exact mx_e_ri rfl
set_option maxRecDepth 20000 in
set_option maxHeartbeats 1000000 in
theorem t_X12_word {a0 : Nat} {a1 : Int32} {a2 : Int32} {h : mx_Hp} {res} (hq : f_X12_word a0 a1 a2 h = some res) : mx_Ms mx_k_X12_word [.ref a0, .int a1, .int a2] h (some (.int res), h) := by
  unfold f_X12_word at hq
  show mx_Ev mx_k_X12_word mx_noS (mx_b_X12_word 0, [some (.ref a0), some (.int a1), some (.int a2)], [], h, 0, 0) _
  refine mx_p_aln rfl ?_
  refine mx_p_iln rfl ?_
  have ho25 : a0 < h.1 ∧ (mx_lay a0).1 = 15 := by
    by_cases hh : a0 < h.1 ∧ (mx_lay a0).1 = 15
    · exact hh
    · rw [if_neg hh] at hq; cases hq
  rw [if_pos ho25] at hq
  obtain ⟨x24, hx24, hq⟩ := mx_bS hq
  refine mx_e_cv mx_t_X12_isWord ho25 rfl rfl rfl ⟨Nat.le_of_ble_eq_true rfl, Nat.le_of_ble_eq_true rfl, Nat.le_of_ble_eq_true rfl⟩ (Nat.le_of_ble_eq_true rfl) rfl rfl rfl ⟨Nat.zero_le _, Nat.zero_le _⟩ (t_X12_isWord hx24) ?_
  by_cases hc26 : ¬ x24 = 0
  · rw [if_pos hc26] at hq
    refine mx_e_zt (decide_eq_true hc26) ?_
    refine mx_p_iln rfl ?_
    by_cases hw27 : a2 = 0
    · rw [if_pos hw27] at hq
      refine mx_e_sw (mx_sw_t hw27) ?_
      refine mx_p_aln rfl ?_
      obtain ⟨x28, hx28, hq⟩ := mx_bS hq
      refine mx_e_gr hx28 rfl ?_
      refine mx_p_ic ?_
      refine mx_p_iln rfl ?_
      refine mx_p_iadd ?_
      obtain ⟨x29, hx29, hq⟩ := mx_bS hq
      refine mx_e_al hx29 ?_
      cases hq; exact mx_e_ri rfl
    rw [if_neg hw27] at hq
    by_cases hw30 : a2 = 1
    · rw [if_pos hw30] at hq
      refine mx_e_sw (mx_sw_f hw27 (mx_sw_t hw30)) ?_
      refine mx_p_aln rfl ?_
      obtain ⟨x31, hx31, hq⟩ := mx_bS hq
      refine mx_e_gr hx31 rfl ?_
      refine mx_p_bp ?_
      refine mx_p_iln rfl ?_
      refine mx_p_iadd ?_
      obtain ⟨x32, hx32, hq⟩ := mx_bS hq
      refine mx_e_al hx32 ?_
      cases hq; exact mx_e_ri rfl
    rw [if_neg hw30] at hq
    by_cases hw33 : a2 = 2
    · rw [if_pos hw33] at hq
      refine mx_e_sw (mx_sw_f hw27 (mx_sw_f hw30 (mx_sw_t hw33))) ?_
      refine mx_p_aln rfl ?_
      obtain ⟨x34, hx34, hq⟩ := mx_bS hq
      refine mx_e_gr hx34 rfl ?_
      refine mx_p_bp ?_
      refine mx_p_iln rfl ?_
      refine mx_p_iadd ?_
      obtain ⟨x35, hx35, hq⟩ := mx_bS hq
      refine mx_e_al hx35 ?_
      cases hq; exact mx_e_ri rfl
    rw [if_neg hw33] at hq
    by_cases hw36 : a2 = 3
    · rw [if_pos hw36] at hq
      refine mx_e_sw (mx_sw_f hw27 (mx_sw_f hw30 (mx_sw_f hw33 (mx_sw_t hw36)))) ?_
      refine mx_p_aln rfl ?_
      obtain ⟨x37, hx37, hq⟩ := mx_bS hq
      refine mx_e_gr hx37 rfl ?_
      refine mx_p_bp ?_
      obtain ⟨x38, hx38, hq⟩ := mx_bS hq
      refine mx_e_al hx38 ?_
      refine mx_p_iln rfl ?_
      obtain ⟨x39, hx39, hq⟩ := mx_bS hq
      refine mx_e_cs mx_t_X12_has rfl rfl rfl ⟨Nat.le_of_ble_eq_true rfl, Nat.le_of_ble_eq_true rfl, Nat.le_of_ble_eq_true rfl⟩ (Nat.le_of_ble_eq_true rfl) rfl rfl ⟨Nat.zero_le _, Nat.zero_le _⟩ (t_X12_has hx39) ?_
      obtain ⟨v41, hE, hK⟩ := mx_bS hq
      have HJ : mx_Ev mx_k_X12_word mx_noS (mx_b_X12_word 88, [some (.ref a0), some (.int a1), none], [.int v41], h, 0, 0) (some (.int res), h) := by
        replace hq := hK
        refine mx_p_aln rfl ?_
        obtain ⟨x42, hx42, hq⟩ := mx_bS hq
        refine mx_e_gr hx42 rfl ?_
        refine mx_p_bp ?_
        obtain ⟨x43, hx43, hq⟩ := mx_bS hq
        refine mx_e_al hx43 ?_
        refine mx_p_iln rfl ?_
        obtain ⟨x44, hx44, hq⟩ := mx_bS hq
        refine mx_e_cs mx_t_X12_has rfl rfl rfl ⟨Nat.le_of_ble_eq_true rfl, Nat.le_of_ble_eq_true rfl, Nat.le_of_ble_eq_true rfl⟩ (Nat.le_of_ble_eq_true rfl) rfl rfl ⟨Nat.zero_le _, Nat.zero_le _⟩ (t_X12_has hx44) ?_
        obtain ⟨v46, hE, hK⟩ := mx_bS hq
        have HJ : mx_Ev mx_k_X12_word mx_noS (mx_b_X12_word 107, [none, none, none], [.int v46, .int v41], h, 0, 0) (some (.int res), h) := by
          replace hq := hK
          refine mx_p_iadd ?_
          cases hq; exact mx_e_ri rfl
        clear hK
        replace hq := hE
        by_cases hc45 : x44 = 0
        · rw [if_pos hc45] at hq
          refine mx_e_zt (decide_eq_true hc45) ?_
          refine mx_p_ic ?_
          refine mx_p_np ?_
          cases hq; exact mx_Ev.weak (mx_le.drop _ (mx_le.drop _ (mx_le.same _ (mx_le.nil)))) HJ
        · rw [if_neg hc45] at hq
          refine mx_e_zf (fun z => hc45 (of_decide_eq_true z)) ?_
          refine mx_p_ic ?_
          refine mx_p_gt ?_
          cases hq; exact mx_Ev.weak (mx_le.drop _ (mx_le.drop _ (mx_le.same _ (mx_le.nil)))) HJ
      clear hK
      replace hq := hE
      by_cases hc40 : x39 = 0
      · rw [if_pos hc40] at hq
        refine mx_e_zt (decide_eq_true hc40) ?_
        refine mx_p_ic ?_
        refine mx_p_np ?_
        cases hq; exact mx_Ev.weak (mx_le.same _ (mx_le.same _ (mx_le.drop _ (mx_le.nil)))) HJ
      · rw [if_neg hc40] at hq
        refine mx_e_zf (fun z => hc40 (of_decide_eq_true z)) ?_
        refine mx_p_ic ?_
        refine mx_p_gt ?_
        cases hq; exact mx_Ev.weak (mx_le.same _ (mx_le.same _ (mx_le.drop _ (mx_le.nil)))) HJ
    rw [if_neg hw36] at hq
    refine mx_e_sw (mx_sw_f hw27 (mx_sw_f hw30 (mx_sw_f hw33 (mx_sw_f hw36 rfl)))) ?_
    refine mx_p_ic ?_
    cases hq; exact mx_e_ri rfl
  · rw [if_neg hc26] at hq
    refine mx_e_zf (fun z => hc26 (of_decide_eq_true z)) ?_
    refine mx_p_ic ?_
    cases hq; exact mx_e_ri rfl
set_option maxRecDepth 20000 in
set_option maxHeartbeats 1000000 in
theorem t_X12_mayor {a0 : Nat} {a1 : Int32} {a2 : Int32} {h : mx_Hp} {res} (hq : f_X12_mayor a0 a1 a2 h = some res) : mx_Ms mx_k_X12_mayor [.ref a0, .int a1, .int a2] h (some (.int res), h) := by
  unfold f_X12_mayor at hq
  show mx_Ev mx_k_X12_mayor mx_noS (mx_b_X12_mayor 0, [some (.ref a0), some (.int a1), some (.int a2)], [], h, 0, 0) _
  refine mx_p_iln rfl ?_
  refine mx_p_ic ?_
  refine mx_p_ic ?_
  obtain ⟨x17, hx17, hq⟩ := mx_bS hq
  refine mx_e_cs mx_t_X12_in rfl rfl rfl ⟨Nat.le_of_ble_eq_true rfl, Nat.le_of_ble_eq_true rfl, Nat.le_of_ble_eq_true rfl⟩ (Nat.le_of_ble_eq_true rfl) rfl rfl ⟨Nat.zero_le _, Nat.zero_le _⟩ (t_X12_in hx17) ?_
  by_cases hc18 : ¬ x17 = 0
  · rw [if_pos hc18] at hq
    refine mx_e_zt (decide_eq_true hc18) ?_
    refine mx_p_iln rfl ?_
    by_cases hw19 : a2 = 0
    · rw [if_pos hw19] at hq
      refine mx_e_sw (mx_sw_t hw19) ?_
      refine mx_p_aln rfl ?_
      obtain ⟨x20, hx20, hq⟩ := mx_bS hq
      refine mx_e_gr hx20 rfl ?_
      refine mx_p_bp ?_
      obtain ⟨x21, hx21, hq⟩ := mx_bS hq
      refine mx_e_al hx21 ?_
      refine mx_p_iln rfl ?_
      obtain ⟨v23, hE, hK⟩ := mx_bS hq
      have HJ : mx_Ev mx_k_X12_mayor mx_noS (mx_b_X12_mayor 60, [none, none, none], [.int v23], h, 0, 0) (some (.int res), h) := by
        replace hq := hK
        cases hq; exact mx_e_ri rfl
      clear hK
      replace hq := hE
      by_cases hc22 : ¬ x21 = a1
      · rw [if_pos hc22] at hq
        refine mx_e_it (decide_eq_true hc22) ?_
        refine mx_p_ic ?_
        refine mx_p_np ?_
        cases hq; exact mx_Ev.weak (mx_le.drop _ (mx_le.drop _ (mx_le.drop _ (mx_le.nil)))) HJ
      · rw [if_neg hc22] at hq
        refine mx_e_if (fun z => hc22 (of_decide_eq_true z)) ?_
        refine mx_p_ic ?_
        refine mx_p_gt ?_
        cases hq; exact mx_Ev.weak (mx_le.drop _ (mx_le.drop _ (mx_le.drop _ (mx_le.nil)))) HJ
    rw [if_neg hw19] at hq
    by_cases hw24 : a2 = 1
    · rw [if_pos hw24] at hq
      refine mx_e_sw (mx_sw_f hw19 (mx_sw_t hw24)) ?_
      refine mx_p_aln rfl ?_
      obtain ⟨x25, hx25, hq⟩ := mx_bS hq
      refine mx_e_gr hx25 rfl ?_
      refine mx_p_bp ?_
      refine mx_p_iln rfl ?_
      refine mx_p_iadd ?_
      obtain ⟨x26, hx26, hq⟩ := mx_bS hq
      refine mx_e_al hx26 ?_
      cases hq; exact mx_e_ri rfl
    rw [if_neg hw24] at hq
    by_cases hw27 : a2 = 2
    · rw [if_pos hw27] at hq
      refine mx_e_sw (mx_sw_f hw19 (mx_sw_f hw24 (mx_sw_t hw27))) ?_
      refine mx_p_aln rfl ?_
      obtain ⟨x28, hx28, hq⟩ := mx_bS hq
      refine mx_e_gr hx28 rfl ?_
      refine mx_p_bp ?_
      refine mx_p_iln rfl ?_
      refine mx_p_iadd ?_
      obtain ⟨x29, hx29, hq⟩ := mx_bS hq
      refine mx_e_al hx29 ?_
      cases hq; exact mx_e_ri rfl
    rw [if_neg hw27] at hq
    by_cases hw30 : a2 = 3
    · rw [if_pos hw30] at hq
      refine mx_e_sw (mx_sw_f hw19 (mx_sw_f hw24 (mx_sw_f hw27 (mx_sw_t hw30)))) ?_
      refine mx_p_aln rfl ?_
      obtain ⟨x31, hx31, hq⟩ := mx_bS hq
      refine mx_e_gr hx31 rfl ?_
      refine mx_p_bp ?_
      refine mx_p_iln rfl ?_
      refine mx_p_iadd ?_
      obtain ⟨x32, hx32, hq⟩ := mx_bS hq
      refine mx_e_al hx32 ?_
      cases hq; exact mx_e_ri rfl
    rw [if_neg hw30] at hq
    refine mx_e_sw (mx_sw_f hw19 (mx_sw_f hw24 (mx_sw_f hw27 (mx_sw_f hw30 rfl)))) ?_
    refine mx_p_ic ?_
    cases hq; exact mx_e_ri rfl
  · rw [if_neg hc18] at hq
    refine mx_e_zf (fun z => hc18 (of_decide_eq_true z)) ?_
    refine mx_p_ic ?_
    cases hq; exact mx_e_ri rfl
set_option maxRecDepth 20000 in
set_option maxHeartbeats 1000000 in
theorem t_X12_said {a0 : Nat} {a1 : Int32} {h : mx_Hp} {res} (hq : f_X12_said a0 a1 h = some res) : mx_Ms mx_k_X12_said [.ref a0, .int a1] h (some (.int res), h) := by
  unfold f_X12_said at hq
  show mx_Ev mx_k_X12_said mx_noS (mx_b_X12_said 0, [some (.ref a0), some (.int a1)], [], h, 0, 0) _
  refine mx_p_iln rfl ?_
  obtain ⟨v14, hE, hK⟩ := mx_bS hq
  have HJ : mx_Ev mx_k_X12_said mx_noS (mx_b_X12_said 30, [none, none], [.int v14], h, 0, 0) (some (.int res), h) := by
    replace hq := hK
    cases hq; exact mx_e_ri rfl
  clear hK
  replace hq := hE
  by_cases hc8 : 0 ≤ a1
  · rw [if_pos hc8] at hq
    refine mx_e_zt (decide_eq_true hc8) ?_
    refine mx_p_iln rfl ?_
    refine mx_p_aln rfl ?_
    obtain ⟨x9, hx9, hq⟩ := mx_bS hq
    refine mx_e_gr hx9 rfl ?_
    refine mx_p_bp ?_
    obtain ⟨x10, hx10, hq⟩ := mx_bS hq
    refine mx_e_al hx10 ?_
    by_cases hc11 : x10 ≤ a1
    · rw [if_pos hc11] at hq
      refine mx_e_it (decide_eq_true hc11) ?_
      refine mx_p_bp ?_
      refine mx_p_np ?_
      cases hq; exact mx_Ev.weak (mx_le.drop _ (mx_le.drop _ (mx_le.nil))) HJ
    · rw [if_neg hc11] at hq
      refine mx_e_if (fun z => hc11 (of_decide_eq_true z)) ?_
      refine mx_p_aln rfl ?_
      obtain ⟨x12, hx12, hq⟩ := mx_bS hq
      refine mx_e_gr hx12 rfl ?_
      refine mx_p_iln rfl ?_
      obtain ⟨x13, hx13, hq⟩ := mx_bS hq
      refine mx_e_al hx13 ?_
      refine mx_p_gt ?_
      cases hq; exact mx_Ev.weak (mx_le.drop _ (mx_le.drop _ (mx_le.nil))) HJ
  · rw [if_neg hc8] at hq
    refine mx_e_zf (fun z => hc8 (of_decide_eq_true z)) ?_
    refine mx_p_ic ?_
    refine mx_p_gt ?_
    cases hq; exact mx_Ev.weak (mx_le.drop _ (mx_le.drop _ (mx_le.nil))) HJ
set_option maxRecDepth 20000 in
set_option maxHeartbeats 1000000 in
theorem e_f_X12_keeps_L51 (l0 : Nat) (k83 : Int32 × mx_Hp → Option (mx_Hp)) (Hk83 : ∀ (s1 : Int32) (hh : mx_Hp) res, k83 (s1, hh) = some res → mx_Ev mx_k_X12_keeps mx_noS (mx_b_X12_keeps 83, [some (.ref l0), none], [], hh, 0, 0) (none, res)) : ∀ (n : Nat) (s1 : Int32) (hh : mx_Hp) res, mx_fix (f_X12_keeps_L51 l0 k83) n (s1, hh) = some res → mx_Ev mx_k_X12_keeps mx_noS (mx_b_X12_keeps 51, [some (.ref l0), some (.int s1)], [], hh, 0, 0) (none, res) := by
  intro n
  induction n with
  | zero => intro s1 hh res hq; cases hq
  | succ n ih =>
    intro s1 hh res hq
    unfold mx_fix at hq
    generalize mx_fix (f_X12_keeps_L51 l0 k83) n = S at hq ih
    unfold f_X12_keeps_L51 at hq
    try dsimp only at hq
    refine mx_p_iln rfl ?_
    refine mx_p_bp ?_
    by_cases hc9 : 22 ≤ s1
    · rw [if_pos hc9] at hq
      refine mx_e_it (decide_eq_true hc9) ?_
      have HB := Hk83 s1 hh _ hq
      exact mx_Ev.weak (mx_le.same _ (mx_le.drop _ (mx_le.nil))) HB
    · rw [if_neg hc9] at hq
      refine mx_e_if (fun z => hc9 (of_decide_eq_true z)) ?_
      refine mx_p_aln rfl ?_
      obtain ⟨x10, hx10, hq⟩ := mx_bS hq
      refine mx_e_gr hx10 rfl ?_
      refine mx_p_bp ?_
      refine mx_p_aln rfl ?_
      obtain ⟨x11, hx11, hq⟩ := mx_bS hq
      refine mx_e_gi hx11 (by decide) ?_
      refine mx_p_imul ?_
      refine mx_p_iln rfl ?_
      refine mx_p_iadd ?_
      refine mx_p_aln rfl ?_
      obtain ⟨x12, hx12, hq⟩ := mx_bS hq
      refine mx_e_gr hx12 rfl ?_
      refine mx_p_iln rfl ?_
      obtain ⟨x13, hx13, hq⟩ := mx_bS hq
      refine mx_e_al hx13 ?_
      obtain ⟨h14, hh14, hq⟩ := mx_bS hq
      refine mx_e_as hh14 ?_
      refine mx_p_inc (loc' := [some (.ref l0), some (.int (s1 + 1))]) rfl rfl ?_
      refine mx_p_gt ?_
      have HB := ih (s1 + 1) h14 _ hq
      exact mx_Ev.weak (mx_le.same _ (mx_le.same _ (mx_le.nil))) HB
set_option maxRecDepth 20000 in
set_option maxHeartbeats 1000000 in
theorem e_f_X12_keeps_L11 (l0 : Nat) (k39 : Int32 × mx_Hp → Option (mx_Hp)) (Hk39 : ∀ (s1 : Int32) (hh : mx_Hp) res, k39 (s1, hh) = some res → mx_Ev mx_k_X12_keeps mx_noS (mx_b_X12_keeps 39, [some (.ref l0), none], [], hh, 0, 0) (none, res)) : ∀ (n : Nat) (s1 : Int32) (hh : mx_Hp) res, mx_fix (f_X12_keeps_L11 l0 k39) n (s1, hh) = some res → mx_Ev mx_k_X12_keeps mx_noS (mx_b_X12_keeps 11, [some (.ref l0), some (.int s1)], [], hh, 0, 0) (none, res) := by
  intro n
  induction n with
  | zero => intro s1 hh res hq; cases hq
  | succ n ih =>
    intro s1 hh res hq
    unfold mx_fix at hq
    generalize mx_fix (f_X12_keeps_L11 l0 k39) n = S at hq ih
    unfold f_X12_keeps_L11 at hq
    try dsimp only at hq
    refine mx_p_iln rfl ?_
    refine mx_p_sp ?_
    by_cases hc23 : 154 ≤ s1
    · rw [if_pos hc23] at hq
      refine mx_e_it (decide_eq_true hc23) ?_
      have HB := Hk39 s1 hh _ hq
      exact mx_Ev.weak (mx_le.same _ (mx_le.drop _ (mx_le.nil))) HB
    · rw [if_neg hc23] at hq
      refine mx_e_if (fun z => hc23 (of_decide_eq_true z)) ?_
      refine mx_p_aln rfl ?_
      obtain ⟨x24, hx24, hq⟩ := mx_bS hq
      refine mx_e_gr hx24 rfl ?_
      refine mx_p_iln rfl ?_
      refine mx_p_aln rfl ?_
      obtain ⟨x25, hx25, hq⟩ := mx_bS hq
      refine mx_e_gr hx25 rfl ?_
      refine mx_p_iln rfl ?_
      refine mx_p_bp ?_
      refine mx_p_iadd ?_
      obtain ⟨x26, hx26, hq⟩ := mx_bS hq
      refine mx_e_al hx26 ?_
      obtain ⟨h27, hh27, hq⟩ := mx_bS hq
      refine mx_e_as hh27 ?_
      refine mx_p_inc (loc' := [some (.ref l0), some (.int (s1 + 1))]) rfl rfl ?_
      refine mx_p_gt ?_
      have HB := ih (s1 + 1) h27 _ hq
      exact mx_Ev.weak (mx_le.same _ (mx_le.same _ (mx_le.nil))) HB
set_option maxRecDepth 20000 in
set_option maxHeartbeats 1000000 in
theorem t_X12_keeps {a0 : Nat} {h : mx_Hp} {res} (hq : f_X12_keeps a0 h = some res) : mx_Ms mx_k_X12_keeps [.ref a0] h (none, res) := by
  unfold f_X12_keeps at hq
  show mx_Ev mx_k_X12_keeps mx_noS (mx_b_X12_keeps 0, [some (.ref a0), none], [], h, 0, 0) _
  refine mx_p_aln rfl ?_
  obtain ⟨x34, hx34, hq⟩ := mx_bS hq
  refine mx_e_gi hx34 (by decide) ?_
  refine mx_p_bp ?_
  by_cases hc35 : ¬ x34 = 8
  · rw [if_pos hc35] at hq
    refine mx_e_it (decide_eq_true hc35) ?_
    refine mx_p_ic ?_
    refine mx_p_isn (loc' := [some (.ref a0), some (.int 0)]) rfl ?_
    refine mx_p_np ?_
    refine mx_Ev.weak (mx_le.same _ (mx_le.same _ (mx_le.nil))) (e_f_X12_keeps_L51 _ _ ?_ _ _ _ _ hq)
    · intro c36 c37 res hq
      try dsimp only at hq
      refine mx_p_aln rfl ?_
      refine mx_p_dup rfl ?_
      obtain ⟨x38, hx38, hq⟩ := mx_bS hq
      refine mx_e_gi hx38 (by decide) ?_
      refine mx_p_ic ?_
      refine mx_p_iadd ?_
      obtain ⟨h39, hh39, hq⟩ := mx_bS hq
      refine mx_e_pi hh39 ?_
      cases hq; exact mx_p_rv
  · rw [if_neg hc35] at hq
    refine mx_e_if (fun z => hc35 (of_decide_eq_true z)) ?_
    refine mx_p_ic ?_
    refine mx_p_isn (loc' := [some (.ref a0), some (.int 0)]) rfl ?_
    refine mx_p_np ?_
    refine mx_Ev.weak (mx_le.same _ (mx_le.same _ (mx_le.nil))) (e_f_X12_keeps_L11 _ _ ?_ _ _ _ _ hq)
    · intro c40 c41 res hq
      try dsimp only at hq
      refine mx_p_aln rfl ?_
      refine mx_p_dup rfl ?_
      obtain ⟨x42, hx42, hq⟩ := mx_bS hq
      refine mx_e_gi hx42 (by decide) ?_
      refine mx_p_ic ?_
      refine mx_p_isub ?_
      obtain ⟨h43, hh43, hq⟩ := mx_bS hq
      refine mx_e_pi hh43 ?_
      refine mx_p_np ?_
      refine mx_p_ic ?_
      refine mx_p_isn (loc' := [some (.ref a0), some (.int 0)]) rfl ?_
      refine mx_p_np ?_
      refine mx_Ev.weak (mx_le.same _ (mx_le.same _ (mx_le.nil))) (e_f_X12_keeps_L51 _ _ ?_ _ _ _ _ hq)
      · intro c44 c45 res hq
        try dsimp only at hq
        refine mx_p_aln rfl ?_
        refine mx_p_dup rfl ?_
        obtain ⟨x46, hx46, hq⟩ := mx_bS hq
        refine mx_e_gi hx46 (by decide) ?_
        refine mx_p_ic ?_
        refine mx_p_iadd ?_
        obtain ⟨h47, hh47, hq⟩ := mx_bS hq
        refine mx_e_pi hh47 ?_
        cases hq; exact mx_p_rv
set_option maxRecDepth 20000 in
set_option maxHeartbeats 1000000 in
theorem t_X12_last {a0 : Nat} {h : mx_Hp} {res} (hq : f_X12_last a0 h = some res) : mx_Ms mx_k_X12_last [.ref a0] h (some (.int res), h) := by
  unfold f_X12_last at hq
  show mx_Ev mx_k_X12_last mx_noS (mx_b_X12_last 0, [some (.ref a0)], [], h, 0, 0) _
  refine mx_p_aln rfl ?_
  obtain ⟨x5, hx5, hq⟩ := mx_bS hq
  refine mx_e_gr hx5 rfl ?_
  refine mx_p_aln rfl ?_
  obtain ⟨x6, hx6, hq⟩ := mx_bS hq
  refine mx_e_gr hx6 rfl ?_
  refine mx_p_bp ?_
  obtain ⟨x7, hx7, hq⟩ := mx_bS hq
  refine mx_e_al hx7 ?_
  refine mx_p_ic ?_
  refine mx_p_isub ?_
  obtain ⟨x8, hx8, hq⟩ := mx_bS hq
  refine mx_e_al hx8 ?_
  cases hq; exact mx_e_ri rfl
set_option maxRecDepth 20000 in
set_option maxHeartbeats 1000000 in
theorem t_X12_maySay {a0 : Nat} {a1 : Int32} {h : mx_Hp} {res} (hq : f_X12_maySay a0 a1 h = some res) : mx_Ms mx_k_X12_maySay [.ref a0, .int a1] h (some (.int res), h) := by
  unfold f_X12_maySay at hq
  show mx_Ev mx_k_X12_maySay mx_noS (mx_b_X12_maySay 0, [some (.ref a0), some (.int a1)], [], h, 0, 0) _
  refine mx_p_aln rfl ?_
  obtain ⟨x12, hx12, hq⟩ := mx_bS hq
  refine mx_e_gr hx12 rfl ?_
  refine mx_p_bp ?_
  obtain ⟨x13, hx13, hq⟩ := mx_bS hq
  refine mx_e_al hx13 ?_
  obtain ⟨v21, hE, hK⟩ := mx_bS hq
  have HJ : mx_Ev mx_k_X12_maySay mx_noS (mx_b_X12_maySay 34, [none, none], [.int v21], h, 0, 0) (some (.int res), h) := by
    replace hq := hK
    by_cases hb22 : v21 = 0 ∨ v21 = 1
    · rw [if_pos hb22] at hq; cases hq; exact mx_e_rb rfl hb22
    · rw [if_neg hb22] at hq; cases hq
  clear hK
  replace hq := hE
  by_cases hc14 : x13 = 0
  · rw [if_pos hc14] at hq
    refine mx_e_zt (decide_eq_true hc14) ?_
    refine mx_p_ic ?_
    refine mx_p_gt ?_
    cases hq; exact mx_Ev.weak (mx_le.drop _ (mx_le.drop _ (mx_le.nil))) HJ
  · rw [if_neg hc14] at hq
    refine mx_e_zf (fun z => hc14 (of_decide_eq_true z)) ?_
    refine mx_p_aln rfl ?_
    obtain ⟨x15, hx15, hq⟩ := mx_bS hq
    refine mx_e_gr hx15 rfl ?_
    refine mx_p_bp ?_
    refine mx_p_aln rfl ?_
    have ho17 : a0 < h.1 ∧ (mx_lay a0).1 = 15 := by
      by_cases hh : a0 < h.1 ∧ (mx_lay a0).1 = 15
      · exact hh
      · rw [if_neg hh] at hq; cases hq
    rw [if_pos ho17] at hq
    obtain ⟨x16, hx16, hq⟩ := mx_bS hq
    refine mx_e_cv mx_t_X12_last ho17 rfl rfl rfl ⟨Nat.le_of_ble_eq_true rfl, Nat.le_of_ble_eq_true rfl, Nat.le_of_ble_eq_true rfl⟩ (Nat.le_of_ble_eq_true rfl) rfl rfl rfl ⟨Nat.zero_le _, Nat.zero_le _⟩ (t_X12_last hx16) ?_
    refine mx_p_iadd ?_
    obtain ⟨x18, hx18, hq⟩ := mx_bS hq
    refine mx_e_al hx18 ?_
    refine mx_p_iln rfl ?_
    obtain ⟨x19, hx19, hq⟩ := mx_bS hq
    refine mx_e_cs mx_t_X12_has rfl rfl rfl ⟨Nat.le_of_ble_eq_true rfl, Nat.le_of_ble_eq_true rfl, Nat.le_of_ble_eq_true rfl⟩ (Nat.le_of_ble_eq_true rfl) rfl rfl ⟨Nat.zero_le _, Nat.zero_le _⟩ (t_X12_has hx19) ?_
    by_cases hc20 : x19 = 0
    · rw [if_pos hc20] at hq
      refine mx_e_zt (decide_eq_true hc20) ?_
      refine mx_p_ic ?_
      refine mx_p_np ?_
      cases hq; exact mx_Ev.weak (mx_le.drop _ (mx_le.drop _ (mx_le.nil))) HJ
    · rw [if_neg hc20] at hq
      refine mx_e_zf (fun z => hc20 (of_decide_eq_true z)) ?_
      refine mx_p_np ?_
      refine mx_p_ic ?_
      refine mx_p_gt ?_
      cases hq; exact mx_Ev.weak (mx_le.drop _ (mx_le.drop _ (mx_le.nil))) HJ
set_option maxRecDepth 20000 in
set_option maxHeartbeats 1000000 in
theorem t_X12_says {a0 : Nat} {a1 : Int32} {h : mx_Hp} {res} (hq : f_X12_says a0 a1 h = some res) : mx_Ms mx_k_X12_says [.ref a0, .int a1] h (none, res) := by
  unfold f_X12_says at hq
  show mx_Ev mx_k_X12_says mx_noS (mx_b_X12_says 0, [some (.ref a0), some (.int a1)], [], h, 0, 0) _
  refine mx_p_aln rfl ?_
  obtain ⟨x11, hx11, hq⟩ := mx_bS hq
  refine mx_e_gr hx11 rfl ?_
  refine mx_p_aln rfl ?_
  obtain ⟨x12, hx12, hq⟩ := mx_bS hq
  refine mx_e_gr hx12 rfl ?_
  refine mx_p_bp ?_
  obtain ⟨x13, hx13, hq⟩ := mx_bS hq
  refine mx_e_al hx13 ?_
  refine mx_p_iln rfl ?_
  obtain ⟨h14, hh14, hq⟩ := mx_bS hq
  refine mx_e_as hh14 ?_
  refine mx_p_aln rfl ?_
  obtain ⟨x15, hx15, hq⟩ := mx_bS hq
  refine mx_e_gr hx15 rfl ?_
  refine mx_p_bp ?_
  refine mx_p_dup2 rfl rfl ?_
  obtain ⟨x16, hx16, hq⟩ := mx_bS hq
  refine mx_e_al hx16 ?_
  refine mx_p_ic ?_
  refine mx_p_iadd ?_
  obtain ⟨h17, hh17, hq⟩ := mx_bS hq
  refine mx_e_as hh17 ?_
  refine mx_p_aln rfl ?_
  obtain ⟨x18, hx18, hq⟩ := mx_bS hq
  refine mx_e_gr hx18 rfl ?_
  refine mx_p_bp ?_
  refine mx_p_dup2 rfl rfl ?_
  obtain ⟨x19, hx19, hq⟩ := mx_bS hq
  refine mx_e_al hx19 ?_
  refine mx_p_ic ?_
  refine mx_p_iadd ?_
  obtain ⟨h20, hh20, hq⟩ := mx_bS hq
  refine mx_e_as hh20 ?_
  cases hq; exact mx_p_rv
set_option maxRecDepth 20000 in
set_option maxHeartbeats 1000000 in
theorem t_X12_say {a0 : Nat} {a1 : Int32} {h : mx_Hp} {res} (hq : f_X12_say a0 a1 h = some res) : mx_Ms mx_k_X12_say [.ref a0, .int a1] h (some (.int res.1), res.2) := by
  unfold f_X12_say at hq
  show mx_Ev mx_k_X12_say mx_noS (mx_b_X12_say 0, [some (.ref a0), some (.int a1)], [], h, 0, 0) _
  refine mx_p_aln rfl ?_
  refine mx_p_iln rfl ?_
  have ho17 : a0 < h.1 ∧ (mx_lay a0).1 = 15 := by
    by_cases hh : a0 < h.1 ∧ (mx_lay a0).1 = 15
    · exact hh
    · rw [if_neg hh] at hq; cases hq
  rw [if_pos ho17] at hq
  obtain ⟨x16, hx16, hq⟩ := mx_bS hq
  refine mx_e_cv mx_t_X12_isWord ho17 rfl rfl rfl ⟨Nat.le_of_ble_eq_true rfl, Nat.le_of_ble_eq_true rfl, Nat.le_of_ble_eq_true rfl⟩ (Nat.le_of_ble_eq_true rfl) rfl rfl rfl ⟨Nat.zero_le _, Nat.zero_le _⟩ (t_X12_isWord hx16) ?_
  by_cases hc18 : ¬ x16 = 0
  · rw [if_pos hc18] at hq
    refine mx_e_zt (decide_eq_true hc18) ?_
    refine mx_p_aln rfl ?_
    refine mx_p_iln rfl ?_
    have ho20 : a0 < h.1 ∧ (mx_lay a0).1 = 15 := by
      by_cases hh : a0 < h.1 ∧ (mx_lay a0).1 = 15
      · exact hh
      · rw [if_neg hh] at hq; cases hq
    rw [if_pos ho20] at hq
    obtain ⟨x19, hx19, hq⟩ := mx_bS hq
    refine mx_e_cv mx_t_X12_maySay ho20 rfl rfl rfl ⟨Nat.le_of_ble_eq_true rfl, Nat.le_of_ble_eq_true rfl, Nat.le_of_ble_eq_true rfl⟩ (Nat.le_of_ble_eq_true rfl) rfl rfl rfl ⟨Nat.zero_le _, Nat.zero_le _⟩ (t_X12_maySay hx19) ?_
    by_cases hc21 : ¬ x19 = 0
    · rw [if_pos hc21] at hq
      refine mx_e_zt (decide_eq_true hc21) ?_
      refine mx_p_aln rfl ?_
      obtain ⟨x22, hx22, hq⟩ := mx_bS hq
      refine mx_e_gr hx22 rfl ?_
      refine mx_p_bp ?_
      obtain ⟨x23, hx23, hq⟩ := mx_bS hq
      refine mx_e_al hx23 ?_
      refine mx_p_bp ?_
      by_cases hc24 : ¬ x23 = 12
      · rw [if_pos hc24] at hq
        refine mx_e_it (decide_eq_true hc24) ?_
        refine mx_p_aln rfl ?_
        have ho26 : a0 < h.1 ∧ (mx_lay a0).1 = 15 := by
          by_cases hh : a0 < h.1 ∧ (mx_lay a0).1 = 15
          · exact hh
          · rw [if_neg hh] at hq; cases hq
        rw [if_pos ho26] at hq
        obtain ⟨x25, hx25, hq⟩ := mx_bS hq
        refine mx_e_cv mx_t_X12_keeps ho26 rfl rfl rfl ⟨Nat.le_of_ble_eq_true rfl, Nat.le_of_ble_eq_true rfl, Nat.le_of_ble_eq_true rfl⟩ (Nat.le_of_ble_eq_true rfl) rfl rfl rfl ⟨Nat.zero_le _, Nat.zero_le _⟩ (t_X12_keeps hx25) ?_
        refine mx_p_aln rfl ?_
        refine mx_p_iln rfl ?_
        have ho28 : a0 < x25.1 ∧ (mx_lay a0).1 = 15 := by
          by_cases hh : a0 < x25.1 ∧ (mx_lay a0).1 = 15
          · exact hh
          · rw [if_neg hh] at hq; cases hq
        rw [if_pos ho28] at hq
        obtain ⟨x27, hx27, hq⟩ := mx_bS hq
        refine mx_e_cv mx_t_X12_says ho28 rfl rfl rfl ⟨Nat.le_of_ble_eq_true rfl, Nat.le_of_ble_eq_true rfl, Nat.le_of_ble_eq_true rfl⟩ (Nat.le_of_ble_eq_true rfl) rfl rfl rfl ⟨Nat.zero_le _, Nat.zero_le _⟩ (t_X12_says hx27) ?_
        refine mx_p_aln rfl ?_
        obtain ⟨x29, hx29, hq⟩ := mx_bS hq
        refine mx_e_gr hx29 rfl ?_
        refine mx_p_bp ?_
        obtain ⟨x30, hx30, hq⟩ := mx_bS hq
        refine mx_e_al hx30 ?_
        cases hq; exact mx_e_ri rfl
      · rw [if_neg hc24] at hq
        refine mx_e_if (fun z => hc24 (of_decide_eq_true z)) ?_
        refine mx_p_bp ?_
        cases hq; exact mx_e_ri rfl
    · rw [if_neg hc21] at hq
      refine mx_e_zf (fun z => hc21 (of_decide_eq_true z)) ?_
      refine mx_p_bp ?_
      cases hq; exact mx_e_ri rfl
  · rw [if_neg hc18] at hq
    refine mx_e_zf (fun z => hc18 (of_decide_eq_true z)) ?_
    refine mx_p_ic ?_
    cases hq; exact mx_e_ri rfl
set_option maxRecDepth 20000 in
set_option maxHeartbeats 1000000 in
theorem e_f_X12_worthNow_L4 (l0 : Nat) (h : mx_Hp)   : ∀ (n : Nat) (s1 : Int32) (s2 : Int32) res, mx_fix (f_X12_worthNow_L4 l0 h ) n (s1, s2) = some res → mx_Ev mx_k_X12_worthNow mx_noS (mx_b_X12_worthNow 4, [some (.ref l0), some (.int s1), some (.int s2)], [], h, 0, 0) (some (.int res), h) := by
  intro n
  induction n with
  | zero => intro s1 s2 res hq; cases hq
  | succ n ih =>
    intro s1 s2 res hq
    unfold mx_fix at hq
    generalize mx_fix (f_X12_worthNow_L4 l0 h ) n = S at hq ih
    unfold f_X12_worthNow_L4 at hq
    try dsimp only at hq
    refine mx_p_iln rfl ?_
    refine mx_p_aln rfl ?_
    obtain ⟨x8, hx8, hq⟩ := mx_bS hq
    refine mx_e_gr hx8 rfl ?_
    refine mx_p_bp ?_
    obtain ⟨x9, hx9, hq⟩ := mx_bS hq
    refine mx_e_al hx9 ?_
    by_cases hc10 : x9 ≤ s2
    · rw [if_pos hc10] at hq
      refine mx_e_it (decide_eq_true hc10) ?_
      refine mx_p_iln rfl ?_
      cases hq; exact mx_e_ri rfl
    · rw [if_neg hc10] at hq
      refine mx_e_if (fun z => hc10 (of_decide_eq_true z)) ?_
      refine mx_p_iln rfl ?_
      refine mx_p_aln rfl ?_
      obtain ⟨x11, hx11, hq⟩ := mx_bS hq
      refine mx_e_gr hx11 rfl ?_
      refine mx_p_bp ?_
      refine mx_p_aln rfl ?_
      obtain ⟨x12, hx12, hq⟩ := mx_bS hq
      refine mx_e_gr hx12 rfl ?_
      refine mx_p_iln rfl ?_
      obtain ⟨x13, hx13, hq⟩ := mx_bS hq
      refine mx_e_al hx13 ?_
      refine mx_p_iadd ?_
      obtain ⟨x14, hx14, hq⟩ := mx_bS hq
      refine mx_e_al hx14 ?_
      refine mx_p_iadd ?_
      refine mx_p_isn (loc' := [some (.ref l0), some (.int (s1 + x14)), some (.int s2)]) rfl ?_
      refine mx_p_inc (loc' := [some (.ref l0), some (.int (s1 + x14)), some (.int (s2 + 1))]) rfl rfl ?_
      refine mx_p_gt ?_
      have HB := ih (s1 + x14) (s2 + 1) _ hq
      exact mx_Ev.weak (mx_le.same _ (mx_le.same _ (mx_le.same _ (mx_le.nil)))) HB
set_option maxRecDepth 20000 in
set_option maxHeartbeats 1000000 in
theorem t_X12_worthNow {a0 : Nat} {h : mx_Hp} {res} (hq : f_X12_worthNow a0 h = some res) : mx_Ms mx_k_X12_worthNow [.ref a0] h (some (.int res), h) := by
  unfold f_X12_worthNow at hq
  show mx_Ev mx_k_X12_worthNow mx_noS (mx_b_X12_worthNow 0, [some (.ref a0), none, none], [], h, 0, 0) _
  refine mx_p_ic ?_
  refine mx_p_isn (loc' := [some (.ref a0), some (.int 0), none]) rfl ?_
  refine mx_p_ic ?_
  refine mx_p_isn (loc' := [some (.ref a0), some (.int 0), some (.int 0)]) rfl ?_
  refine mx_p_np ?_
  refine mx_Ev.weak (mx_le.same _ (mx_le.same _ (mx_le.same _ (mx_le.nil)))) (e_f_X12_worthNow_L4 _ _  _ _ _ _ hq)
set_option maxRecDepth 20000 in
set_option maxHeartbeats 1000000 in
theorem t_X12_decrees {a0 : Nat} {a1 : Int32} {a2 : Int32} {h : mx_Hp} {res} (hq : f_X12_decrees a0 a1 a2 h = some res) : mx_Ms mx_k_X12_decrees [.ref a0, .int a1, .int a2] h (none, res) := by
  unfold f_X12_decrees at hq
  show mx_Ev mx_k_X12_decrees mx_noS (mx_b_X12_decrees 0, [some (.ref a0), some (.int a1), some (.int a2)], [], h, 0, 0) _
  refine mx_p_aln rfl ?_
  obtain ⟨x9, hx9, hq⟩ := mx_bS hq
  refine mx_e_gr hx9 rfl ?_
  refine mx_p_bp ?_
  refine mx_p_iln rfl ?_
  refine mx_p_iadd ?_
  refine mx_p_dup2 rfl rfl ?_
  obtain ⟨x10, hx10, hq⟩ := mx_bS hq
  refine mx_e_al hx10 ?_
  refine mx_p_ic ?_
  refine mx_p_iadd ?_
  obtain ⟨h11, hh11, hq⟩ := mx_bS hq
  refine mx_e_as hh11 ?_
  refine mx_p_aln rfl ?_
  obtain ⟨x12, hx12, hq⟩ := mx_bS hq
  refine mx_e_gr hx12 rfl ?_
  refine mx_p_bp ?_
  refine mx_p_iln rfl ?_
  refine mx_p_iadd ?_
  refine mx_p_dup2 rfl rfl ?_
  obtain ⟨x13, hx13, hq⟩ := mx_bS hq
  refine mx_e_al hx13 ?_
  refine mx_p_iln rfl ?_
  refine mx_p_iadd ?_
  obtain ⟨h14, hh14, hq⟩ := mx_bS hq
  refine mx_e_as hh14 ?_
  refine mx_p_aln rfl ?_
  obtain ⟨x15, hx15, hq⟩ := mx_bS hq
  refine mx_e_gr hx15 rfl ?_
  refine mx_p_bp ?_
  refine mx_p_ic ?_
  obtain ⟨h16, hh16, hq⟩ := mx_bS hq
  refine mx_e_as hh16 ?_
  cases hq; exact mx_p_rv
set_option maxRecDepth 20000 in
set_option maxHeartbeats 1000000 in
theorem t_X12_mayEnd {a0 : Nat} {h : mx_Hp} {res} (hq : f_X12_mayEnd a0 h = some res) : mx_Ms mx_k_X12_mayEnd [.ref a0] h (some (.int res), h) := by
  unfold f_X12_mayEnd at hq
  show mx_Ev mx_k_X12_mayEnd mx_noS (mx_b_X12_mayEnd 0, [some (.ref a0)], [], h, 0, 0) _
  refine mx_p_aln rfl ?_
  obtain ⟨x11, hx11, hq⟩ := mx_bS hq
  refine mx_e_gr hx11 rfl ?_
  refine mx_p_bp ?_
  obtain ⟨x12, hx12, hq⟩ := mx_bS hq
  refine mx_e_al hx12 ?_
  obtain ⟨v19, hE, hK⟩ := mx_bS hq
  have HJ : mx_Ev mx_k_X12_mayEnd mx_noS (mx_b_X12_mayEnd 30, [none], [.int v19], h, 0, 0) (some (.int res), h) := by
    replace hq := hK
    by_cases hb20 : v19 = 0 ∨ v19 = 1
    · rw [if_pos hb20] at hq; cases hq; exact mx_e_rb rfl hb20
    · rw [if_neg hb20] at hq; cases hq
  clear hK
  replace hq := hE
  by_cases hc13 : x12 ≤ 0
  · rw [if_pos hc13] at hq
    refine mx_e_zt (decide_eq_true hc13) ?_
    refine mx_p_ic ?_
    refine mx_p_np ?_
    cases hq; exact mx_Ev.weak (mx_le.drop _ (mx_le.nil)) HJ
  · rw [if_neg hc13] at hq
    refine mx_e_zf (fun z => hc13 (of_decide_eq_true z)) ?_
    refine mx_p_aln rfl ?_
    obtain ⟨x14, hx14, hq⟩ := mx_bS hq
    refine mx_e_gr hx14 rfl ?_
    refine mx_p_ic ?_
    refine mx_p_aln rfl ?_
    have ho16 : a0 < h.1 ∧ (mx_lay a0).1 = 15 := by
      by_cases hh : a0 < h.1 ∧ (mx_lay a0).1 = 15
      · exact hh
      · rw [if_neg hh] at hq; cases hq
    rw [if_pos ho16] at hq
    obtain ⟨x15, hx15, hq⟩ := mx_bS hq
    refine mx_e_cv mx_t_X12_last ho16 rfl rfl rfl ⟨Nat.le_of_ble_eq_true rfl, Nat.le_of_ble_eq_true rfl, Nat.le_of_ble_eq_true rfl⟩ (Nat.le_of_ble_eq_true rfl) rfl rfl rfl ⟨Nat.zero_le _, Nat.zero_le _⟩ (t_X12_last hx15) ?_
    refine mx_p_iadd ?_
    obtain ⟨x17, hx17, hq⟩ := mx_bS hq
    refine mx_e_al hx17 ?_
    refine mx_p_ic ?_
    by_cases hc18 : ¬ x17 = 2
    · rw [if_pos hc18] at hq
      refine mx_e_it (decide_eq_true hc18) ?_
      refine mx_p_ic ?_
      refine mx_p_np ?_
      cases hq; exact mx_Ev.weak (mx_le.drop _ (mx_le.nil)) HJ
    · rw [if_neg hc18] at hq
      refine mx_e_if (fun z => hc18 (of_decide_eq_true z)) ?_
      refine mx_p_ic ?_
      refine mx_p_gt ?_
      cases hq; exact mx_Ev.weak (mx_le.drop _ (mx_le.nil)) HJ
set_option maxRecDepth 20000 in
set_option maxHeartbeats 1000000 in
theorem t_X12_end {a0 : Nat} {h : mx_Hp} {res} (hq : f_X12_end a0 h = some res) : mx_Ms mx_k_X12_end [.ref a0] h (some (.int res.1), res.2) := by
  unfold f_X12_end at hq
  show mx_Ev mx_k_X12_end mx_noS (mx_b_X12_end 0, [some (.ref a0), none], [], h, 0, 0) _
  refine mx_p_aln rfl ?_
  have ho13 : a0 < h.1 ∧ (mx_lay a0).1 = 15 := by
    by_cases hh : a0 < h.1 ∧ (mx_lay a0).1 = 15
    · exact hh
    · rw [if_neg hh] at hq; cases hq
  rw [if_pos ho13] at hq
  obtain ⟨x12, hx12, hq⟩ := mx_bS hq
  refine mx_e_cv mx_t_X12_mayEnd ho13 rfl rfl rfl ⟨Nat.le_of_ble_eq_true rfl, Nat.le_of_ble_eq_true rfl, Nat.le_of_ble_eq_true rfl⟩ (Nat.le_of_ble_eq_true rfl) rfl rfl rfl ⟨Nat.zero_le _, Nat.zero_le _⟩ (t_X12_mayEnd hx12) ?_
  by_cases hc14 : ¬ x12 = 0
  · rw [if_pos hc14] at hq
    refine mx_e_zt (decide_eq_true hc14) ?_
    refine mx_p_aln rfl ?_
    have ho16 : a0 < h.1 ∧ (mx_lay a0).1 = 15 := by
      by_cases hh : a0 < h.1 ∧ (mx_lay a0).1 = 15
      · exact hh
      · rw [if_neg hh] at hq; cases hq
    rw [if_pos ho16] at hq
    obtain ⟨x15, hx15, hq⟩ := mx_bS hq
    refine mx_e_cv mx_t_X12_keeps ho16 rfl rfl rfl ⟨Nat.le_of_ble_eq_true rfl, Nat.le_of_ble_eq_true rfl, Nat.le_of_ble_eq_true rfl⟩ (Nat.le_of_ble_eq_true rfl) rfl rfl rfl ⟨Nat.zero_le _, Nat.zero_le _⟩ (t_X12_keeps hx15) ?_
    refine mx_p_aln rfl ?_
    have ho18 : a0 < x15.1 ∧ (mx_lay a0).1 = 15 := by
      by_cases hh : a0 < x15.1 ∧ (mx_lay a0).1 = 15
      · exact hh
      · rw [if_neg hh] at hq; cases hq
    rw [if_pos ho18] at hq
    obtain ⟨x17, hx17, hq⟩ := mx_bS hq
    refine mx_e_cv mx_t_X12_worthNow ho18 rfl rfl rfl ⟨Nat.le_of_ble_eq_true rfl, Nat.le_of_ble_eq_true rfl, Nat.le_of_ble_eq_true rfl⟩ (Nat.le_of_ble_eq_true rfl) rfl rfl rfl ⟨Nat.zero_le _, Nat.zero_le _⟩ (t_X12_worthNow hx17) ?_
    refine mx_p_isn (loc' := [some (.ref a0), some (.int x17)]) rfl ?_
    refine mx_p_aln rfl ?_
    refine mx_p_aln rfl ?_
    obtain ⟨x19, hx19, hq⟩ := mx_bS hq
    refine mx_e_gr hx19 rfl ?_
    refine mx_p_bp ?_
    obtain ⟨x20, hx20, hq⟩ := mx_bS hq
    refine mx_e_al hx20 ?_
    refine mx_p_iln rfl ?_
    have ho22 : a0 < x15.1 ∧ (mx_lay a0).1 = 15 := by
      by_cases hh : a0 < x15.1 ∧ (mx_lay a0).1 = 15
      · exact hh
      · rw [if_neg hh] at hq; cases hq
    rw [if_pos ho22] at hq
    obtain ⟨x21, hx21, hq⟩ := mx_bS hq
    refine mx_e_cv mx_t_X12_decrees ho22 rfl rfl rfl ⟨Nat.le_of_ble_eq_true rfl, Nat.le_of_ble_eq_true rfl, Nat.le_of_ble_eq_true rfl⟩ (Nat.le_of_ble_eq_true rfl) rfl rfl rfl ⟨Nat.zero_le _, Nat.zero_le _⟩ (t_X12_decrees hx21) ?_
    refine mx_p_iln rfl ?_
    cases hq; exact mx_e_ri rfl
  · rw [if_neg hc14] at hq
    refine mx_e_zf (fun z => hc14 (of_decide_eq_true z)) ?_
    refine mx_p_bp ?_
    cases hq; exact mx_e_ri rfl
set_option maxRecDepth 20000 in
set_option maxHeartbeats 1000000 in
theorem e_f_X12_stops_L4 (l0 : Nat) (h : mx_Hp)   : ∀ (n : Nat) (s1 : Int32) (s2 : Int32) res, mx_fix (f_X12_stops_L4 l0 h ) n (s1, s2) = some res → mx_Ev mx_k_X12_stops mx_noS (mx_b_X12_stops 4, [some (.ref l0), some (.int s1), some (.int s2)], [], h, 0, 0) (some (.int res), h) := by
  intro n
  induction n with
  | zero => intro s1 s2 res hq; cases hq
  | succ n ih =>
    intro s1 s2 res hq
    unfold mx_fix at hq
    generalize mx_fix (f_X12_stops_L4 l0 h ) n = S at hq ih
    unfold f_X12_stops_L4 at hq
    try dsimp only at hq
    refine mx_p_iln rfl ?_
    refine mx_p_aln rfl ?_
    obtain ⟨x8, hx8, hq⟩ := mx_bS hq
    refine mx_e_gr hx8 rfl ?_
    refine mx_p_ic ?_
    obtain ⟨x9, hx9, hq⟩ := mx_bS hq
    refine mx_e_al hx9 ?_
    by_cases hc10 : x9 ≤ s2
    · rw [if_pos hc10] at hq
      refine mx_e_it (decide_eq_true hc10) ?_
      refine mx_p_iln rfl ?_
      cases hq; exact mx_e_ri rfl
    · rw [if_neg hc10] at hq
      refine mx_e_if (fun z => hc10 (of_decide_eq_true z)) ?_
      refine mx_p_iln rfl ?_
      refine mx_p_aln rfl ?_
      obtain ⟨x11, hx11, hq⟩ := mx_bS hq
      refine mx_e_gr hx11 rfl ?_
      refine mx_p_ic ?_
      refine mx_p_iln rfl ?_
      refine mx_p_iadd ?_
      obtain ⟨x12, hx12, hq⟩ := mx_bS hq
      refine mx_e_al hx12 ?_
      refine mx_p_ic ?_
      obtain ⟨v14, hE, hK⟩ := mx_bS hq
      have HJ : mx_Ev mx_k_X12_stops mx_noS (mx_b_X12_stops 34, [some (.ref l0), none, some (.int s2)], [.int v14, .int s1], h, 0, 0) (some (.int res), h) := by
        replace hq := hK
        refine mx_p_ior ?_
        refine mx_p_isn (loc' := [some (.ref l0), some (.int (s1 ||| v14)), some (.int s2)]) rfl ?_
        refine mx_p_inc (loc' := [some (.ref l0), some (.int (s1 ||| v14)), some (.int (s2 + 1))]) rfl rfl ?_
        refine mx_p_gt ?_
        have HB := ih (s1 ||| v14) (s2 + 1) _ hq
        exact mx_Ev.weak (mx_le.same _ (mx_le.same _ (mx_le.same _ (mx_le.nil)))) HB
      clear hK
      replace hq := hE
      by_cases hc13 : ¬ x12 = 2
      · rw [if_pos hc13] at hq
        refine mx_e_it (decide_eq_true hc13) ?_
        refine mx_p_ic ?_
        refine mx_p_np ?_
        cases hq; exact mx_Ev.weak (mx_le.same _ (mx_le.drop _ (mx_le.same _ (mx_le.nil)))) HJ
      · rw [if_neg hc13] at hq
        refine mx_e_if (fun z => hc13 (of_decide_eq_true z)) ?_
        refine mx_p_ic ?_
        refine mx_p_iln rfl ?_
        refine mx_p_ishl ?_
        refine mx_p_gt ?_
        cases hq; exact mx_Ev.weak (mx_le.same _ (mx_le.drop _ (mx_le.same _ (mx_le.nil)))) HJ
set_option maxRecDepth 20000 in
set_option maxHeartbeats 1000000 in
theorem t_X12_stops {a0 : Nat} {h : mx_Hp} {res} (hq : f_X12_stops a0 h = some res) : mx_Ms mx_k_X12_stops [.ref a0] h (some (.int res), h) := by
  unfold f_X12_stops at hq
  show mx_Ev mx_k_X12_stops mx_noS (mx_b_X12_stops 0, [some (.ref a0), none, none], [], h, 0, 0) _
  refine mx_p_ic ?_
  refine mx_p_isn (loc' := [some (.ref a0), some (.int 0), none]) rfl ?_
  refine mx_p_ic ?_
  refine mx_p_isn (loc' := [some (.ref a0), some (.int 0), some (.int 0)]) rfl ?_
  refine mx_p_np ?_
  refine mx_Ev.weak (mx_le.same _ (mx_le.same _ (mx_le.same _ (mx_le.nil)))) (e_f_X12_stops_L4 _ _  _ _ _ _ hq)
set_option maxRecDepth 20000 in
set_option maxHeartbeats 1000000 in
theorem e_f_X12_levelsOf_L26 (l0 : Nat) (l1 : Int32) (l2 : Int32) (k81 : Int32 × mx_Hp → Option (mx_Hp)) (Hk81 : ∀ (s3 : Int32) (hh : mx_Hp) res, k81 (s3, hh) = some res → mx_Ev mx_k_X12_levelsOf mx_noS (mx_b_X12_levelsOf 81, [some (.ref l0), some (.int l1), some (.int l2), none], [], hh, 0, 0) (none, res)) : ∀ (n : Nat) (s3 : Int32) (hh : mx_Hp) res, mx_fix (f_X12_levelsOf_L26 l0 l1 l2 k81) n (s3, hh) = some res → mx_Ev mx_k_X12_levelsOf mx_noS (mx_b_X12_levelsOf 26, [some (.ref l0), some (.int l1), some (.int l2), some (.int s3)], [], hh, 0, 0) (none, res) := by
  intro n
  induction n with
  | zero => intro s3 hh res hq; cases hq
  | succ n ih =>
    intro s3 hh res hq
    unfold mx_fix at hq
    generalize mx_fix (f_X12_levelsOf_L26 l0 l1 l2 k81) n = S at hq ih
    unfold f_X12_levelsOf_L26 at hq
    try dsimp only at hq
    refine mx_p_iln rfl ?_
    refine mx_p_aln rfl ?_
    obtain ⟨x20, hx20, hq⟩ := mx_bS hq
    refine mx_e_gr hx20 rfl ?_
    refine mx_p_ic ?_
    obtain ⟨x21, hx21, hq⟩ := mx_bS hq
    refine mx_e_al hx21 ?_
    by_cases hc22 : x21 ≤ s3
    · rw [if_pos hc22] at hq
      refine mx_e_it (decide_eq_true hc22) ?_
      have HB := Hk81 s3 hh _ hq
      exact mx_Ev.weak (mx_le.same _ (mx_le.same _ (mx_le.same _ (mx_le.drop _ (mx_le.nil))))) HB
    · rw [if_neg hc22] at hq
      refine mx_e_if (fun z => hc22 (of_decide_eq_true z)) ?_
      refine mx_p_aln rfl ?_
      obtain ⟨x23, hx23, hq⟩ := mx_bS hq
      refine mx_e_gr hx23 rfl ?_
      refine mx_p_iln rfl ?_
      refine mx_p_dup2 rfl rfl ?_
      obtain ⟨x24, hx24, hq⟩ := mx_bS hq
      refine mx_e_al hx24 ?_
      refine mx_p_aln rfl ?_
      obtain ⟨x25, hx25, hq⟩ := mx_bS hq
      refine mx_e_gr hx25 rfl ?_
      refine mx_p_bp ?_
      refine mx_p_iln rfl ?_
      refine mx_p_iadd ?_
      obtain ⟨x26, hx26, hq⟩ := mx_bS hq
      refine mx_e_al hx26 ?_
      refine mx_p_iln rfl ?_
      refine mx_p_iand ?_
      refine mx_p_aln rfl ?_
      obtain ⟨x27, hx27, hq⟩ := mx_bS hq
      refine mx_e_gr hx27 rfl ?_
      refine mx_p_iln rfl ?_
      refine mx_p_ic ?_
      refine mx_p_isub ?_
      obtain ⟨x28, hx28, hq⟩ := mx_bS hq
      refine mx_e_al hx28 ?_
      refine mx_p_iand ?_
      obtain ⟨v30, hE, hK⟩ := mx_bS hq
      have HJ : mx_Ev mx_k_X12_levelsOf mx_noS (mx_b_X12_levelsOf 73, [some (.ref l0), some (.int l1), some (.int l2), some (.int s3)], [.int v30, .int x24, .int l2, .ref x23], hh, 0, 0) (none, res) := by
        replace hq := hK
        refine mx_p_ior ?_
        obtain ⟨h31, hh31, hq⟩ := mx_bS hq
        refine mx_e_as hh31 ?_
        refine mx_p_inc (loc' := [some (.ref l0), some (.int l1), some (.int l2), some (.int (s3 + 1))]) rfl rfl ?_
        refine mx_p_gt ?_
        have HB := ih (s3 + 1) h31 _ hq
        exact mx_Ev.weak (mx_le.same _ (mx_le.same _ (mx_le.same _ (mx_le.same _ (mx_le.nil))))) HB
      clear hK
      replace hq := hE
      by_cases hc29 : ((x26 &&& l1) &&& x28) = 0
      · rw [if_pos hc29] at hq
        refine mx_e_zt (decide_eq_true hc29) ?_
        refine mx_p_ic ?_
        refine mx_p_np ?_
        cases hq; exact mx_Ev.weak (mx_le.same _ (mx_le.same _ (mx_le.same _ (mx_le.same _ (mx_le.nil))))) HJ
      · rw [if_neg hc29] at hq
        refine mx_e_zf (fun z => hc29 (of_decide_eq_true z)) ?_
        refine mx_p_ic ?_
        refine mx_p_iln rfl ?_
        refine mx_p_ishl ?_
        refine mx_p_gt ?_
        cases hq; exact mx_Ev.weak (mx_le.same _ (mx_le.same _ (mx_le.same _ (mx_le.same _ (mx_le.nil))))) HJ
set_option maxRecDepth 20000 in
set_option maxHeartbeats 1000000 in
theorem e_f_X12_levelsOf_L12 (l0 : Nat) (l1 : Int32)   : ∀ (n : Nat) (s2 : Int32) (hh : mx_Hp) res, mx_fix (f_X12_levelsOf_L12 l0 l1 ) n (s2, hh) = some res → mx_Ev mx_k_X12_levelsOf mx_noS (mx_b_X12_levelsOf 12, [some (.ref l0), some (.int l1), some (.int s2), none], [], hh, 0, 0) (none, res) := by
  intro n
  induction n with
  | zero => intro s2 hh res hq; cases hq
  | succ n ih =>
    intro s2 hh res hq
    unfold mx_fix at hq
    generalize mx_fix (f_X12_levelsOf_L12 l0 l1 ) n = S at hq ih
    unfold f_X12_levelsOf_L12 at hq
    try dsimp only at hq
    refine mx_p_iln rfl ?_
    refine mx_p_ic ?_
    by_cases hc33 : 5 ≤ s2
    · rw [if_pos hc33] at hq
      refine mx_e_it (decide_eq_true hc33) ?_
      cases hq; exact mx_p_rv
    · rw [if_neg hc33] at hq
      refine mx_e_if (fun z => hc33 (of_decide_eq_true z)) ?_
      refine mx_p_aln rfl ?_
      obtain ⟨x34, hx34, hq⟩ := mx_bS hq
      refine mx_e_gr hx34 rfl ?_
      refine mx_p_iln rfl ?_
      refine mx_p_ic ?_
      obtain ⟨h35, hh35, hq⟩ := mx_bS hq
      refine mx_e_as hh35 ?_
      refine mx_p_ic ?_
      refine mx_p_isn (loc' := [some (.ref l0), some (.int l1), some (.int s2), some (.int 0)]) rfl ?_
      refine mx_p_np ?_
      refine mx_Ev.weak (mx_le.same _ (mx_le.same _ (mx_le.same _ (mx_le.same _ (mx_le.nil))))) (e_f_X12_levelsOf_L26 _ _ _ _ ?_ _ _ _ _ hq)
      · intro c36 c37 res hq
        try dsimp only at hq
        refine mx_p_inc (loc' := [some (.ref l0), some (.int l1), some (.int (s2 + 1)), none]) rfl rfl ?_
        refine mx_p_gt ?_
        have HB := ih (s2 + 1) c37 _ hq
        exact mx_Ev.weak (mx_le.same _ (mx_le.same _ (mx_le.same _ (mx_le.same _ (mx_le.nil))))) HB
set_option maxRecDepth 20000 in
set_option maxHeartbeats 1000000 in
theorem t_X12_levelsOf {a0 : Nat} {a1 : Int32} {h : mx_Hp} {res} (hq : f_X12_levelsOf a0 a1 h = some res) : mx_Ms mx_k_X12_levelsOf [.ref a0, .int a1] h (none, res) := by
  unfold f_X12_levelsOf at hq
  show mx_Ev mx_k_X12_levelsOf mx_noS (mx_b_X12_levelsOf 0, [some (.ref a0), some (.int a1), none, none], [], h, 0, 0) _
  refine mx_p_aln rfl ?_
  obtain ⟨x38, hx38, hq⟩ := mx_bS hq
  refine mx_e_gr hx38 rfl ?_
  refine mx_p_ic ?_
  refine mx_p_aln rfl ?_
  have ho40 : a0 < h.1 ∧ (mx_lay a0).1 = 15 := by
    by_cases hh : a0 < h.1 ∧ (mx_lay a0).1 = 15
    · exact hh
    · rw [if_neg hh] at hq; cases hq
  rw [if_pos ho40] at hq
  obtain ⟨x39, hx39, hq⟩ := mx_bS hq
  refine mx_e_cv mx_t_X12_stops ho40 rfl rfl rfl ⟨Nat.le_of_ble_eq_true rfl, Nat.le_of_ble_eq_true rfl, Nat.le_of_ble_eq_true rfl⟩ (Nat.le_of_ble_eq_true rfl) rfl rfl rfl ⟨Nat.zero_le _, Nat.zero_le _⟩ (t_X12_stops hx39) ?_
  obtain ⟨h41, hh41, hq⟩ := mx_bS hq
  refine mx_e_as hh41 ?_
  refine mx_p_ic ?_
  refine mx_p_isn (loc' := [some (.ref a0), some (.int a1), some (.int 1), none]) rfl ?_
  refine mx_p_np ?_
  refine mx_Ev.weak (mx_le.same _ (mx_le.same _ (mx_le.same _ (mx_le.same _ (mx_le.nil))))) (e_f_X12_levelsOf_L12 _ _  _ _ _ _ hq)
set_option maxRecDepth 20000 in
set_option maxHeartbeats 1000000 in
theorem e_f_X12_finishes_L15 (l0 : Nat) (l1 : Int32) (l2 : Int32) (h : mx_Hp) (k47 : Int32 × Int32 → Option (Int32 × mx_Hp)) (Hk47 : ∀ (s3 : Int32) (s4 : Int32) res, k47 (s3, s4) = some res → mx_Ev mx_k_X12_finishes mx_noS (mx_b_X12_finishes 47, [some (.ref l0), some (.int l1), some (.int l2), some (.int s3), none, none, none, none], [], h, 0, 0) (some (.int res.1), res.2)) : ∀ (n : Nat) (s3 : Int32) (s4 : Int32) res, mx_fix (f_X12_finishes_L15 l0 l1 l2 h k47) n (s3, s4) = some res → mx_Ev mx_k_X12_finishes mx_noS (mx_b_X12_finishes 15, [some (.ref l0), some (.int l1), some (.int l2), some (.int s3), some (.int s4), none, none, none], [], h, 0, 0) (some (.int res.1), res.2) := by
  intro n
  induction n with
  | zero => intro s3 s4 res hq; cases hq
  | succ n ih =>
    intro s3 s4 res hq
    unfold mx_fix at hq
    generalize mx_fix (f_X12_finishes_L15 l0 l1 l2 h k47) n = S at hq ih
    unfold f_X12_finishes_L15 at hq
    try dsimp only at hq
    refine mx_p_il rfl ?_
    by_cases hc11 : s4 ≤ 0
    · rw [if_pos hc11] at hq
      refine mx_e_zt (decide_eq_true hc11) ?_
      have HB := Hk47 s3 s4 _ hq
      exact mx_Ev.weak (mx_le.same _ (mx_le.same _ (mx_le.same _ (mx_le.same _ (mx_le.drop _ (mx_le.same _ (mx_le.same _ (mx_le.same _ (mx_le.nil))))))))) HB
    · rw [if_neg hc11] at hq
      refine mx_e_zf (fun z => hc11 (of_decide_eq_true z)) ?_
      refine mx_p_aln rfl ?_
      obtain ⟨x12, hx12, hq⟩ := mx_bS hq
      refine mx_e_gr hx12 rfl ?_
      refine mx_p_il rfl ?_
      obtain ⟨x13, hx13, hq⟩ := mx_bS hq
      refine mx_e_al hx13 ?_
      refine mx_p_iln rfl ?_
      obtain ⟨x14, hx14, hq⟩ := mx_bS hq
      refine mx_e_cs mx_t_X12_has rfl rfl rfl ⟨Nat.le_of_ble_eq_true rfl, Nat.le_of_ble_eq_true rfl, Nat.le_of_ble_eq_true rfl⟩ (Nat.le_of_ble_eq_true rfl) rfl rfl ⟨Nat.zero_le _, Nat.zero_le _⟩ (t_X12_has hx14) ?_
      obtain ⟨v16, hE, hK⟩ := mx_bS hq
      have HJ : mx_Ev mx_k_X12_finishes mx_noS (mx_b_X12_finishes 40, [some (.ref l0), some (.int l1), some (.int l2), none, some (.int s4), none, none, none], [.int v16], h, 0, 0) (some (.int res.1), res.2) := by
        replace hq := hK
        refine mx_p_isn (loc' := [some (.ref l0), some (.int l1), some (.int l2), some (.int v16), some (.int s4), none, none, none]) rfl ?_
        refine mx_p_inc (loc' := [some (.ref l0), some (.int l1), some (.int l2), some (.int v16), some (.int (s4 + (-1))), none, none, none]) rfl rfl ?_
        refine mx_p_gt ?_
        have HB := ih v16 (s4 + (-1)) _ hq
        exact mx_Ev.weak (mx_le.same _ (mx_le.same _ (mx_le.same _ (mx_le.same _ (mx_le.same _ (mx_le.same _ (mx_le.same _ (mx_le.same _ (mx_le.nil))))))))) HB
      clear hK
      replace hq := hE
      by_cases hc15 : x14 = 0
      · rw [if_pos hc15] at hq
        refine mx_e_zt (decide_eq_true hc15) ?_
        refine mx_p_iln rfl ?_
        refine mx_p_np ?_
        cases hq; exact mx_Ev.weak (mx_le.same _ (mx_le.same _ (mx_le.same _ (mx_le.drop _ (mx_le.same _ (mx_le.same _ (mx_le.same _ (mx_le.same _ (mx_le.nil))))))))) HJ
      · rw [if_neg hc15] at hq
        refine mx_e_zf (fun z => hc15 (of_decide_eq_true z)) ?_
        refine mx_p_il rfl ?_
        refine mx_p_gt ?_
        cases hq; exact mx_Ev.weak (mx_le.same _ (mx_le.same _ (mx_le.same _ (mx_le.drop _ (mx_le.same _ (mx_le.same _ (mx_le.same _ (mx_le.same _ (mx_le.nil))))))))) HJ
set_option maxRecDepth 20000 in
set_option maxHeartbeats 1000000 in
theorem e_f_X12_finishes_L106 (l0 : Nat) (l2 : Int32) (l3 : Int32) (l5 : Int32) (l6 : Int32) (h : mx_Hp) (k122 : Int32 → Option (Int32 × mx_Hp)) (Hk122 : ∀ (s7 : Int32) res, k122 s7 = some res → mx_Ev mx_k_X12_finishes mx_noS (mx_b_X12_finishes 122, [some (.ref l0), none, some (.int l2), some (.int l3), none, some (.int l5), none, some (.int s7)], [], h, 0, 0) (some (.int res.1), res.2)) : ∀ (n : Nat) (s7 : Int32) res, mx_fix (f_X12_finishes_L106 l0 l2 l3 l5 l6 h k122) n s7 = some res → mx_Ev mx_k_X12_finishes mx_noS (mx_b_X12_finishes 106, [some (.ref l0), none, some (.int l2), some (.int l3), none, some (.int l5), some (.int l6), some (.int s7)], [], h, 0, 0) (some (.int res.1), res.2) := by
  intro n
  induction n with
  | zero => intro s7 res hq; cases hq
  | succ n ih =>
    intro s7 res hq
    unfold mx_fix at hq
    generalize mx_fix (f_X12_finishes_L106 l0 l2 l3 l5 l6 h k122) n = S at hq ih
    unfold f_X12_finishes_L106 at hq
    try dsimp only at hq
    refine mx_p_il rfl ?_
    refine mx_p_il rfl ?_
    obtain ⟨x29, hx29, hq⟩ := mx_bS hq
    refine mx_e_cs mx_t_X12_has rfl rfl rfl ⟨Nat.le_of_ble_eq_true rfl, Nat.le_of_ble_eq_true rfl, Nat.le_of_ble_eq_true rfl⟩ (Nat.le_of_ble_eq_true rfl) rfl rfl ⟨Nat.zero_le _, Nat.zero_le _⟩ (t_X12_has hx29) ?_
    by_cases hc30 : ¬ x29 = 0
    · rw [if_pos hc30] at hq
      refine mx_e_zt (decide_eq_true hc30) ?_
      have HB := Hk122 s7 _ hq
      exact mx_Ev.weak (mx_le.same _ (mx_le.same _ (mx_le.same _ (mx_le.same _ (mx_le.same _ (mx_le.same _ (mx_le.drop _ (mx_le.same _ (mx_le.nil))))))))) HB
    · rw [if_neg hc30] at hq
      refine mx_e_zf (fun z => hc30 (of_decide_eq_true z)) ?_
      refine mx_p_inc (loc' := [some (.ref l0), none, some (.int l2), some (.int l3), none, some (.int l5), some (.int l6), some (.int (s7 + 1))]) rfl rfl ?_
      refine mx_p_gt ?_
      have HB := ih (s7 + 1) _ hq
      exact mx_Ev.weak (mx_le.same _ (mx_le.same _ (mx_le.same _ (mx_le.same _ (mx_le.same _ (mx_le.same _ (mx_le.same _ (mx_le.same _ (mx_le.nil))))))))) HB
set_option maxRecDepth 20000 in
set_option maxHeartbeats 1000000 in
theorem e_f_X12_finishes_L71 (l0 : Nat) (l2 : Int32) (l3 : Int32)   : ∀ (n : Nat) (s4 : Int32) (s5 : Int32) (hh : mx_Hp) res, mx_fix (f_X12_finishes_L71 l0 l2 l3 ) n (s4, s5, hh) = some res → mx_Ev mx_k_X12_finishes mx_noS (mx_b_X12_finishes 71, [some (.ref l0), none, some (.int l2), some (.int l3), some (.int s4), some (.int s5), none, none], [], hh, 0, 0) (some (.int res.1), res.2) := by
  intro n
  induction n with
  | zero => intro s4 s5 hh res hq; cases hq
  | succ n ih =>
    intro s4 s5 hh res hq
    unfold mx_fix at hq
    generalize mx_fix (f_X12_finishes_L71 l0 l2 l3 ) n = S at hq ih
    unfold f_X12_finishes_L71 at hq
    try dsimp only at hq
    refine mx_p_il rfl ?_
    refine mx_p_iln rfl ?_
    by_cases hc34 : l3 ≤ s5
    · rw [if_pos hc34] at hq
      refine mx_e_it (decide_eq_true hc34) ?_
      refine mx_p_iln rfl ?_
      cases hq; exact mx_e_ri rfl
    · rw [if_neg hc34] at hq
      refine mx_e_if (fun z => hc34 (of_decide_eq_true z)) ?_
      refine mx_p_aln rfl ?_
      obtain ⟨x35, hx35, hq⟩ := mx_bS hq
      refine mx_e_gr hx35 rfl ?_
      refine mx_p_bp ?_
      refine mx_p_il rfl ?_
      refine mx_p_iadd ?_
      obtain ⟨x36, hx36, hq⟩ := mx_bS hq
      refine mx_e_al hx36 ?_
      refine mx_p_iln rfl ?_
      refine mx_p_iand ?_
      refine mx_p_aln rfl ?_
      obtain ⟨x37, hx37, hq⟩ := mx_bS hq
      refine mx_e_gr hx37 rfl ?_
      refine mx_p_iln rfl ?_
      refine mx_p_ic ?_
      refine mx_p_isub ?_
      refine mx_p_il rfl ?_
      refine mx_p_isub ?_
      obtain ⟨x38, hx38, hq⟩ := mx_bS hq
      refine mx_e_al hx38 ?_
      refine mx_p_iand ?_
      refine mx_p_is (loc' := [some (.ref l0), none, some (.int l2), some (.int l3), some (.int s4), some (.int s5), some (.int ((x36 &&& l2) &&& x38)), none]) rfl ?_
      refine mx_p_ic ?_
      refine mx_p_is (loc' := [some (.ref l0), none, some (.int l2), some (.int l3), some (.int s4), some (.int s5), some (.int ((x36 &&& l2) &&& x38)), some (.int 0)]) rfl ?_
      refine mx_p_np ?_
      refine mx_Ev.weak (mx_le.same _ (mx_le.same _ (mx_le.same _ (mx_le.same _ (mx_le.drop _ (mx_le.same _ (mx_le.same _ (mx_le.same _ (mx_le.nil))))))))) (e_f_X12_finishes_L106 _ _ _ _ _ _ _ ?_ _ _ _ hq)
      · intro c39 res hq
        try dsimp only at hq
        refine mx_p_aln rfl ?_
        obtain ⟨x40, hx40, hq⟩ := mx_bS hq
        refine mx_e_gr hx40 rfl ?_
        refine mx_p_il rfl ?_
        refine mx_p_il rfl ?_
        obtain ⟨h41, hh41, hq⟩ := mx_bS hq
        refine mx_e_as hh41 ?_
        refine mx_p_il rfl ?_
        refine mx_p_is (loc' := [some (.ref l0), none, some (.int l2), some (.int l3), some (.int c39), some (.int s5), none, some (.int c39)]) rfl ?_
        refine mx_p_inc (loc' := [some (.ref l0), none, some (.int l2), some (.int l3), some (.int c39), some (.int (s5 + 1)), none, some (.int c39)]) rfl rfl ?_
        refine mx_p_gt ?_
        have HB := ih c39 (s5 + 1) h41 _ hq
        exact mx_Ev.weak (mx_le.same _ (mx_le.same _ (mx_le.same _ (mx_le.same _ (mx_le.same _ (mx_le.same _ (mx_le.same _ (mx_le.drop _ (mx_le.nil))))))))) HB
set_option maxRecDepth 20000 in
set_option maxHeartbeats 1000000 in
theorem t_X12_finishes {a0 : Nat} {a1 : Int32} {a2 : Int32} {h : mx_Hp} {res} (hq : f_X12_finishes a0 a1 a2 h = some res) : mx_Ms mx_k_X12_finishes [.ref a0, .int a1, .int a2] h (some (.int res.1), res.2) := by
  unfold f_X12_finishes at hq
  show mx_Ev mx_k_X12_finishes mx_noS (mx_b_X12_finishes 0, [some (.ref a0), some (.int a1), some (.int a2), none, none, none, none, none], [], h, 0, 0) _
  refine mx_p_aln rfl ?_
  refine mx_p_iln rfl ?_
  have ho43 : a0 < h.1 ∧ (mx_lay a0).1 = 15 := by
    by_cases hh : a0 < h.1 ∧ (mx_lay a0).1 = 15
    · exact hh
    · rw [if_neg hh] at hq; cases hq
  rw [if_pos ho43] at hq
  obtain ⟨x42, hx42, hq⟩ := mx_bS hq
  refine mx_e_cv mx_t_X12_levelsOf ho43 rfl rfl rfl ⟨Nat.le_of_ble_eq_true rfl, Nat.le_of_ble_eq_true rfl, Nat.le_of_ble_eq_true rfl⟩ (Nat.le_of_ble_eq_true rfl) rfl rfl rfl ⟨Nat.zero_le _, Nat.zero_le _⟩ (t_X12_levelsOf hx42) ?_
  refine mx_p_ic ?_
  refine mx_p_isn (loc' := [some (.ref a0), some (.int a1), some (.int a2), some (.int 0), none, none, none, none]) rfl ?_
  refine mx_p_aln rfl ?_
  obtain ⟨x44, hx44, hq⟩ := mx_bS hq
  refine mx_e_gr hx44 rfl ?_
  refine mx_p_ic ?_
  obtain ⟨x45, hx45, hq⟩ := mx_bS hq
  refine mx_e_al hx45 ?_
  refine mx_p_is (loc' := [some (.ref a0), some (.int a1), some (.int a2), some (.int 0), some (.int x45), none, none, none]) rfl ?_
  refine mx_p_np ?_
  refine mx_Ev.weak (mx_le.same _ (mx_le.same _ (mx_le.same _ (mx_le.same _ (mx_le.same _ (mx_le.same _ (mx_le.same _ (mx_le.same _ (mx_le.nil))))))))) (e_f_X12_finishes_L15 _ _ _ _ _ ?_ _ _ _ _ hq)
  · intro c46 c47 res hq
    try dsimp only at hq
    refine mx_p_aln rfl ?_
    obtain ⟨x48, hx48, hq⟩ := mx_bS hq
    refine mx_e_gr hx48 rfl ?_
    refine mx_p_ic ?_
    refine mx_p_iln rfl ?_
    refine mx_p_iadd ?_
    obtain ⟨x49, hx49, hq⟩ := mx_bS hq
    refine mx_e_al hx49 ?_
    refine mx_p_ic ?_
    obtain ⟨v51, hE, hK⟩ := mx_bS hq
    have HJ : mx_Ev mx_k_X12_finishes mx_noS (mx_b_X12_finishes 64, [some (.ref a0), some (.int a1), some (.int a2), none, none, none, none, none], [.int v51], x42, 0, 0) (some (.int res.1), res.2) := by
      replace hq := hK
      refine mx_p_isn (loc' := [some (.ref a0), some (.int a1), some (.int a2), some (.int v51), none, none, none, none]) rfl ?_
      refine mx_p_iln rfl ?_
      refine mx_p_is (loc' := [some (.ref a0), some (.int a1), some (.int a2), some (.int v51), some (.int a1), none, none, none]) rfl ?_
      refine mx_p_ic ?_
      refine mx_p_is (loc' := [some (.ref a0), some (.int a1), some (.int a2), some (.int v51), some (.int a1), some (.int 0), none, none]) rfl ?_
      refine mx_p_np ?_
      refine mx_Ev.weak (mx_le.same _ (mx_le.drop _ (mx_le.same _ (mx_le.same _ (mx_le.same _ (mx_le.same _ (mx_le.same _ (mx_le.same _ (mx_le.nil))))))))) (e_f_X12_finishes_L71 _ _ _  _ _ _ _ _ hq)
    clear hK
    replace hq := hE
    by_cases hc50 : ¬ x49 = 1
    · rw [if_pos hc50] at hq
      refine mx_e_it (decide_eq_true hc50) ?_
      refine mx_p_iln rfl ?_
      refine mx_p_np ?_
      cases hq; exact mx_Ev.weak (mx_le.same _ (mx_le.same _ (mx_le.same _ (mx_le.drop _ (mx_le.same _ (mx_le.same _ (mx_le.same _ (mx_le.same _ (mx_le.nil))))))))) HJ
    · rw [if_neg hc50] at hq
      refine mx_e_if (fun z => hc50 (of_decide_eq_true z)) ?_
      refine mx_p_ic ?_
      refine mx_p_gt ?_
      cases hq; exact mx_Ev.weak (mx_le.same _ (mx_le.same _ (mx_le.same _ (mx_le.drop _ (mx_le.same _ (mx_le.same _ (mx_le.same _ (mx_le.same _ (mx_le.nil))))))))) HJ
set_option maxRecDepth 20000 in
set_option maxHeartbeats 1000000 in
theorem t_X12_all {a0 : Nat} {h : mx_Hp} {res} (hq : f_X12_all a0 h = some res) : mx_Ms mx_k_X12_all [.ref a0] h (some (.int res), h) := by
  unfold f_X12_all at hq
  show mx_Ev mx_k_X12_all mx_noS (mx_b_X12_all 0, [some (.ref a0)], [], h, 0, 0) _
  refine mx_p_ic ?_
  refine mx_p_aln rfl ?_
  obtain ⟨x3, hx3, hq⟩ := mx_bS hq
  refine mx_e_gr hx3 rfl ?_
  refine mx_p_ic ?_
  obtain ⟨x4, hx4, hq⟩ := mx_bS hq
  refine mx_e_al hx4 ?_
  refine mx_p_ishl ?_
  refine mx_p_ic ?_
  refine mx_p_isub ?_
  cases hq; exact mx_e_ri rfl
set_option maxRecDepth 20000 in
set_option maxHeartbeats 1000000 in
theorem t_X12_knowsFor {a0 : Nat} {a1 : Int32} {h : mx_Hp} {res} (hq : f_X12_knowsFor a0 a1 h = some res) : mx_Ms mx_k_X12_knowsFor [.ref a0, .int a1] h (some (.int res), h) := by
  unfold f_X12_knowsFor at hq
  show mx_Ev mx_k_X12_knowsFor mx_noS (mx_b_X12_knowsFor 0, [some (.ref a0), some (.int a1)], [], h, 0, 0) _
  refine mx_p_aln rfl ?_
  obtain ⟨x11, hx11, hq⟩ := mx_bS hq
  refine mx_e_gr hx11 rfl ?_
  refine mx_p_ic ?_
  refine mx_p_iln rfl ?_
  refine mx_p_iadd ?_
  obtain ⟨x12, hx12, hq⟩ := mx_bS hq
  refine mx_e_al hx12 ?_
  refine mx_p_ic ?_
  obtain ⟨v20, hE, hK⟩ := mx_bS hq
  have HJ : mx_Ev mx_k_X12_knowsFor mx_noS (mx_b_X12_knowsFor 34, [none, none], [.int v20], h, 0, 0) (some (.int res), h) := by
    replace hq := hK
    cases hq; exact mx_e_ri rfl
  clear hK
  replace hq := hE
  by_cases hc13 : ¬ x12 = 3
  · rw [if_pos hc13] at hq
    refine mx_e_it (decide_eq_true hc13) ?_
    refine mx_p_aln rfl ?_
    obtain ⟨x14, hx14, hq⟩ := mx_bS hq
    refine mx_e_gr hx14 rfl ?_
    refine mx_p_bp ?_
    refine mx_p_aln rfl ?_
    obtain ⟨x15, hx15, hq⟩ := mx_bS hq
    refine mx_e_gr hx15 rfl ?_
    refine mx_p_bp ?_
    obtain ⟨x16, hx16, hq⟩ := mx_bS hq
    refine mx_e_al hx16 ?_
    refine mx_p_isub ?_
    obtain ⟨x17, hx17, hq⟩ := mx_bS hq
    refine mx_e_al hx17 ?_
    refine mx_p_np ?_
    cases hq; exact mx_Ev.weak (mx_le.drop _ (mx_le.drop _ (mx_le.nil))) HJ
  · rw [if_neg hc13] at hq
    refine mx_e_if (fun z => hc13 (of_decide_eq_true z)) ?_
    refine mx_p_aln rfl ?_
    have ho19 : a0 < h.1 ∧ (mx_lay a0).1 = 15 := by
      by_cases hh : a0 < h.1 ∧ (mx_lay a0).1 = 15
      · exact hh
      · rw [if_neg hh] at hq; cases hq
    rw [if_pos ho19] at hq
    obtain ⟨x18, hx18, hq⟩ := mx_bS hq
    refine mx_e_cv mx_t_X12_all ho19 rfl rfl rfl ⟨Nat.le_of_ble_eq_true rfl, Nat.le_of_ble_eq_true rfl, Nat.le_of_ble_eq_true rfl⟩ (Nat.le_of_ble_eq_true rfl) rfl rfl rfl ⟨Nat.zero_le _, Nat.zero_le _⟩ (t_X12_all hx18) ?_
    refine mx_p_gt ?_
    cases hq; exact mx_Ev.weak (mx_le.drop _ (mx_le.drop _ (mx_le.nil))) HJ
