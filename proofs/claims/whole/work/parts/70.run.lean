/-! their runs come to them: by wip/gen/dec.py -/
set_option maxHeartbeats 1000000 in
theorem t_X0_clear {a0 : Nat} {h : mx_Hp} {res} (hq : f_X0_clear a0 h = some res) : mx_Ms mx_k_X0_clear [.ref a0] h (none, res) := by
  unfold f_X0_clear at hq
  show mx_Ev mx_k_X0_clear mx_noS (mx_b_X0_clear 0, [some (.ref a0)], [], h, 0, 0) _
  refine mx_p_aln rfl ?_
  refine mx_p_ic ?_
  obtain ⟨h1, hh1, hq⟩ := mx_bS hq
  refine mx_e_pi hh1 ?_
  refine mx_p_aln rfl ?_
  refine mx_p_ic ?_
  obtain ⟨h2, hh2, hq⟩ := mx_bS hq
  refine mx_e_pi hh2 ?_
  refine mx_p_aln rfl ?_
  refine mx_p_ic ?_
  obtain ⟨h3, hh3, hq⟩ := mx_bS hq
  refine mx_e_pi hh3 ?_
  refine mx_p_aln rfl ?_
  refine mx_p_ic ?_
  obtain ⟨h4, hh4, hq⟩ := mx_bS hq
  refine mx_e_pi hh4 ?_
  refine mx_p_aln rfl ?_
  refine mx_p_ic ?_
  obtain ⟨h5, hh5, hq⟩ := mx_bS hq
  refine mx_e_pi hh5 ?_
  refine mx_p_aln rfl ?_
  refine mx_p_ic ?_
  obtain ⟨h6, hh6, hq⟩ := mx_bS hq
  refine mx_e_pi hh6 ?_
  refine mx_p_aln rfl ?_
  refine mx_p_ic ?_
  obtain ⟨h7, hh7, hq⟩ := mx_bS hq
  refine mx_e_pi hh7 ?_
  refine mx_p_aln rfl ?_
  refine mx_p_ic ?_
  obtain ⟨h8, hh8, hq⟩ := mx_bS hq
  refine mx_e_pi hh8 ?_
  cases hq; exact mx_p_rv
set_option maxHeartbeats 1000000 in
theorem t_X11_bit {a0 : Int32} {h : mx_Hp} {res} (hq : f_X11_bit a0 h = some res) : mx_Ms mx_k_X11_bit [.int a0] h (some (.int res), h) := by
  unfold f_X11_bit at hq
  show mx_Ev mx_k_X11_bit mx_noS (mx_b_X11_bit 0, [some (.int a0)], [], h, 0, 0) _
  refine mx_p_iln rfl ?_
  obtain ⟨v3, hE, hK⟩ := mx_bS hq
  have HJ : mx_Ev mx_k_X11_bit mx_noS (mx_b_X11_bit 17, [none], [.int v3], h, 0, 0) (some (.int res), h) := by
    replace hq := hK
    cases hq; exact mx_e_ri rfl
  clear hK
  replace hq := hE
  by_cases hc1 : a0 < 0
  · rw [if_pos hc1] at hq
    refine mx_e_zt (decide_eq_true hc1) ?_
    refine mx_p_ic ?_
    refine mx_p_np ?_
    cases hq; exact mx_Ev.weak (mx_le.drop _ (mx_le.nil)) HJ
  · rw [if_neg hc1] at hq
    refine mx_e_zf (fun z => hc1 (of_decide_eq_true z)) ?_
    refine mx_p_iln rfl ?_
    refine mx_p_bp ?_
    by_cases hc2 : 10 ≤ a0
    · rw [if_pos hc2] at hq
      refine mx_e_it (decide_eq_true hc2) ?_
      refine mx_p_ic ?_
      refine mx_p_np ?_
      cases hq; exact mx_Ev.weak (mx_le.drop _ (mx_le.nil)) HJ
    · rw [if_neg hc2] at hq
      refine mx_e_if (fun z => hc2 (of_decide_eq_true z)) ?_
      refine mx_p_ic ?_
      refine mx_p_iln rfl ?_
      refine mx_p_ishl ?_
      refine mx_p_gt ?_
      cases hq; exact mx_Ev.weak (mx_le.drop _ (mx_le.nil)) HJ
set_option maxHeartbeats 1000000 in
theorem t_X0_addWord {a0 : Nat} {a1 : Int32} {a2 : Int32} {h : mx_Hp} {res} (hq : f_X0_addWord a0 a1 a2 h = some res) : mx_Ms mx_k_X0_addWord [.ref a0, .int a1, .int a2] h (some (.int res.1), res.2) := by
  unfold f_X0_addWord at hq
  show mx_Ev mx_k_X0_addWord mx_noS (mx_b_X0_addWord 0, [some (.ref a0), some (.int a1), some (.int a2)], [], h, 0, 0) _
  refine mx_p_iln rfl ?_
  by_cases hc1 : a1 < 0
  · rw [if_pos hc1] at hq
    refine mx_e_zt (decide_eq_true hc1) ?_
    refine mx_p_ic ?_
    cases hq; exact mx_e_rb rfl (by decide)
  · rw [if_neg hc1] at hq
    refine mx_e_zf (fun z => hc1 (of_decide_eq_true z)) ?_
    refine mx_p_iln rfl ?_
    refine mx_p_ic ?_
    by_cases hc2 : 3 < a1
    · rw [if_pos hc2] at hq
      refine mx_e_it (decide_eq_true hc2) ?_
      refine mx_p_ic ?_
      cases hq; exact mx_e_rb rfl (by decide)
    · rw [if_neg hc2] at hq
      refine mx_e_if (fun z => hc2 (of_decide_eq_true z)) ?_
      refine mx_p_iln rfl ?_
      by_cases hc3 : a2 < 0
      · rw [if_pos hc3] at hq
        refine mx_e_zt (decide_eq_true hc3) ?_
        refine mx_p_ic ?_
        cases hq; exact mx_e_rb rfl (by decide)
      · rw [if_neg hc3] at hq
        refine mx_e_zf (fun z => hc3 (of_decide_eq_true z)) ?_
        refine mx_p_iln rfl ?_
        refine mx_p_bp ?_
        by_cases hc4 : 9 < a2
        · rw [if_pos hc4] at hq
          refine mx_e_it (decide_eq_true hc4) ?_
          refine mx_p_ic ?_
          cases hq; exact mx_e_rb rfl (by decide)
        · rw [if_neg hc4] at hq
          refine mx_e_if (fun z => hc4 (of_decide_eq_true z)) ?_
          refine mx_p_aln rfl ?_
          obtain ⟨x5, hx5, hq⟩ := mx_bS hq
          refine mx_e_gi hx5 (by decide) ?_
          refine mx_p_bp ?_
          by_cases hc6 : x5 < 10
          · rw [if_pos hc6] at hq
            refine mx_e_it (decide_eq_true hc6) ?_
            refine mx_p_aln rfl ?_
            obtain ⟨x7, hx7, hq⟩ := mx_bS hq
            refine mx_e_gr hx7 rfl ?_
            refine mx_p_aln rfl ?_
            obtain ⟨x8, hx8, hq⟩ := mx_bS hq
            refine mx_e_gi hx8 (by decide) ?_
            refine mx_p_iln rfl ?_
            obtain ⟨h9, hh9, hq⟩ := mx_bS hq
            refine mx_e_as hh9 ?_
            refine mx_p_aln rfl ?_
            obtain ⟨x10, hx10, hq⟩ := mx_bS hq
            refine mx_e_gr hx10 rfl ?_
            refine mx_p_aln rfl ?_
            obtain ⟨x11, hx11, hq⟩ := mx_bS hq
            refine mx_e_gi hx11 (by decide) ?_
            refine mx_p_iln rfl ?_
            obtain ⟨h12, hh12, hq⟩ := mx_bS hq
            refine mx_e_as hh12 ?_
            refine mx_p_aln rfl ?_
            obtain ⟨x13, hx13, hq⟩ := mx_bS hq
            refine mx_e_gr hx13 rfl ?_
            refine mx_p_aln rfl ?_
            obtain ⟨x14, hx14, hq⟩ := mx_bS hq
            refine mx_e_gi hx14 (by decide) ?_
            refine mx_p_ic ?_
            obtain ⟨h15, hh15, hq⟩ := mx_bS hq
            refine mx_e_as hh15 ?_
            refine mx_p_aln rfl ?_
            refine mx_p_dup rfl ?_
            obtain ⟨x16, hx16, hq⟩ := mx_bS hq
            refine mx_e_gi hx16 (by decide) ?_
            refine mx_p_iln rfl ?_
            refine mx_p_ic ?_
            obtain ⟨v20, hE, hK⟩ := mx_bS hq
            have HJ : mx_Ev mx_k_X0_addWord mx_noS (mx_b_X0_addWord 81, [some (.ref a0), some (.int a1), none], [.int v20, .int x16, .ref a0], h15, 0, 0) (some (.int res.1), res.2) := by
              replace hq := hK
              refine mx_p_ior ?_
              obtain ⟨h21, hh21, hq⟩ := mx_bS hq
              refine mx_e_pi hh21 ?_
              refine mx_p_aln rfl ?_
              refine mx_p_dup rfl ?_
              obtain ⟨x22, hx22, hq⟩ := mx_bS hq
              refine mx_e_gi hx22 (by decide) ?_
              refine mx_p_iln rfl ?_
              refine mx_p_ic ?_
              obtain ⟨v26, hE, hK⟩ := mx_bS hq
              have HJ : mx_Ev mx_k_X0_addWord mx_noS (mx_b_X0_addWord 106, [some (.ref a0), some (.int a1), none], [.int v26, .int x22, .ref a0], h21, 0, 0) (some (.int res.1), res.2) := by
                replace hq := hK
                refine mx_p_ior ?_
                obtain ⟨h27, hh27, hq⟩ := mx_bS hq
                refine mx_e_pi hh27 ?_
                refine mx_p_aln rfl ?_
                refine mx_p_dup rfl ?_
                obtain ⟨x28, hx28, hq⟩ := mx_bS hq
                refine mx_e_gi hx28 (by decide) ?_
                refine mx_p_iln rfl ?_
                refine mx_p_ic ?_
                obtain ⟨v32, hE, hK⟩ := mx_bS hq
                have HJ : mx_Ev mx_k_X0_addWord mx_noS (mx_b_X0_addWord 131, [some (.ref a0), none, none], [.int v32, .int x28, .ref a0], h27, 0, 0) (some (.int res.1), res.2) := by
                  replace hq := hK
                  refine mx_p_ior ?_
                  obtain ⟨h33, hh33, hq⟩ := mx_bS hq
                  refine mx_e_pi hh33 ?_
                  refine mx_p_aln rfl ?_
                  refine mx_p_dup rfl ?_
                  obtain ⟨x34, hx34, hq⟩ := mx_bS hq
                  refine mx_e_gi hx34 (by decide) ?_
                  refine mx_p_ic ?_
                  refine mx_p_iadd ?_
                  obtain ⟨h35, hh35, hq⟩ := mx_bS hq
                  refine mx_e_pi hh35 ?_
                  refine mx_p_ic ?_
                  cases hq; exact mx_e_rb rfl (by decide)
                clear hK
                replace hq := hE
                by_cases hc29 : ¬ a1 = 3
                · rw [if_pos hc29] at hq
                  refine mx_e_it (decide_eq_true hc29) ?_
                  refine mx_p_ic ?_
                  refine mx_p_np ?_
                  cases hq; exact mx_Ev.weak (mx_le.same _ (mx_le.drop _ (mx_le.same _ (mx_le.nil)))) HJ
                · rw [if_neg hc29] at hq
                  refine mx_e_if (fun z => hc29 (of_decide_eq_true z)) ?_
                  refine mx_p_aln rfl ?_
                  obtain ⟨x30, hx30, hq⟩ := mx_bS hq
                  refine mx_e_gi hx30 (by decide) ?_
                  obtain ⟨x31, hx31, hq⟩ := mx_bS hq
                  refine mx_e_cs mx_t_X11_bit rfl rfl rfl ⟨Nat.le_of_ble_eq_true rfl, Nat.le_of_ble_eq_true rfl, Nat.le_of_ble_eq_true rfl⟩ (Nat.le_of_ble_eq_true rfl) rfl rfl ⟨Nat.zero_le _, Nat.zero_le _⟩ (t_X11_bit hx31) ?_
                  refine mx_p_gt ?_
                  cases hq; exact mx_Ev.weak (mx_le.same _ (mx_le.drop _ (mx_le.same _ (mx_le.nil)))) HJ
              clear hK
              replace hq := hE
              by_cases hc23 : ¬ a1 = 2
              · rw [if_pos hc23] at hq
                refine mx_e_it (decide_eq_true hc23) ?_
                refine mx_p_ic ?_
                refine mx_p_np ?_
                cases hq; exact mx_Ev.weak (mx_le.same _ (mx_le.same _ (mx_le.same _ (mx_le.nil)))) HJ
              · rw [if_neg hc23] at hq
                refine mx_e_if (fun z => hc23 (of_decide_eq_true z)) ?_
                refine mx_p_aln rfl ?_
                obtain ⟨x24, hx24, hq⟩ := mx_bS hq
                refine mx_e_gi hx24 (by decide) ?_
                obtain ⟨x25, hx25, hq⟩ := mx_bS hq
                refine mx_e_cs mx_t_X11_bit rfl rfl rfl ⟨Nat.le_of_ble_eq_true rfl, Nat.le_of_ble_eq_true rfl, Nat.le_of_ble_eq_true rfl⟩ (Nat.le_of_ble_eq_true rfl) rfl rfl ⟨Nat.zero_le _, Nat.zero_le _⟩ (t_X11_bit hx25) ?_
                refine mx_p_gt ?_
                cases hq; exact mx_Ev.weak (mx_le.same _ (mx_le.same _ (mx_le.same _ (mx_le.nil)))) HJ
            clear hK
            replace hq := hE
            by_cases hc17 : ¬ a1 = 1
            · rw [if_pos hc17] at hq
              refine mx_e_it (decide_eq_true hc17) ?_
              refine mx_p_ic ?_
              refine mx_p_np ?_
              cases hq; exact mx_Ev.weak (mx_le.same _ (mx_le.same _ (mx_le.drop _ (mx_le.nil)))) HJ
            · rw [if_neg hc17] at hq
              refine mx_e_if (fun z => hc17 (of_decide_eq_true z)) ?_
              refine mx_p_aln rfl ?_
              obtain ⟨x18, hx18, hq⟩ := mx_bS hq
              refine mx_e_gi hx18 (by decide) ?_
              obtain ⟨x19, hx19, hq⟩ := mx_bS hq
              refine mx_e_cs mx_t_X11_bit rfl rfl rfl ⟨Nat.le_of_ble_eq_true rfl, Nat.le_of_ble_eq_true rfl, Nat.le_of_ble_eq_true rfl⟩ (Nat.le_of_ble_eq_true rfl) rfl rfl ⟨Nat.zero_le _, Nat.zero_le _⟩ (t_X11_bit hx19) ?_
              refine mx_p_gt ?_
              cases hq; exact mx_Ev.weak (mx_le.same _ (mx_le.same _ (mx_le.drop _ (mx_le.nil)))) HJ
          · rw [if_neg hc6] at hq
            refine mx_e_if (fun z => hc6 (of_decide_eq_true z)) ?_
            refine mx_p_np ?_
            refine mx_p_ic ?_
            cases hq; exact mx_e_rb rfl (by decide)
set_option maxHeartbeats 1000000 in
theorem t_X0_has {a0 : Nat} {a1 : Int32} {h : mx_Hp} {res} (hq : f_X0_has a0 a1 h = some res) : mx_Ms mx_k_X0_has [.ref a0, .int a1] h (some (.int res), h) := by
  unfold f_X0_has at hq
  show mx_Ev mx_k_X0_has mx_noS (mx_b_X0_has 0, [some (.ref a0), some (.int a1)], [], h, 0, 0) _
  refine mx_p_iln rfl ?_
  obtain ⟨v5, hE, hK⟩ := mx_bS hq
  have HJ : mx_Ev mx_k_X0_has mx_noS (mx_b_X0_has 23, [none, none], [.int v5], h, 0, 0) (some (.int res), h) := by
    replace hq := hK
    by_cases hb6 : v5 = 0 ∨ v5 = 1
    · rw [if_pos hb6] at hq; cases hq; exact mx_e_rb rfl hb6
    · rw [if_neg hb6] at hq; cases hq
  clear hK
  replace hq := hE
  by_cases hc1 : a1 < 0
  · rw [if_pos hc1] at hq
    refine mx_e_zt (decide_eq_true hc1) ?_
    refine mx_p_ic ?_
    refine mx_p_np ?_
    cases hq; exact mx_Ev.weak (mx_le.drop _ (mx_le.drop _ (mx_le.nil))) HJ
  · rw [if_neg hc1] at hq
    refine mx_e_zf (fun z => hc1 (of_decide_eq_true z)) ?_
    refine mx_p_iln rfl ?_
    refine mx_p_aln rfl ?_
    obtain ⟨x2, hx2, hq⟩ := mx_bS hq
    refine mx_e_gi hx2 (by decide) ?_
    by_cases hc3 : x2 ≤ a1
    · rw [if_pos hc3] at hq
      refine mx_e_it (decide_eq_true hc3) ?_
      refine mx_p_ic ?_
      refine mx_p_np ?_
      cases hq; exact mx_Ev.weak (mx_le.drop _ (mx_le.drop _ (mx_le.nil))) HJ
    · rw [if_neg hc3] at hq
      refine mx_e_if (fun z => hc3 (of_decide_eq_true z)) ?_
      refine mx_p_iln rfl ?_
      refine mx_p_bp ?_
      by_cases hc4 : 10 ≤ a1
      · rw [if_pos hc4] at hq
        refine mx_e_it (decide_eq_true hc4) ?_
        refine mx_p_ic ?_
        refine mx_p_np ?_
        cases hq; exact mx_Ev.weak (mx_le.drop _ (mx_le.drop _ (mx_le.nil))) HJ
      · rw [if_neg hc4] at hq
        refine mx_e_if (fun z => hc4 (of_decide_eq_true z)) ?_
        refine mx_p_ic ?_
        refine mx_p_gt ?_
        cases hq; exact mx_Ev.weak (mx_le.drop _ (mx_le.drop _ (mx_le.nil))) HJ
set_option maxHeartbeats 1000000 in
theorem t_X0_addBehind {a0 : Nat} {a1 : Int32} {a2 : Int32} {h : mx_Hp} {res} (hq : f_X0_addBehind a0 a1 a2 h = some res) : mx_Ms mx_k_X0_addBehind [.ref a0, .int a1, .int a2] h (some (.int res.1), res.2) := by
  unfold f_X0_addBehind at hq
  show mx_Ev mx_k_X0_addBehind mx_noS (mx_b_X0_addBehind 0, [some (.ref a0), some (.int a1), some (.int a2)], [], h, 0, 0) _
  refine mx_p_aln rfl ?_
  refine mx_p_iln rfl ?_
  have ho2 : a0 < h.1 ∧ (mx_lay a0).1 = 3 := by
    by_cases hh : a0 < h.1 ∧ (mx_lay a0).1 = 3
    · exact hh
    · rw [if_neg hh] at hq; cases hq
  rw [if_pos ho2] at hq
  obtain ⟨x1, hx1, hq⟩ := mx_bS hq
  refine mx_e_cv mx_t_X0_has ho2 rfl rfl rfl ⟨Nat.le_of_ble_eq_true rfl, Nat.le_of_ble_eq_true rfl, Nat.le_of_ble_eq_true rfl⟩ (Nat.le_of_ble_eq_true rfl) rfl rfl rfl ⟨Nat.zero_le _, Nat.zero_le _⟩ (t_X0_has hx1) ?_
  by_cases hc3 : x1 = 0
  · rw [if_pos hc3] at hq
    refine mx_e_zt (decide_eq_true hc3) ?_
    refine mx_p_ic ?_
    cases hq; exact mx_e_rb rfl (by decide)
  · rw [if_neg hc3] at hq
    refine mx_e_zf (fun z => hc3 (of_decide_eq_true z)) ?_
    refine mx_p_aln rfl ?_
    refine mx_p_iln rfl ?_
    have ho5 : a0 < h.1 ∧ (mx_lay a0).1 = 3 := by
      by_cases hh : a0 < h.1 ∧ (mx_lay a0).1 = 3
      · exact hh
      · rw [if_neg hh] at hq; cases hq
    rw [if_pos ho5] at hq
    obtain ⟨x4, hx4, hq⟩ := mx_bS hq
    refine mx_e_cv mx_t_X0_has ho5 rfl rfl rfl ⟨Nat.le_of_ble_eq_true rfl, Nat.le_of_ble_eq_true rfl, Nat.le_of_ble_eq_true rfl⟩ (Nat.le_of_ble_eq_true rfl) rfl rfl rfl ⟨Nat.zero_le _, Nat.zero_le _⟩ (t_X0_has hx4) ?_
    by_cases hc6 : ¬ x4 = 0
    · rw [if_pos hc6] at hq
      refine mx_e_zt (decide_eq_true hc6) ?_
      refine mx_p_aln rfl ?_
      obtain ⟨x7, hx7, hq⟩ := mx_bS hq
      refine mx_e_gr hx7 rfl ?_
      refine mx_p_iln rfl ?_
      refine mx_p_dup2 rfl rfl ?_
      obtain ⟨x8, hx8, hq⟩ := mx_bS hq
      refine mx_e_al hx8 ?_
      refine mx_p_iln rfl ?_
      obtain ⟨x9, hx9, hq⟩ := mx_bS hq
      refine mx_e_cs mx_t_X11_bit rfl rfl rfl ⟨Nat.le_of_ble_eq_true rfl, Nat.le_of_ble_eq_true rfl, Nat.le_of_ble_eq_true rfl⟩ (Nat.le_of_ble_eq_true rfl) rfl rfl ⟨Nat.zero_le _, Nat.zero_le _⟩ (t_X11_bit hx9) ?_
      refine mx_p_ior ?_
      obtain ⟨h10, hh10, hq⟩ := mx_bS hq
      refine mx_e_as hh10 ?_
      refine mx_p_ic ?_
      cases hq; exact mx_e_rb rfl (by decide)
    · rw [if_neg hc6] at hq
      refine mx_e_zf (fun z => hc6 (of_decide_eq_true z)) ?_
      refine mx_p_np ?_
      refine mx_p_ic ?_
      cases hq; exact mx_e_rb rfl (by decide)
set_option maxHeartbeats 1000000 in
theorem t_X11_isMayor {a0 : Int32} {h : mx_Hp} {res} (hq : f_X11_isMayor a0 h = some res) : mx_Ms mx_k_X11_isMayor [.int a0] h (some (.int res), h) := by
  unfold f_X11_isMayor at hq
  show mx_Ev mx_k_X11_isMayor mx_noS (mx_b_X11_isMayor 0, [some (.int a0)], [], h, 0, 0) _
  refine mx_p_iln rfl ?_
  obtain ⟨v3, hE, hK⟩ := mx_bS hq
  have HJ : mx_Ev mx_k_X11_isMayor mx_noS (mx_b_X11_isMayor 14, [none], [.int v3], h, 0, 0) (some (.int res), h) := by
    replace hq := hK
    by_cases hb4 : v3 = 0 ∨ v3 = 1
    · rw [if_pos hb4] at hq; cases hq; exact mx_e_rb rfl hb4
    · rw [if_neg hb4] at hq; cases hq
  clear hK
  replace hq := hE
  by_cases hc1 : a0 = 0
  · rw [if_pos hc1] at hq
    refine mx_e_zt (decide_eq_true hc1) ?_
    refine mx_p_ic ?_
    refine mx_p_gt ?_
    cases hq; exact mx_Ev.weak (mx_le.drop _ (mx_le.nil)) HJ
  · rw [if_neg hc1] at hq
    refine mx_e_zf (fun z => hc1 (of_decide_eq_true z)) ?_
    refine mx_p_iln rfl ?_
    refine mx_p_ic ?_
    by_cases hc2 : ¬ a0 = 1
    · rw [if_pos hc2] at hq
      refine mx_e_it (decide_eq_true hc2) ?_
      refine mx_p_ic ?_
      refine mx_p_np ?_
      cases hq; exact mx_Ev.weak (mx_le.drop _ (mx_le.nil)) HJ
    · rw [if_neg hc2] at hq
      refine mx_e_if (fun z => hc2 (of_decide_eq_true z)) ?_
      refine mx_p_np ?_
      refine mx_p_ic ?_
      refine mx_p_gt ?_
      cases hq; exact mx_Ev.weak (mx_le.drop _ (mx_le.nil)) HJ
set_option maxHeartbeats 1000000 in
theorem t_X0_addKnown {a0 : Nat} {a1 : Int32} {a2 : Int32} {h : mx_Hp} {res} (hq : f_X0_addKnown a0 a1 a2 h = some res) : mx_Ms mx_k_X0_addKnown [.ref a0, .int a1, .int a2] h (some (.int res.1), res.2) := by
  unfold f_X0_addKnown at hq
  show mx_Ev mx_k_X0_addKnown mx_noS (mx_b_X0_addKnown 0, [some (.ref a0), some (.int a1), some (.int a2)], [], h, 0, 0) _
  refine mx_p_iln rfl ?_
  obtain ⟨x1, hx1, hq⟩ := mx_bS hq
  refine mx_e_cs mx_t_X11_isMayor rfl rfl rfl ⟨Nat.le_of_ble_eq_true rfl, Nat.le_of_ble_eq_true rfl, Nat.le_of_ble_eq_true rfl⟩ (Nat.le_of_ble_eq_true rfl) rfl rfl ⟨Nat.zero_le _, Nat.zero_le _⟩ (t_X11_isMayor hx1) ?_
  by_cases hc2 : x1 = 0
  · rw [if_pos hc2] at hq
    refine mx_e_zt (decide_eq_true hc2) ?_
    refine mx_p_ic ?_
    cases hq; exact mx_e_rb rfl (by decide)
  · rw [if_neg hc2] at hq
    refine mx_e_zf (fun z => hc2 (of_decide_eq_true z)) ?_
    refine mx_p_aln rfl ?_
    refine mx_p_iln rfl ?_
    have ho4 : a0 < h.1 ∧ (mx_lay a0).1 = 3 := by
      by_cases hh : a0 < h.1 ∧ (mx_lay a0).1 = 3
      · exact hh
      · rw [if_neg hh] at hq; cases hq
    rw [if_pos ho4] at hq
    obtain ⟨x3, hx3, hq⟩ := mx_bS hq
    refine mx_e_cv mx_t_X0_has ho4 rfl rfl rfl ⟨Nat.le_of_ble_eq_true rfl, Nat.le_of_ble_eq_true rfl, Nat.le_of_ble_eq_true rfl⟩ (Nat.le_of_ble_eq_true rfl) rfl rfl rfl ⟨Nat.zero_le _, Nat.zero_le _⟩ (t_X0_has hx3) ?_
    by_cases hc5 : ¬ x3 = 0
    · rw [if_pos hc5] at hq
      refine mx_e_zt (decide_eq_true hc5) ?_
      refine mx_p_iln rfl ?_
      obtain ⟨v13, hE, hK⟩ := mx_bS hq
      have HJ : mx_Ev mx_k_X0_addKnown mx_noS (mx_b_X0_addKnown 50, [none, none, none], [], v13, 0, 0) (some (.int res.1), res.2) := by
        replace hq := hK
        refine mx_p_ic ?_
        cases hq; exact mx_e_rb rfl (by decide)
      clear hK
      replace hq := hE
      by_cases hc6 : ¬ a1 = 0
      · rw [if_pos hc6] at hq
        refine mx_e_zt (decide_eq_true hc6) ?_
        refine mx_p_aln rfl ?_
        refine mx_p_dup rfl ?_
        obtain ⟨x7, hx7, hq⟩ := mx_bS hq
        refine mx_e_gi hx7 (by decide) ?_
        refine mx_p_iln rfl ?_
        obtain ⟨x8, hx8, hq⟩ := mx_bS hq
        refine mx_e_cs mx_t_X11_bit rfl rfl rfl ⟨Nat.le_of_ble_eq_true rfl, Nat.le_of_ble_eq_true rfl, Nat.le_of_ble_eq_true rfl⟩ (Nat.le_of_ble_eq_true rfl) rfl rfl ⟨Nat.zero_le _, Nat.zero_le _⟩ (t_X11_bit hx8) ?_
        refine mx_p_ior ?_
        obtain ⟨h9, hh9, hq⟩ := mx_bS hq
        refine mx_e_pi hh9 ?_
        refine mx_p_np ?_
        cases hq; exact mx_Ev.weak (mx_le.drop _ (mx_le.drop _ (mx_le.drop _ (mx_le.nil)))) HJ
      · rw [if_neg hc6] at hq
        refine mx_e_zf (fun z => hc6 (of_decide_eq_true z)) ?_
        refine mx_p_aln rfl ?_
        refine mx_p_dup rfl ?_
        obtain ⟨x10, hx10, hq⟩ := mx_bS hq
        refine mx_e_gi hx10 (by decide) ?_
        refine mx_p_iln rfl ?_
        obtain ⟨x11, hx11, hq⟩ := mx_bS hq
        refine mx_e_cs mx_t_X11_bit rfl rfl rfl ⟨Nat.le_of_ble_eq_true rfl, Nat.le_of_ble_eq_true rfl, Nat.le_of_ble_eq_true rfl⟩ (Nat.le_of_ble_eq_true rfl) rfl rfl ⟨Nat.zero_le _, Nat.zero_le _⟩ (t_X11_bit hx11) ?_
        refine mx_p_ior ?_
        obtain ⟨h12, hh12, hq⟩ := mx_bS hq
        refine mx_e_pi hh12 ?_
        refine mx_p_gt ?_
        cases hq; exact mx_Ev.weak (mx_le.drop _ (mx_le.drop _ (mx_le.drop _ (mx_le.nil)))) HJ
    · rw [if_neg hc5] at hq
      refine mx_e_zf (fun z => hc5 (of_decide_eq_true z)) ?_
      refine mx_p_np ?_
      refine mx_p_ic ?_
      cases hq; exact mx_e_rb rfl (by decide)
set_option maxHeartbeats 1000000 in
theorem t_X0_takePair {a0 : Nat} {a1 : Int32} {a2 : Int32} {a3 : Int32} {h : mx_Hp} {res} (hq : f_X0_takePair a0 a1 a2 a3 h = some res) : mx_Ms mx_k_X0_takePair [.ref a0, .int a1, .int a2, .int a3] h (some (.int res.1), res.2) := by
  unfold f_X0_takePair at hq
  show mx_Ev mx_k_X0_takePair mx_noS (mx_b_X0_takePair 0, [some (.ref a0), some (.int a1), some (.int a2), some (.int a3)], [], h, 0, 0) _
  refine mx_p_iln rfl ?_
  by_cases hw1 : a1 = 103
  · rw [if_pos hw1] at hq
    refine mx_e_lk (mx_sw_t hw1) ?_
    refine mx_p_aln rfl ?_
    refine mx_p_iln rfl ?_
    refine mx_p_iln rfl ?_
    have ho3 : a0 < h.1 ∧ (mx_lay a0).1 = 3 := by
      by_cases hh : a0 < h.1 ∧ (mx_lay a0).1 = 3
      · exact hh
      · rw [if_neg hh] at hq; cases hq
    rw [if_pos ho3] at hq
    obtain ⟨x2, hx2, hq⟩ := mx_bS hq
    refine mx_e_cv mx_t_X0_addBehind ho3 rfl rfl rfl ⟨Nat.le_of_ble_eq_true rfl, Nat.le_of_ble_eq_true rfl, Nat.le_of_ble_eq_true rfl⟩ (Nat.le_of_ble_eq_true rfl) rfl rfl rfl ⟨Nat.zero_le _, Nat.zero_le _⟩ (t_X0_addBehind hx2) ?_
    by_cases hb4 : x2.1 = 0 ∨ x2.1 = 1
    · rw [if_pos hb4] at hq; cases hq; exact mx_e_rb rfl hb4
    · rw [if_neg hb4] at hq; cases hq
  rw [if_neg hw1] at hq
  by_cases hw5 : a1 = 107
  · rw [if_pos hw5] at hq
    refine mx_e_lk (mx_sw_f hw1 (mx_sw_t hw5)) ?_
    refine mx_p_aln rfl ?_
    refine mx_p_iln rfl ?_
    refine mx_p_iln rfl ?_
    have ho7 : a0 < h.1 ∧ (mx_lay a0).1 = 3 := by
      by_cases hh : a0 < h.1 ∧ (mx_lay a0).1 = 3
      · exact hh
      · rw [if_neg hh] at hq; cases hq
    rw [if_pos ho7] at hq
    obtain ⟨x6, hx6, hq⟩ := mx_bS hq
    refine mx_e_cv mx_t_X0_addKnown ho7 rfl rfl rfl ⟨Nat.le_of_ble_eq_true rfl, Nat.le_of_ble_eq_true rfl, Nat.le_of_ble_eq_true rfl⟩ (Nat.le_of_ble_eq_true rfl) rfl rfl rfl ⟨Nat.zero_le _, Nat.zero_le _⟩ (t_X0_addKnown hx6) ?_
    by_cases hb8 : x6.1 = 0 ∨ x6.1 = 1
    · rw [if_pos hb8] at hq; cases hq; exact mx_e_rb rfl hb8
    · rw [if_neg hb8] at hq; cases hq
  rw [if_neg hw5] at hq
  by_cases hw9 : a1 = 119
  · rw [if_pos hw9] at hq
    refine mx_e_lk (mx_sw_f hw1 (mx_sw_f hw5 (mx_sw_t hw9))) ?_
    refine mx_p_aln rfl ?_
    refine mx_p_iln rfl ?_
    refine mx_p_iln rfl ?_
    have ho11 : a0 < h.1 ∧ (mx_lay a0).1 = 3 := by
      by_cases hh : a0 < h.1 ∧ (mx_lay a0).1 = 3
      · exact hh
      · rw [if_neg hh] at hq; cases hq
    rw [if_pos ho11] at hq
    obtain ⟨x10, hx10, hq⟩ := mx_bS hq
    refine mx_e_cv mx_t_X0_addWord ho11 rfl rfl rfl ⟨Nat.le_of_ble_eq_true rfl, Nat.le_of_ble_eq_true rfl, Nat.le_of_ble_eq_true rfl⟩ (Nat.le_of_ble_eq_true rfl) rfl rfl rfl ⟨Nat.zero_le _, Nat.zero_le _⟩ (t_X0_addWord hx10) ?_
    by_cases hb12 : x10.1 = 0 ∨ x10.1 = 1
    · rw [if_pos hb12] at hq; cases hq; exact mx_e_rb rfl hb12
    · rw [if_neg hb12] at hq; cases hq
  rw [if_neg hw9] at hq
  refine mx_e_lk (mx_sw_f hw1 (mx_sw_f hw5 (mx_sw_f hw9 rfl))) ?_
  refine mx_p_ic ?_
  cases hq; exact mx_e_rb rfl (by decide)
set_option maxHeartbeats 1000000 in
theorem t_X0_setLongest {a0 : Nat} {a1 : Int32} {h : mx_Hp} {res} (hq : f_X0_setLongest a0 a1 h = some res) : mx_Ms mx_k_X0_setLongest [.ref a0, .int a1] h (some (.int res.1), res.2) := by
  unfold f_X0_setLongest at hq
  show mx_Ev mx_k_X0_setLongest mx_noS (mx_b_X0_setLongest 0, [some (.ref a0), some (.int a1)], [], h, 0, 0) _
  refine mx_p_iln rfl ?_
  refine mx_p_ic ?_
  by_cases hc1 : a1 < 1
  · rw [if_pos hc1] at hq
    refine mx_e_it (decide_eq_true hc1) ?_
    refine mx_p_ic ?_
    cases hq; exact mx_e_rb rfl (by decide)
  · rw [if_neg hc1] at hq
    refine mx_e_if (fun z => hc1 (of_decide_eq_true z)) ?_
    refine mx_p_iln rfl ?_
    refine mx_p_ic ?_
    by_cases hc2 : a1 ≤ 4
    · rw [if_pos hc2] at hq
      refine mx_e_it (decide_eq_true hc2) ?_
      refine mx_p_aln rfl ?_
      refine mx_p_iln rfl ?_
      obtain ⟨h3, hh3, hq⟩ := mx_bS hq
      refine mx_e_pi hh3 ?_
      refine mx_p_ic ?_
      cases hq; exact mx_e_rb rfl (by decide)
    · rw [if_neg hc2] at hq
      refine mx_e_if (fun z => hc2 (of_decide_eq_true z)) ?_
      refine mx_p_np ?_
      refine mx_p_ic ?_
      cases hq; exact mx_e_rb rfl (by decide)
set_option maxHeartbeats 1000000 in
theorem t_X0_setChain {a0 : Nat} {a1 : Int32} {h : mx_Hp} {res} (hq : f_X0_setChain a0 a1 h = some res) : mx_Ms mx_k_X0_setChain [.ref a0, .int a1] h (some (.int res.1), res.2) := by
  unfold f_X0_setChain at hq
  show mx_Ev mx_k_X0_setChain mx_noS (mx_b_X0_setChain 0, [some (.ref a0), some (.int a1)], [], h, 0, 0) _
  refine mx_p_iln rfl ?_
  obtain ⟨x1, hx1, hq⟩ := mx_bS hq
  refine mx_e_cs mx_t_X11_isMayor rfl rfl rfl ⟨Nat.le_of_ble_eq_true rfl, Nat.le_of_ble_eq_true rfl, Nat.le_of_ble_eq_true rfl⟩ (Nat.le_of_ble_eq_true rfl) rfl rfl ⟨Nat.zero_le _, Nat.zero_le _⟩ (t_X11_isMayor hx1) ?_
  by_cases hc2 : ¬ x1 = 0
  · rw [if_pos hc2] at hq
    refine mx_e_zt (decide_eq_true hc2) ?_
    refine mx_p_aln rfl ?_
    refine mx_p_iln rfl ?_
    obtain ⟨h3, hh3, hq⟩ := mx_bS hq
    refine mx_e_pi hh3 ?_
    refine mx_p_ic ?_
    cases hq; exact mx_e_rb rfl (by decide)
  · rw [if_neg hc2] at hq
    refine mx_e_zf (fun z => hc2 (of_decide_eq_true z)) ?_
    refine mx_p_ic ?_
    cases hq; exact mx_e_rb rfl (by decide)
