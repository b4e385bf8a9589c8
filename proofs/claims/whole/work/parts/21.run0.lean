/-! their runs come to them: by wip/gen/dec.py -/
set_option maxRecDepth 20000 in
set_option maxHeartbeats 1000000 in
theorem t_X0_clear {a0 : Nat} {h : mx_Hp} {res} (hq : f_X0_clear a0 h = some res) : mx_Ms mx_k_X0_clear [.ref a0] h (none, res) := by
  unfold f_X0_clear at hq
  show mx_Ev mx_k_X0_clear mx_noS (mx_b_X0_clear 0, [some (.ref a0)], [], h, 0, 0) _
  refine mx_p_aln rfl ?_
  refine mx_p_ic ?_
  obtain ⟨h9, hh9, hq⟩ := mx_bS hq
  refine mx_e_pi hh9 ?_
  refine mx_p_aln rfl ?_
  refine mx_p_ic ?_
  obtain ⟨h10, hh10, hq⟩ := mx_bS hq
  refine mx_e_pi hh10 ?_
  refine mx_p_aln rfl ?_
  refine mx_p_ic ?_
  obtain ⟨h11, hh11, hq⟩ := mx_bS hq
  refine mx_e_pi hh11 ?_
  refine mx_p_aln rfl ?_
  refine mx_p_ic ?_
  obtain ⟨h12, hh12, hq⟩ := mx_bS hq
  refine mx_e_pi hh12 ?_
  refine mx_p_aln rfl ?_
  refine mx_p_ic ?_
  obtain ⟨h13, hh13, hq⟩ := mx_bS hq
  refine mx_e_pi hh13 ?_
  refine mx_p_aln rfl ?_
  refine mx_p_ic ?_
  obtain ⟨h14, hh14, hq⟩ := mx_bS hq
  refine mx_e_pi hh14 ?_
  refine mx_p_aln rfl ?_
  refine mx_p_ic ?_
  obtain ⟨h15, hh15, hq⟩ := mx_bS hq
  refine mx_e_pi hh15 ?_
  refine mx_p_aln rfl ?_
  refine mx_p_ic ?_
  obtain ⟨h16, hh16, hq⟩ := mx_bS hq
  refine mx_e_pi hh16 ?_
  cases hq; exact mx_p_rv
set_option maxRecDepth 20000 in
set_option maxHeartbeats 1000000 in
theorem t_X11_bit {a0 : Int32} {h : mx_Hp} {res} (hq : f_X11_bit a0 h = some res) : mx_Ms mx_k_X11_bit [.int a0] h (some (.int res), h) := by
  unfold f_X11_bit at hq
  show mx_Ev mx_k_X11_bit mx_noS (mx_b_X11_bit 0, [some (.int a0)], [], h, 0, 0) _
  refine mx_p_iln rfl ?_
  obtain ⟨v6, hE, hK⟩ := mx_bS hq
  have HJ : mx_Ev mx_k_X11_bit mx_noS (mx_b_X11_bit 17, [none], [.int v6], h, 0, 0) (some (.int res), h) := by
    replace hq := hK
    cases hq; exact mx_e_ri rfl
  clear hK
  replace hq := hE
  by_cases hc4 : a0 < 0
  · rw [if_pos hc4] at hq
    refine mx_e_zt (decide_eq_true hc4) ?_
    refine mx_p_ic ?_
    refine mx_p_np ?_
    cases hq; exact mx_Ev.weak (mx_le.drop _ (mx_le.nil)) HJ
  · rw [if_neg hc4] at hq
    refine mx_e_zf (fun z => hc4 (of_decide_eq_true z)) ?_
    refine mx_p_iln rfl ?_
    refine mx_p_bp ?_
    by_cases hc5 : 10 ≤ a0
    · rw [if_pos hc5] at hq
      refine mx_e_it (decide_eq_true hc5) ?_
      refine mx_p_ic ?_
      refine mx_p_np ?_
      cases hq; exact mx_Ev.weak (mx_le.drop _ (mx_le.nil)) HJ
    · rw [if_neg hc5] at hq
      refine mx_e_if (fun z => hc5 (of_decide_eq_true z)) ?_
      refine mx_p_ic ?_
      refine mx_p_iln rfl ?_
      refine mx_p_ishl ?_
      refine mx_p_gt ?_
      cases hq; exact mx_Ev.weak (mx_le.drop _ (mx_le.nil)) HJ
set_option maxRecDepth 20000 in
set_option maxHeartbeats 1000000 in
theorem t_X0_addWord {a0 : Nat} {a1 : Int32} {a2 : Int32} {h : mx_Hp} {res} (hq : f_X0_addWord a0 a1 a2 h = some res) : mx_Ms mx_k_X0_addWord [.ref a0, .int a1, .int a2] h (some (.int res.1), res.2) := by
  unfold f_X0_addWord at hq
  show mx_Ev mx_k_X0_addWord mx_noS (mx_b_X0_addWord 0, [some (.ref a0), some (.int a1), some (.int a2)], [], h, 0, 0) _
  refine mx_p_iln rfl ?_
  by_cases hc36 : a1 < 0
  · rw [if_pos hc36] at hq
    refine mx_e_zt (decide_eq_true hc36) ?_
    refine mx_p_ic ?_
    cases hq; exact mx_e_rb rfl (by decide)
  · rw [if_neg hc36] at hq
    refine mx_e_zf (fun z => hc36 (of_decide_eq_true z)) ?_
    refine mx_p_iln rfl ?_
    refine mx_p_ic ?_
    by_cases hc37 : 3 < a1
    · rw [if_pos hc37] at hq
      refine mx_e_it (decide_eq_true hc37) ?_
      refine mx_p_ic ?_
      cases hq; exact mx_e_rb rfl (by decide)
    · rw [if_neg hc37] at hq
      refine mx_e_if (fun z => hc37 (of_decide_eq_true z)) ?_
      refine mx_p_iln rfl ?_
      by_cases hc38 : a2 < 0
      · rw [if_pos hc38] at hq
        refine mx_e_zt (decide_eq_true hc38) ?_
        refine mx_p_ic ?_
        cases hq; exact mx_e_rb rfl (by decide)
      · rw [if_neg hc38] at hq
        refine mx_e_zf (fun z => hc38 (of_decide_eq_true z)) ?_
        refine mx_p_iln rfl ?_
        refine mx_p_bp ?_
        by_cases hc39 : 9 < a2
        · rw [if_pos hc39] at hq
          refine mx_e_it (decide_eq_true hc39) ?_
          refine mx_p_ic ?_
          cases hq; exact mx_e_rb rfl (by decide)
        · rw [if_neg hc39] at hq
          refine mx_e_if (fun z => hc39 (of_decide_eq_true z)) ?_
          refine mx_p_aln rfl ?_
          obtain ⟨x40, hx40, hq⟩ := mx_bS hq
          refine mx_e_gi hx40 (by decide) ?_
          refine mx_p_bp ?_
          by_cases hc41 : x40 < 10
          · rw [if_pos hc41] at hq
            refine mx_e_it (decide_eq_true hc41) ?_
            refine mx_p_aln rfl ?_
            obtain ⟨x42, hx42, hq⟩ := mx_bS hq
            refine mx_e_gr hx42 rfl ?_
            refine mx_p_aln rfl ?_
            obtain ⟨x43, hx43, hq⟩ := mx_bS hq
            refine mx_e_gi hx43 (by decide) ?_
            refine mx_p_iln rfl ?_
            obtain ⟨h44, hh44, hq⟩ := mx_bS hq
            refine mx_e_as hh44 ?_
            refine mx_p_aln rfl ?_
            obtain ⟨x45, hx45, hq⟩ := mx_bS hq
            refine mx_e_gr hx45 rfl ?_
            refine mx_p_aln rfl ?_
            obtain ⟨x46, hx46, hq⟩ := mx_bS hq
            refine mx_e_gi hx46 (by decide) ?_
            refine mx_p_iln rfl ?_
            obtain ⟨h47, hh47, hq⟩ := mx_bS hq
            refine mx_e_as hh47 ?_
            refine mx_p_aln rfl ?_
            obtain ⟨x48, hx48, hq⟩ := mx_bS hq
            refine mx_e_gr hx48 rfl ?_
            refine mx_p_aln rfl ?_
            obtain ⟨x49, hx49, hq⟩ := mx_bS hq
            refine mx_e_gi hx49 (by decide) ?_
            refine mx_p_ic ?_
            obtain ⟨h50, hh50, hq⟩ := mx_bS hq
            refine mx_e_as hh50 ?_
            refine mx_p_aln rfl ?_
            refine mx_p_dup rfl ?_
            obtain ⟨x51, hx51, hq⟩ := mx_bS hq
            refine mx_e_gi hx51 (by decide) ?_
            refine mx_p_iln rfl ?_
            refine mx_p_ic ?_
            obtain ⟨v55, hE, hK⟩ := mx_bS hq
            have HJ : mx_Ev mx_k_X0_addWord mx_noS (mx_b_X0_addWord 81, [some (.ref a0), some (.int a1), none], [.int v55, .int x51, .ref a0], h50, 0, 0) (some (.int res.1), res.2) := by
              replace hq := hK
              refine mx_p_ior ?_
              obtain ⟨h56, hh56, hq⟩ := mx_bS hq
              refine mx_e_pi hh56 ?_
              refine mx_p_aln rfl ?_
              refine mx_p_dup rfl ?_
              obtain ⟨x57, hx57, hq⟩ := mx_bS hq
              refine mx_e_gi hx57 (by decide) ?_
              refine mx_p_iln rfl ?_
              refine mx_p_ic ?_
              obtain ⟨v61, hE, hK⟩ := mx_bS hq
              have HJ : mx_Ev mx_k_X0_addWord mx_noS (mx_b_X0_addWord 106, [some (.ref a0), some (.int a1), none], [.int v61, .int x57, .ref a0], h56, 0, 0) (some (.int res.1), res.2) := by
                replace hq := hK
                refine mx_p_ior ?_
                obtain ⟨h62, hh62, hq⟩ := mx_bS hq
                refine mx_e_pi hh62 ?_
                refine mx_p_aln rfl ?_
                refine mx_p_dup rfl ?_
                obtain ⟨x63, hx63, hq⟩ := mx_bS hq
                refine mx_e_gi hx63 (by decide) ?_
                refine mx_p_iln rfl ?_
                refine mx_p_ic ?_
                obtain ⟨v67, hE, hK⟩ := mx_bS hq
                have HJ : mx_Ev mx_k_X0_addWord mx_noS (mx_b_X0_addWord 131, [some (.ref a0), none, none], [.int v67, .int x63, .ref a0], h62, 0, 0) (some (.int res.1), res.2) := by
                  replace hq := hK
                  refine mx_p_ior ?_
                  obtain ⟨h68, hh68, hq⟩ := mx_bS hq
                  refine mx_e_pi hh68 ?_
                  refine mx_p_aln rfl ?_
                  refine mx_p_dup rfl ?_
                  obtain ⟨x69, hx69, hq⟩ := mx_bS hq
                  refine mx_e_gi hx69 (by decide) ?_
                  refine mx_p_ic ?_
                  refine mx_p_iadd ?_
                  obtain ⟨h70, hh70, hq⟩ := mx_bS hq
                  refine mx_e_pi hh70 ?_
                  refine mx_p_ic ?_
                  cases hq; exact mx_e_rb rfl (by decide)
                clear hK
                replace hq := hE
                by_cases hc64 : ¬ a1 = 3
                · rw [if_pos hc64] at hq
                  refine mx_e_it (decide_eq_true hc64) ?_
                  refine mx_p_ic ?_
                  refine mx_p_np ?_
                  cases hq; exact mx_Ev.weak (mx_le.same _ (mx_le.drop _ (mx_le.same _ (mx_le.nil)))) HJ
                · rw [if_neg hc64] at hq
                  refine mx_e_if (fun z => hc64 (of_decide_eq_true z)) ?_
                  refine mx_p_aln rfl ?_
                  obtain ⟨x65, hx65, hq⟩ := mx_bS hq
                  refine mx_e_gi hx65 (by decide) ?_
                  obtain ⟨x66, hx66, hq⟩ := mx_bS hq
                  refine mx_e_cs mx_t_X11_bit rfl rfl rfl ⟨Nat.le_of_ble_eq_true rfl, Nat.le_of_ble_eq_true rfl, Nat.le_of_ble_eq_true rfl⟩ (Nat.le_of_ble_eq_true rfl) rfl rfl ⟨Nat.zero_le _, Nat.zero_le _⟩ (t_X11_bit hx66) ?_
                  refine mx_p_gt ?_
                  cases hq; exact mx_Ev.weak (mx_le.same _ (mx_le.drop _ (mx_le.same _ (mx_le.nil)))) HJ
              clear hK
              replace hq := hE
              by_cases hc58 : ¬ a1 = 2
              · rw [if_pos hc58] at hq
                refine mx_e_it (decide_eq_true hc58) ?_
                refine mx_p_ic ?_
                refine mx_p_np ?_
                cases hq; exact mx_Ev.weak (mx_le.same _ (mx_le.same _ (mx_le.same _ (mx_le.nil)))) HJ
              · rw [if_neg hc58] at hq
                refine mx_e_if (fun z => hc58 (of_decide_eq_true z)) ?_
                refine mx_p_aln rfl ?_
                obtain ⟨x59, hx59, hq⟩ := mx_bS hq
                refine mx_e_gi hx59 (by decide) ?_
                obtain ⟨x60, hx60, hq⟩ := mx_bS hq
                refine mx_e_cs mx_t_X11_bit rfl rfl rfl ⟨Nat.le_of_ble_eq_true rfl, Nat.le_of_ble_eq_true rfl, Nat.le_of_ble_eq_true rfl⟩ (Nat.le_of_ble_eq_true rfl) rfl rfl ⟨Nat.zero_le _, Nat.zero_le _⟩ (t_X11_bit hx60) ?_
                refine mx_p_gt ?_
                cases hq; exact mx_Ev.weak (mx_le.same _ (mx_le.same _ (mx_le.same _ (mx_le.nil)))) HJ
            clear hK
            replace hq := hE
            by_cases hc52 : ¬ a1 = 1
            · rw [if_pos hc52] at hq
              refine mx_e_it (decide_eq_true hc52) ?_
              refine mx_p_ic ?_
              refine mx_p_np ?_
              cases hq; exact mx_Ev.weak (mx_le.same _ (mx_le.same _ (mx_le.drop _ (mx_le.nil)))) HJ
            · rw [if_neg hc52] at hq
              refine mx_e_if (fun z => hc52 (of_decide_eq_true z)) ?_
              refine mx_p_aln rfl ?_
              obtain ⟨x53, hx53, hq⟩ := mx_bS hq
              refine mx_e_gi hx53 (by decide) ?_
              obtain ⟨x54, hx54, hq⟩ := mx_bS hq
              refine mx_e_cs mx_t_X11_bit rfl rfl rfl ⟨Nat.le_of_ble_eq_true rfl, Nat.le_of_ble_eq_true rfl, Nat.le_of_ble_eq_true rfl⟩ (Nat.le_of_ble_eq_true rfl) rfl rfl ⟨Nat.zero_le _, Nat.zero_le _⟩ (t_X11_bit hx54) ?_
              refine mx_p_gt ?_
              cases hq; exact mx_Ev.weak (mx_le.same _ (mx_le.same _ (mx_le.drop _ (mx_le.nil)))) HJ
          · rw [if_neg hc41] at hq
            refine mx_e_if (fun z => hc41 (of_decide_eq_true z)) ?_
            refine mx_p_np ?_
            refine mx_p_ic ?_
            cases hq; exact mx_e_rb rfl (by decide)
set_option maxRecDepth 20000 in
set_option maxHeartbeats 1000000 in
theorem t_X0_has {a0 : Nat} {a1 : Int32} {h : mx_Hp} {res} (hq : f_X0_has a0 a1 h = some res) : mx_Ms mx_k_X0_has [.ref a0, .int a1] h (some (.int res), h) := by
  unfold f_X0_has at hq
  show mx_Ev mx_k_X0_has mx_noS (mx_b_X0_has 0, [some (.ref a0), some (.int a1)], [], h, 0, 0) _
  refine mx_p_iln rfl ?_
  obtain ⟨v11, hE, hK⟩ := mx_bS hq
  have HJ : mx_Ev mx_k_X0_has mx_noS (mx_b_X0_has 23, [none, none], [.int v11], h, 0, 0) (some (.int res), h) := by
    replace hq := hK
    by_cases hb12 : v11 = 0 ∨ v11 = 1
    · rw [if_pos hb12] at hq; cases hq; exact mx_e_rb rfl hb12
    · rw [if_neg hb12] at hq; cases hq
  clear hK
  replace hq := hE
  by_cases hc7 : a1 < 0
  · rw [if_pos hc7] at hq
    refine mx_e_zt (decide_eq_true hc7) ?_
    refine mx_p_ic ?_
    refine mx_p_np ?_
    cases hq; exact mx_Ev.weak (mx_le.drop _ (mx_le.drop _ (mx_le.nil))) HJ
  · rw [if_neg hc7] at hq
    refine mx_e_zf (fun z => hc7 (of_decide_eq_true z)) ?_
    refine mx_p_iln rfl ?_
    refine mx_p_aln rfl ?_
    obtain ⟨x8, hx8, hq⟩ := mx_bS hq
    refine mx_e_gi hx8 (by decide) ?_
    by_cases hc9 : x8 ≤ a1
    · rw [if_pos hc9] at hq
      refine mx_e_it (decide_eq_true hc9) ?_
      refine mx_p_ic ?_
      refine mx_p_np ?_
      cases hq; exact mx_Ev.weak (mx_le.drop _ (mx_le.drop _ (mx_le.nil))) HJ
    · rw [if_neg hc9] at hq
      refine mx_e_if (fun z => hc9 (of_decide_eq_true z)) ?_
      refine mx_p_iln rfl ?_
      refine mx_p_bp ?_
      by_cases hc10 : 10 ≤ a1
      · rw [if_pos hc10] at hq
        refine mx_e_it (decide_eq_true hc10) ?_
        refine mx_p_ic ?_
        refine mx_p_np ?_
        cases hq; exact mx_Ev.weak (mx_le.drop _ (mx_le.drop _ (mx_le.nil))) HJ
      · rw [if_neg hc10] at hq
        refine mx_e_if (fun z => hc10 (of_decide_eq_true z)) ?_
        refine mx_p_ic ?_
        refine mx_p_gt ?_
        cases hq; exact mx_Ev.weak (mx_le.drop _ (mx_le.drop _ (mx_le.nil))) HJ
set_option maxRecDepth 20000 in
set_option maxHeartbeats 1000000 in
theorem t_X0_addBehind {a0 : Nat} {a1 : Int32} {a2 : Int32} {h : mx_Hp} {res} (hq : f_X0_addBehind a0 a1 a2 h = some res) : mx_Ms mx_k_X0_addBehind [.ref a0, .int a1, .int a2] h (some (.int res.1), res.2) := by
  unfold f_X0_addBehind at hq
  show mx_Ev mx_k_X0_addBehind mx_noS (mx_b_X0_addBehind 0, [some (.ref a0), some (.int a1), some (.int a2)], [], h, 0, 0) _
  refine mx_p_aln rfl ?_
  refine mx_p_iln rfl ?_
  have ho12 : a0 < h.1 ∧ (mx_lay a0).1 = 3 := by
    by_cases hh : a0 < h.1 ∧ (mx_lay a0).1 = 3
    · exact hh
    · rw [if_neg hh] at hq; cases hq
  rw [if_pos ho12] at hq
  obtain ⟨x11, hx11, hq⟩ := mx_bS hq
  refine mx_e_cv mx_t_X0_has ho12 rfl rfl rfl ⟨Nat.le_of_ble_eq_true rfl, Nat.le_of_ble_eq_true rfl, Nat.le_of_ble_eq_true rfl⟩ (Nat.le_of_ble_eq_true rfl) rfl rfl rfl ⟨Nat.zero_le _, Nat.zero_le _⟩ (t_X0_has hx11) ?_
  by_cases hc13 : x11 = 0
  · rw [if_pos hc13] at hq
    refine mx_e_zt (decide_eq_true hc13) ?_
    refine mx_p_ic ?_
    cases hq; exact mx_e_rb rfl (by decide)
  · rw [if_neg hc13] at hq
    refine mx_e_zf (fun z => hc13 (of_decide_eq_true z)) ?_
    refine mx_p_aln rfl ?_
    refine mx_p_iln rfl ?_
    have ho15 : a0 < h.1 ∧ (mx_lay a0).1 = 3 := by
      by_cases hh : a0 < h.1 ∧ (mx_lay a0).1 = 3
      · exact hh
      · rw [if_neg hh] at hq; cases hq
    rw [if_pos ho15] at hq
    obtain ⟨x14, hx14, hq⟩ := mx_bS hq
    refine mx_e_cv mx_t_X0_has ho15 rfl rfl rfl ⟨Nat.le_of_ble_eq_true rfl, Nat.le_of_ble_eq_true rfl, Nat.le_of_ble_eq_true rfl⟩ (Nat.le_of_ble_eq_true rfl) rfl rfl rfl ⟨Nat.zero_le _, Nat.zero_le _⟩ (t_X0_has hx14) ?_
    by_cases hc16 : ¬ x14 = 0
    · rw [if_pos hc16] at hq
      refine mx_e_zt (decide_eq_true hc16) ?_
      refine mx_p_aln rfl ?_
      obtain ⟨x17, hx17, hq⟩ := mx_bS hq
      refine mx_e_gr hx17 rfl ?_
      refine mx_p_iln rfl ?_
      refine mx_p_dup2 rfl rfl ?_
      obtain ⟨x18, hx18, hq⟩ := mx_bS hq
      refine mx_e_al hx18 ?_
      refine mx_p_iln rfl ?_
      obtain ⟨x19, hx19, hq⟩ := mx_bS hq
      refine mx_e_cs mx_t_X11_bit rfl rfl rfl ⟨Nat.le_of_ble_eq_true rfl, Nat.le_of_ble_eq_true rfl, Nat.le_of_ble_eq_true rfl⟩ (Nat.le_of_ble_eq_true rfl) rfl rfl ⟨Nat.zero_le _, Nat.zero_le _⟩ (t_X11_bit hx19) ?_
      refine mx_p_ior ?_
      obtain ⟨h20, hh20, hq⟩ := mx_bS hq
      refine mx_e_as hh20 ?_
      refine mx_p_ic ?_
      cases hq; exact mx_e_rb rfl (by decide)
    · rw [if_neg hc16] at hq
      refine mx_e_zf (fun z => hc16 (of_decide_eq_true z)) ?_
      refine mx_p_np ?_
      refine mx_p_ic ?_
      cases hq; exact mx_e_rb rfl (by decide)
set_option maxRecDepth 20000 in
set_option maxHeartbeats 1000000 in
theorem t_X11_isMayor {a0 : Int32} {h : mx_Hp} {res} (hq : f_X11_isMayor a0 h = some res) : mx_Ms mx_k_X11_isMayor [.int a0] h (some (.int res), h) := by
  unfold f_X11_isMayor at hq
  show mx_Ev mx_k_X11_isMayor mx_noS (mx_b_X11_isMayor 0, [some (.int a0)], [], h, 0, 0) _
  refine mx_p_iln rfl ?_
  obtain ⟨v7, hE, hK⟩ := mx_bS hq
  have HJ : mx_Ev mx_k_X11_isMayor mx_noS (mx_b_X11_isMayor 14, [none], [.int v7], h, 0, 0) (some (.int res), h) := by
    replace hq := hK
    by_cases hb8 : v7 = 0 ∨ v7 = 1
    · rw [if_pos hb8] at hq; cases hq; exact mx_e_rb rfl hb8
    · rw [if_neg hb8] at hq; cases hq
  clear hK
  replace hq := hE
  by_cases hc5 : a0 = 0
  · rw [if_pos hc5] at hq
    refine mx_e_zt (decide_eq_true hc5) ?_
    refine mx_p_ic ?_
    refine mx_p_gt ?_
    cases hq; exact mx_Ev.weak (mx_le.drop _ (mx_le.nil)) HJ
  · rw [if_neg hc5] at hq
    refine mx_e_zf (fun z => hc5 (of_decide_eq_true z)) ?_
    refine mx_p_iln rfl ?_
    refine mx_p_ic ?_
    by_cases hc6 : ¬ a0 = 1
    · rw [if_pos hc6] at hq
      refine mx_e_it (decide_eq_true hc6) ?_
      refine mx_p_ic ?_
      refine mx_p_np ?_
      cases hq; exact mx_Ev.weak (mx_le.drop _ (mx_le.nil)) HJ
    · rw [if_neg hc6] at hq
      refine mx_e_if (fun z => hc6 (of_decide_eq_true z)) ?_
      refine mx_p_np ?_
      refine mx_p_ic ?_
      refine mx_p_gt ?_
      cases hq; exact mx_Ev.weak (mx_le.drop _ (mx_le.nil)) HJ
set_option maxRecDepth 20000 in
set_option maxHeartbeats 1000000 in
theorem t_X0_addKnown {a0 : Nat} {a1 : Int32} {a2 : Int32} {h : mx_Hp} {res} (hq : f_X0_addKnown a0 a1 a2 h = some res) : mx_Ms mx_k_X0_addKnown [.ref a0, .int a1, .int a2] h (some (.int res.1), res.2) := by
  unfold f_X0_addKnown at hq
  show mx_Ev mx_k_X0_addKnown mx_noS (mx_b_X0_addKnown 0, [some (.ref a0), some (.int a1), some (.int a2)], [], h, 0, 0) _
  refine mx_p_iln rfl ?_
  obtain ⟨x14, hx14, hq⟩ := mx_bS hq
  refine mx_e_cs mx_t_X11_isMayor rfl rfl rfl ⟨Nat.le_of_ble_eq_true rfl, Nat.le_of_ble_eq_true rfl, Nat.le_of_ble_eq_true rfl⟩ (Nat.le_of_ble_eq_true rfl) rfl rfl ⟨Nat.zero_le _, Nat.zero_le _⟩ (t_X11_isMayor hx14) ?_
  by_cases hc15 : x14 = 0
  · rw [if_pos hc15] at hq
    refine mx_e_zt (decide_eq_true hc15) ?_
    refine mx_p_ic ?_
    cases hq; exact mx_e_rb rfl (by decide)
  · rw [if_neg hc15] at hq
    refine mx_e_zf (fun z => hc15 (of_decide_eq_true z)) ?_
    refine mx_p_aln rfl ?_
    refine mx_p_iln rfl ?_
    have ho17 : a0 < h.1 ∧ (mx_lay a0).1 = 3 := by
      by_cases hh : a0 < h.1 ∧ (mx_lay a0).1 = 3
      · exact hh
      · rw [if_neg hh] at hq; cases hq
    rw [if_pos ho17] at hq
    obtain ⟨x16, hx16, hq⟩ := mx_bS hq
    refine mx_e_cv mx_t_X0_has ho17 rfl rfl rfl ⟨Nat.le_of_ble_eq_true rfl, Nat.le_of_ble_eq_true rfl, Nat.le_of_ble_eq_true rfl⟩ (Nat.le_of_ble_eq_true rfl) rfl rfl rfl ⟨Nat.zero_le _, Nat.zero_le _⟩ (t_X0_has hx16) ?_
    by_cases hc18 : ¬ x16 = 0
    · rw [if_pos hc18] at hq
      refine mx_e_zt (decide_eq_true hc18) ?_
      refine mx_p_iln rfl ?_
      obtain ⟨v26, hE, hK⟩ := mx_bS hq
      have HJ : mx_Ev mx_k_X0_addKnown mx_noS (mx_b_X0_addKnown 50, [none, none, none], [], v26, 0, 0) (some (.int res.1), res.2) := by
        replace hq := hK
        refine mx_p_ic ?_
        cases hq; exact mx_e_rb rfl (by decide)
      clear hK
      replace hq := hE
      by_cases hc19 : ¬ a1 = 0
      · rw [if_pos hc19] at hq
        refine mx_e_zt (decide_eq_true hc19) ?_
        refine mx_p_aln rfl ?_
        refine mx_p_dup rfl ?_
        obtain ⟨x20, hx20, hq⟩ := mx_bS hq
        refine mx_e_gi hx20 (by decide) ?_
        refine mx_p_iln rfl ?_
        obtain ⟨x21, hx21, hq⟩ := mx_bS hq
        refine mx_e_cs mx_t_X11_bit rfl rfl rfl ⟨Nat.le_of_ble_eq_true rfl, Nat.le_of_ble_eq_true rfl, Nat.le_of_ble_eq_true rfl⟩ (Nat.le_of_ble_eq_true rfl) rfl rfl ⟨Nat.zero_le _, Nat.zero_le _⟩ (t_X11_bit hx21) ?_
        refine mx_p_ior ?_
        obtain ⟨h22, hh22, hq⟩ := mx_bS hq
        refine mx_e_pi hh22 ?_
        refine mx_p_np ?_
        cases hq; exact mx_Ev.weak (mx_le.drop _ (mx_le.drop _ (mx_le.drop _ (mx_le.nil)))) HJ
      · rw [if_neg hc19] at hq
        refine mx_e_zf (fun z => hc19 (of_decide_eq_true z)) ?_
        refine mx_p_aln rfl ?_
        refine mx_p_dup rfl ?_
        obtain ⟨x23, hx23, hq⟩ := mx_bS hq
        refine mx_e_gi hx23 (by decide) ?_
        refine mx_p_iln rfl ?_
        obtain ⟨x24, hx24, hq⟩ := mx_bS hq
        refine mx_e_cs mx_t_X11_bit rfl rfl rfl ⟨Nat.le_of_ble_eq_true rfl, Nat.le_of_ble_eq_true rfl, Nat.le_of_ble_eq_true rfl⟩ (Nat.le_of_ble_eq_true rfl) rfl rfl ⟨Nat.zero_le _, Nat.zero_le _⟩ (t_X11_bit hx24) ?_
        refine mx_p_ior ?_
        obtain ⟨h25, hh25, hq⟩ := mx_bS hq
        refine mx_e_pi hh25 ?_
        refine mx_p_gt ?_
        cases hq; exact mx_Ev.weak (mx_le.drop _ (mx_le.drop _ (mx_le.drop _ (mx_le.nil)))) HJ
    · rw [if_neg hc18] at hq
      refine mx_e_zf (fun z => hc18 (of_decide_eq_true z)) ?_
      refine mx_p_np ?_
      refine mx_p_ic ?_
      cases hq; exact mx_e_rb rfl (by decide)
set_option maxRecDepth 20000 in
set_option maxHeartbeats 1000000 in
theorem t_X0_takePair {a0 : Nat} {a1 : Int32} {a2 : Int32} {a3 : Int32} {h : mx_Hp} {res} (hq : f_X0_takePair a0 a1 a2 a3 h = some res) : mx_Ms mx_k_X0_takePair [.ref a0, .int a1, .int a2, .int a3] h (some (.int res.1), res.2) := by
  unfold f_X0_takePair at hq
  show mx_Ev mx_k_X0_takePair mx_noS (mx_b_X0_takePair 0, [some (.ref a0), some (.int a1), some (.int a2), some (.int a3)], [], h, 0, 0) _
  refine mx_p_iln rfl ?_
  by_cases hw13 : a1 = 103
  · rw [if_pos hw13] at hq
    refine mx_e_lk (mx_sw_t hw13) ?_
    refine mx_p_aln rfl ?_
    refine mx_p_iln rfl ?_
    refine mx_p_iln rfl ?_
    have ho15 : a0 < h.1 ∧ (mx_lay a0).1 = 3 := by
      by_cases hh : a0 < h.1 ∧ (mx_lay a0).1 = 3
      · exact hh
      · rw [if_neg hh] at hq; cases hq
    rw [if_pos ho15] at hq
    obtain ⟨x14, hx14, hq⟩ := mx_bS hq
    refine mx_e_cv mx_t_X0_addBehind ho15 rfl rfl rfl ⟨Nat.le_of_ble_eq_true rfl, Nat.le_of_ble_eq_true rfl, Nat.le_of_ble_eq_true rfl⟩ (Nat.le_of_ble_eq_true rfl) rfl rfl rfl ⟨Nat.zero_le _, Nat.zero_le _⟩ (t_X0_addBehind hx14) ?_
    by_cases hb16 : x14.1 = 0 ∨ x14.1 = 1
    · rw [if_pos hb16] at hq; cases hq; exact mx_e_rb rfl hb16
    · rw [if_neg hb16] at hq; cases hq
  rw [if_neg hw13] at hq
  by_cases hw17 : a1 = 107
  · rw [if_pos hw17] at hq
    refine mx_e_lk (mx_sw_f hw13 (mx_sw_t hw17)) ?_
    refine mx_p_aln rfl ?_
    refine mx_p_iln rfl ?_
    refine mx_p_iln rfl ?_
    have ho19 : a0 < h.1 ∧ (mx_lay a0).1 = 3 := by
      by_cases hh : a0 < h.1 ∧ (mx_lay a0).1 = 3
      · exact hh
      · rw [if_neg hh] at hq; cases hq
    rw [if_pos ho19] at hq
    obtain ⟨x18, hx18, hq⟩ := mx_bS hq
    refine mx_e_cv mx_t_X0_addKnown ho19 rfl rfl rfl ⟨Nat.le_of_ble_eq_true rfl, Nat.le_of_ble_eq_true rfl, Nat.le_of_ble_eq_true rfl⟩ (Nat.le_of_ble_eq_true rfl) rfl rfl rfl ⟨Nat.zero_le _, Nat.zero_le _⟩ (t_X0_addKnown hx18) ?_
    by_cases hb20 : x18.1 = 0 ∨ x18.1 = 1
    · rw [if_pos hb20] at hq; cases hq; exact mx_e_rb rfl hb20
    · rw [if_neg hb20] at hq; cases hq
  rw [if_neg hw17] at hq
  by_cases hw21 : a1 = 119
  · rw [if_pos hw21] at hq
    refine mx_e_lk (mx_sw_f hw13 (mx_sw_f hw17 (mx_sw_t hw21))) ?_
    refine mx_p_aln rfl ?_
    refine mx_p_iln rfl ?_
    refine mx_p_iln rfl ?_
    have ho23 : a0 < h.1 ∧ (mx_lay a0).1 = 3 := by
      by_cases hh : a0 < h.1 ∧ (mx_lay a0).1 = 3
      · exact hh
      · rw [if_neg hh] at hq; cases hq
    rw [if_pos ho23] at hq
    obtain ⟨x22, hx22, hq⟩ := mx_bS hq
    refine mx_e_cv mx_t_X0_addWord ho23 rfl rfl rfl ⟨Nat.le_of_ble_eq_true rfl, Nat.le_of_ble_eq_true rfl, Nat.le_of_ble_eq_true rfl⟩ (Nat.le_of_ble_eq_true rfl) rfl rfl rfl ⟨Nat.zero_le _, Nat.zero_le _⟩ (t_X0_addWord hx22) ?_
    by_cases hb24 : x22.1 = 0 ∨ x22.1 = 1
    · rw [if_pos hb24] at hq; cases hq; exact mx_e_rb rfl hb24
    · rw [if_neg hb24] at hq; cases hq
  rw [if_neg hw21] at hq
  refine mx_e_lk (mx_sw_f hw13 (mx_sw_f hw17 (mx_sw_f hw21 rfl))) ?_
  refine mx_p_ic ?_
  cases hq; exact mx_e_rb rfl (by decide)
set_option maxRecDepth 20000 in
set_option maxHeartbeats 1000000 in
theorem t_X0_setLongest {a0 : Nat} {a1 : Int32} {h : mx_Hp} {res} (hq : f_X0_setLongest a0 a1 h = some res) : mx_Ms mx_k_X0_setLongest [.ref a0, .int a1] h (some (.int res.1), res.2) := by
  unfold f_X0_setLongest at hq
  show mx_Ev mx_k_X0_setLongest mx_noS (mx_b_X0_setLongest 0, [some (.ref a0), some (.int a1)], [], h, 0, 0) _
  refine mx_p_iln rfl ?_
  refine mx_p_ic ?_
  by_cases hc4 : a1 < 1
  · rw [if_pos hc4] at hq
    refine mx_e_it (decide_eq_true hc4) ?_
    refine mx_p_ic ?_
    cases hq; exact mx_e_rb rfl (by decide)
  · rw [if_neg hc4] at hq
    refine mx_e_if (fun z => hc4 (of_decide_eq_true z)) ?_
    refine mx_p_iln rfl ?_
    refine mx_p_ic ?_
    by_cases hc5 : a1 ≤ 4
    · rw [if_pos hc5] at hq
      refine mx_e_it (decide_eq_true hc5) ?_
      refine mx_p_aln rfl ?_
      refine mx_p_iln rfl ?_
      obtain ⟨h6, hh6, hq⟩ := mx_bS hq
      refine mx_e_pi hh6 ?_
      refine mx_p_ic ?_
      cases hq; exact mx_e_rb rfl (by decide)
    · rw [if_neg hc5] at hq
      refine mx_e_if (fun z => hc5 (of_decide_eq_true z)) ?_
      refine mx_p_np ?_
      refine mx_p_ic ?_
      cases hq; exact mx_e_rb rfl (by decide)
set_option maxRecDepth 20000 in
set_option maxHeartbeats 1000000 in
theorem t_X0_setChain {a0 : Nat} {a1 : Int32} {h : mx_Hp} {res} (hq : f_X0_setChain a0 a1 h = some res) : mx_Ms mx_k_X0_setChain [.ref a0, .int a1] h (some (.int res.1), res.2) := by
  unfold f_X0_setChain at hq
  show mx_Ev mx_k_X0_setChain mx_noS (mx_b_X0_setChain 0, [some (.ref a0), some (.int a1)], [], h, 0, 0) _
  refine mx_p_iln rfl ?_
  obtain ⟨x4, hx4, hq⟩ := mx_bS hq
  refine mx_e_cs mx_t_X11_isMayor rfl rfl rfl ⟨Nat.le_of_ble_eq_true rfl, Nat.le_of_ble_eq_true rfl, Nat.le_of_ble_eq_true rfl⟩ (Nat.le_of_ble_eq_true rfl) rfl rfl ⟨Nat.zero_le _, Nat.zero_le _⟩ (t_X11_isMayor hx4) ?_
  by_cases hc5 : ¬ x4 = 0
  · rw [if_pos hc5] at hq
    refine mx_e_zt (decide_eq_true hc5) ?_
    refine mx_p_aln rfl ?_
    refine mx_p_iln rfl ?_
    obtain ⟨h6, hh6, hq⟩ := mx_bS hq
    refine mx_e_pi hh6 ?_
    refine mx_p_ic ?_
    cases hq; exact mx_e_rb rfl (by decide)
  · rw [if_neg hc5] at hq
    refine mx_e_zf (fun z => hc5 (of_decide_eq_true z)) ?_
    refine mx_p_ic ?_
    cases hq; exact mx_e_rb rfl (by decide)
set_option maxRecDepth 20000 in
set_option maxHeartbeats 1000000 in
theorem t_X0_takeSingle {a0 : Nat} {a1 : Int32} {a2 : Int32} {h : mx_Hp} {res} (hq : f_X0_takeSingle a0 a1 a2 h = some res) : mx_Ms mx_k_X0_takeSingle [.ref a0, .int a1, .int a2] h (some (.int res.1), res.2) := by
  unfold f_X0_takeSingle at hq
  show mx_Ev mx_k_X0_takeSingle mx_noS (mx_b_X0_takeSingle 0, [some (.ref a0), some (.int a1), some (.int a2)], [], h, 0, 0) _
  refine mx_p_iln rfl ?_
  by_cases hw9 : a1 = 99
  · rw [if_pos hw9] at hq
    refine mx_e_lk (mx_sw_t hw9) ?_
    refine mx_p_aln rfl ?_
    refine mx_p_iln rfl ?_
    have ho11 : a0 < h.1 ∧ (mx_lay a0).1 = 3 := by
      by_cases hh : a0 < h.1 ∧ (mx_lay a0).1 = 3
      · exact hh
      · rw [if_neg hh] at hq; cases hq
    rw [if_pos ho11] at hq
    obtain ⟨x10, hx10, hq⟩ := mx_bS hq
    refine mx_e_cv mx_t_X0_setChain ho11 rfl rfl rfl ⟨Nat.le_of_ble_eq_true rfl, Nat.le_of_ble_eq_true rfl, Nat.le_of_ble_eq_true rfl⟩ (Nat.le_of_ble_eq_true rfl) rfl rfl rfl ⟨Nat.zero_le _, Nat.zero_le _⟩ (t_X0_setChain hx10) ?_
    by_cases hb12 : x10.1 = 0 ∨ x10.1 = 1
    · rw [if_pos hb12] at hq; cases hq; exact mx_e_rb rfl hb12
    · rw [if_neg hb12] at hq; cases hq
  rw [if_neg hw9] at hq
  by_cases hw13 : a1 = 108
  · rw [if_pos hw13] at hq
    refine mx_e_lk (mx_sw_f hw9 (mx_sw_t hw13)) ?_
    refine mx_p_aln rfl ?_
    refine mx_p_iln rfl ?_
    have ho15 : a0 < h.1 ∧ (mx_lay a0).1 = 3 := by
      by_cases hh : a0 < h.1 ∧ (mx_lay a0).1 = 3
      · exact hh
      · rw [if_neg hh] at hq; cases hq
    rw [if_pos ho15] at hq
    obtain ⟨x14, hx14, hq⟩ := mx_bS hq
    refine mx_e_cv mx_t_X0_setLongest ho15 rfl rfl rfl ⟨Nat.le_of_ble_eq_true rfl, Nat.le_of_ble_eq_true rfl, Nat.le_of_ble_eq_true rfl⟩ (Nat.le_of_ble_eq_true rfl) rfl rfl rfl ⟨Nat.zero_le _, Nat.zero_le _⟩ (t_X0_setLongest hx14) ?_
    by_cases hb16 : x14.1 = 0 ∨ x14.1 = 1
    · rw [if_pos hb16] at hq; cases hq; exact mx_e_rb rfl hb16
    · rw [if_neg hb16] at hq; cases hq
  rw [if_neg hw13] at hq
  refine mx_e_lk (mx_sw_f hw9 (mx_sw_f hw13 rfl)) ?_
  refine mx_p_ic ?_
  cases hq; exact mx_e_rb rfl (by decide)
set_option maxRecDepth 20000 in
set_option maxHeartbeats 1000000 in
theorem t_X0_kindOf {a0 : Nat} {a1 : Int32} {h : mx_Hp} {res} (hq : f_X0_kindOf a0 a1 h = some res) : mx_Ms mx_k_X0_kindOf [.ref a0, .int a1] h (some (.int res), h) := by
  unfold f_X0_kindOf at hq
  show mx_Ev mx_k_X0_kindOf mx_noS (mx_b_X0_kindOf 0, [some (.ref a0), some (.int a1)], [], h, 0, 0) _
  refine mx_p_aln rfl ?_
  refine mx_p_iln rfl ?_
  have ho8 : a0 < h.1 ∧ (mx_lay a0).1 = 3 := by
    by_cases hh : a0 < h.1 ∧ (mx_lay a0).1 = 3
    · exact hh
    · rw [if_neg hh] at hq; cases hq
  rw [if_pos ho8] at hq
  obtain ⟨x7, hx7, hq⟩ := mx_bS hq
  refine mx_e_cv mx_t_X0_has ho8 rfl rfl rfl ⟨Nat.le_of_ble_eq_true rfl, Nat.le_of_ble_eq_true rfl, Nat.le_of_ble_eq_true rfl⟩ (Nat.le_of_ble_eq_true rfl) rfl rfl rfl ⟨Nat.zero_le _, Nat.zero_le _⟩ (t_X0_has hx7) ?_
  obtain ⟨v12, hE, hK⟩ := mx_bS hq
  have HJ : mx_Ev mx_k_X0_kindOf mx_noS (mx_b_X0_kindOf 19, [none, none], [.int v12], h, 0, 0) (some (.int res), h) := by
    replace hq := hK
    cases hq; exact mx_e_ri rfl
  clear hK
  replace hq := hE
  by_cases hc9 : x7 = 0
  · rw [if_pos hc9] at hq
    refine mx_e_zt (decide_eq_true hc9) ?_
    refine mx_p_bp ?_
    refine mx_p_np ?_
    cases hq; exact mx_Ev.weak (mx_le.drop _ (mx_le.drop _ (mx_le.nil))) HJ
  · rw [if_neg hc9] at hq
    refine mx_e_zf (fun z => hc9 (of_decide_eq_true z)) ?_
    refine mx_p_aln rfl ?_
    obtain ⟨x10, hx10, hq⟩ := mx_bS hq
    refine mx_e_gr hx10 rfl ?_
    refine mx_p_iln rfl ?_
    obtain ⟨x11, hx11, hq⟩ := mx_bS hq
    refine mx_e_al hx11 ?_
    refine mx_p_gt ?_
    cases hq; exact mx_Ev.weak (mx_le.drop _ (mx_le.drop _ (mx_le.nil))) HJ
set_option maxRecDepth 20000 in
set_option maxHeartbeats 1000000 in
theorem t_X0_worthOf {a0 : Nat} {a1 : Int32} {h : mx_Hp} {res} (hq : f_X0_worthOf a0 a1 h = some res) : mx_Ms mx_k_X0_worthOf [.ref a0, .int a1] h (some (.int res), h) := by
  unfold f_X0_worthOf at hq
  show mx_Ev mx_k_X0_worthOf mx_noS (mx_b_X0_worthOf 0, [some (.ref a0), some (.int a1)], [], h, 0, 0) _
  refine mx_p_aln rfl ?_
  refine mx_p_iln rfl ?_
  have ho8 : a0 < h.1 ∧ (mx_lay a0).1 = 3 := by
    by_cases hh : a0 < h.1 ∧ (mx_lay a0).1 = 3
    · exact hh
    · rw [if_neg hh] at hq; cases hq
  rw [if_pos ho8] at hq
  obtain ⟨x7, hx7, hq⟩ := mx_bS hq
  refine mx_e_cv mx_t_X0_has ho8 rfl rfl rfl ⟨Nat.le_of_ble_eq_true rfl, Nat.le_of_ble_eq_true rfl, Nat.le_of_ble_eq_true rfl⟩ (Nat.le_of_ble_eq_true rfl) rfl rfl rfl ⟨Nat.zero_le _, Nat.zero_le _⟩ (t_X0_has hx7) ?_
  obtain ⟨v12, hE, hK⟩ := mx_bS hq
  have HJ : mx_Ev mx_k_X0_worthOf mx_noS (mx_b_X0_worthOf 18, [none, none], [.int v12], h, 0, 0) (some (.int res), h) := by
    replace hq := hK
    cases hq; exact mx_e_ri rfl
  clear hK
  replace hq := hE
  by_cases hc9 : x7 = 0
  · rw [if_pos hc9] at hq
    refine mx_e_zt (decide_eq_true hc9) ?_
    refine mx_p_ic ?_
    refine mx_p_np ?_
    cases hq; exact mx_Ev.weak (mx_le.drop _ (mx_le.drop _ (mx_le.nil))) HJ
  · rw [if_neg hc9] at hq
    refine mx_e_zf (fun z => hc9 (of_decide_eq_true z)) ?_
    refine mx_p_aln rfl ?_
    obtain ⟨x10, hx10, hq⟩ := mx_bS hq
    refine mx_e_gr hx10 rfl ?_
    refine mx_p_iln rfl ?_
    obtain ⟨x11, hx11, hq⟩ := mx_bS hq
    refine mx_e_al hx11 ?_
    refine mx_p_gt ?_
    cases hq; exact mx_Ev.weak (mx_le.drop _ (mx_le.drop _ (mx_le.nil))) HJ
set_option maxRecDepth 20000 in
set_option maxHeartbeats 1000000 in
theorem t_X0_behindOf {a0 : Nat} {a1 : Int32} {h : mx_Hp} {res} (hq : f_X0_behindOf a0 a1 h = some res) : mx_Ms mx_k_X0_behindOf [.ref a0, .int a1] h (some (.int res), h) := by
  unfold f_X0_behindOf at hq
  show mx_Ev mx_k_X0_behindOf mx_noS (mx_b_X0_behindOf 0, [some (.ref a0), some (.int a1)], [], h, 0, 0) _
  refine mx_p_aln rfl ?_
  refine mx_p_iln rfl ?_
  have ho8 : a0 < h.1 ∧ (mx_lay a0).1 = 3 := by
    by_cases hh : a0 < h.1 ∧ (mx_lay a0).1 = 3
    · exact hh
    · rw [if_neg hh] at hq; cases hq
  rw [if_pos ho8] at hq
  obtain ⟨x7, hx7, hq⟩ := mx_bS hq
  refine mx_e_cv mx_t_X0_has ho8 rfl rfl rfl ⟨Nat.le_of_ble_eq_true rfl, Nat.le_of_ble_eq_true rfl, Nat.le_of_ble_eq_true rfl⟩ (Nat.le_of_ble_eq_true rfl) rfl rfl rfl ⟨Nat.zero_le _, Nat.zero_le _⟩ (t_X0_has hx7) ?_
  obtain ⟨v12, hE, hK⟩ := mx_bS hq
  have HJ : mx_Ev mx_k_X0_behindOf mx_noS (mx_b_X0_behindOf 18, [none, none], [.int v12], h, 0, 0) (some (.int res), h) := by
    replace hq := hK
    cases hq; exact mx_e_ri rfl
  clear hK
  replace hq := hE
  by_cases hc9 : x7 = 0
  · rw [if_pos hc9] at hq
    refine mx_e_zt (decide_eq_true hc9) ?_
    refine mx_p_ic ?_
    refine mx_p_np ?_
    cases hq; exact mx_Ev.weak (mx_le.drop _ (mx_le.drop _ (mx_le.nil))) HJ
  · rw [if_neg hc9] at hq
    refine mx_e_zf (fun z => hc9 (of_decide_eq_true z)) ?_
    refine mx_p_aln rfl ?_
    obtain ⟨x10, hx10, hq⟩ := mx_bS hq
    refine mx_e_gr hx10 rfl ?_
    refine mx_p_iln rfl ?_
    obtain ⟨x11, hx11, hq⟩ := mx_bS hq
    refine mx_e_al hx11 ?_
    refine mx_p_gt ?_
    cases hq; exact mx_Ev.weak (mx_le.drop _ (mx_le.drop _ (mx_le.nil))) HJ
set_option maxRecDepth 20000 in
set_option maxHeartbeats 1000000 in
theorem t_X0_allWords {a0 : Nat} {h : mx_Hp} {res} (hq : f_X0_allWords a0 h = some res) : mx_Ms mx_k_X0_allWords [.ref a0] h (some (.int res), h) := by
  unfold f_X0_allWords at hq
  show mx_Ev mx_k_X0_allWords mx_noS (mx_b_X0_allWords 0, [some (.ref a0)], [], h, 0, 0) _
  refine mx_p_ic ?_
  refine mx_p_aln rfl ?_
  obtain ⟨x2, hx2, hq⟩ := mx_bS hq
  refine mx_e_gi hx2 (by decide) ?_
  refine mx_p_ishl ?_
  refine mx_p_ic ?_
  refine mx_p_isub ?_
  cases hq; exact mx_e_ri rfl
set_option maxRecDepth 20000 in
set_option maxHeartbeats 1000000 in
theorem e_f_X0_aheadOf_L4 (l0 : Nat) (l1 : Int32) (h : mx_Hp)   : ∀ (n : Nat) (s2 : Int32) (s3 : Int32) res, mx_fix (f_X0_aheadOf_L4 l0 l1 h ) n (s2, s3) = some res → mx_Ev mx_k_X0_aheadOf mx_noS (mx_b_X0_aheadOf 4, [some (.ref l0), some (.int l1), some (.int s2), some (.int s3)], [], h, 0, 0) (some (.int res), h) := by
  intro n
  induction n with
  | zero => intro s2 s3 res hq; cases hq
  | succ n ih =>
    intro s2 s3 res hq
    unfold mx_fix at hq
    generalize mx_fix (f_X0_aheadOf_L4 l0 l1 h ) n = S at hq ih
    unfold f_X0_aheadOf_L4 at hq
    try dsimp only at hq
    refine mx_p_iln rfl ?_
    refine mx_p_aln rfl ?_
    obtain ⟨x8, hx8, hq⟩ := mx_bS hq
    refine mx_e_gi hx8 (by decide) ?_
    by_cases hc9 : x8 ≤ s3
    · rw [if_pos hc9] at hq
      refine mx_e_it (decide_eq_true hc9) ?_
      refine mx_p_iln rfl ?_
      cases hq; exact mx_e_ri rfl
    · rw [if_neg hc9] at hq
      refine mx_e_if (fun z => hc9 (of_decide_eq_true z)) ?_
      refine mx_p_iln rfl ?_
      refine mx_p_bp ?_
      by_cases hc10 : 10 ≤ s3
      · rw [if_pos hc10] at hq
        refine mx_e_it (decide_eq_true hc10) ?_
        refine mx_p_iln rfl ?_
        cases hq; exact mx_e_ri rfl
      · rw [if_neg hc10] at hq
        refine mx_e_if (fun z => hc10 (of_decide_eq_true z)) ?_
        refine mx_p_aln rfl ?_
        obtain ⟨x11, hx11, hq⟩ := mx_bS hq
        refine mx_e_gr hx11 rfl ?_
        refine mx_p_iln rfl ?_
        obtain ⟨x12, hx12, hq⟩ := mx_bS hq
        refine mx_e_al hx12 ?_
        refine mx_p_iln rfl ?_
        refine mx_p_iand ?_
        obtain ⟨v14, hE, hK⟩ := mx_bS hq
        have HJ : mx_Ev mx_k_X0_aheadOf mx_noS (mx_b_X0_aheadOf 35, [some (.ref l0), some (.int l1), some (.int v14), some (.int s3)], [], h, 0, 0) (some (.int res), h) := by
          replace hq := hK
          refine mx_p_inc (loc' := [some (.ref l0), some (.int l1), some (.int v14), some (.int (s3 + 1))]) rfl rfl ?_
          refine mx_p_gt ?_
          have HB := ih v14 (s3 + 1) _ hq
          exact mx_Ev.weak (mx_le.same _ (mx_le.same _ (mx_le.same _ (mx_le.same _ (mx_le.nil))))) HB
        clear hK
        replace hq := hE
        by_cases hc13 : (x12 &&& l1) = 0
        · rw [if_pos hc13] at hq
          refine mx_e_zt (decide_eq_true hc13) ?_
          cases hq; exact mx_Ev.weak (mx_le.same _ (mx_le.same _ (mx_le.same _ (mx_le.same _ (mx_le.nil))))) HJ
        · rw [if_neg hc13] at hq
          refine mx_e_zf (fun z => hc13 (of_decide_eq_true z)) ?_
          refine mx_p_iln rfl ?_
          refine mx_p_ic ?_
          refine mx_p_iln rfl ?_
          refine mx_p_ishl ?_
          refine mx_p_ior ?_
          refine mx_p_isn (loc' := [some (.ref l0), some (.int l1), some (.int (s2 ||| ((1 : Int32) <<< (s3 &&& 31)))), some (.int s3)]) rfl ?_
          refine mx_p_np ?_
          cases hq; exact mx_Ev.weak (mx_le.same _ (mx_le.same _ (mx_le.same _ (mx_le.same _ (mx_le.nil))))) HJ
set_option maxRecDepth 20000 in
set_option maxHeartbeats 1000000 in
theorem t_X0_aheadOf {a0 : Nat} {a1 : Int32} {h : mx_Hp} {res} (hq : f_X0_aheadOf a0 a1 h = some res) : mx_Ms mx_k_X0_aheadOf [.ref a0, .int a1] h (some (.int res), h) := by
  unfold f_X0_aheadOf at hq
  show mx_Ev mx_k_X0_aheadOf mx_noS (mx_b_X0_aheadOf 0, [some (.ref a0), some (.int a1), none, none], [], h, 0, 0) _
  refine mx_p_ic ?_
  refine mx_p_isn (loc' := [some (.ref a0), some (.int a1), some (.int 0), none]) rfl ?_
  refine mx_p_ic ?_
  refine mx_p_isn (loc' := [some (.ref a0), some (.int a1), some (.int 0), some (.int 0)]) rfl ?_
  refine mx_p_np ?_
  refine mx_Ev.weak (mx_le.same _ (mx_le.same _ (mx_le.same _ (mx_le.same _ (mx_le.nil))))) (e_f_X0_aheadOf_L4 _ _ _  _ _ _ _ hq)
set_option maxRecDepth 20000 in
set_option maxHeartbeats 1000000 in
theorem e_f_X0_firstOf_L2 (l0 : Nat) (l1 : Int32) (h : mx_Hp)   : ∀ (n : Nat) (s2 : Int32) res, mx_fix (f_X0_firstOf_L2 l0 l1 h ) n s2 = some res → mx_Ev mx_k_X0_firstOf mx_noS (mx_b_X0_firstOf 2, [some (.ref l0), some (.int l1), some (.int s2)], [], h, 0, 0) (some (.int res), h) := by
  intro n
  induction n with
  | zero => intro s2 res hq; cases hq
  | succ n ih =>
    intro s2 res hq
    unfold mx_fix at hq
    generalize mx_fix (f_X0_firstOf_L2 l0 l1 h ) n = S at hq ih
    unfold f_X0_firstOf_L2 at hq
    try dsimp only at hq
    refine mx_p_iln rfl ?_
    refine mx_p_aln rfl ?_
    obtain ⟨x4, hx4, hq⟩ := mx_bS hq
    refine mx_e_gi hx4 (by decide) ?_
    by_cases hc5 : x4 ≤ s2
    · rw [if_pos hc5] at hq
      refine mx_e_it (decide_eq_true hc5) ?_
      refine mx_p_bp ?_
      cases hq; exact mx_e_ri rfl
    · rw [if_neg hc5] at hq
      refine mx_e_if (fun z => hc5 (of_decide_eq_true z)) ?_
      refine mx_p_iln rfl ?_
      refine mx_p_iln rfl ?_
      refine mx_p_ishr ?_
      refine mx_p_ic ?_
      refine mx_p_iand ?_
      by_cases hc6 : ((l1 >>> (s2 &&& 31)) &&& 1) = 0
      · rw [if_pos hc6] at hq
        refine mx_e_zt (decide_eq_true hc6) ?_
        refine mx_p_inc (loc' := [some (.ref l0), some (.int l1), some (.int (s2 + 1))]) rfl rfl ?_
        refine mx_p_gt ?_
        have HB := ih (s2 + 1) _ hq
        exact mx_Ev.weak (mx_le.same _ (mx_le.same _ (mx_le.same _ (mx_le.nil)))) HB
      · rw [if_neg hc6] at hq
        refine mx_e_zf (fun z => hc6 (of_decide_eq_true z)) ?_
        refine mx_p_iln rfl ?_
        cases hq; exact mx_e_ri rfl
set_option maxRecDepth 20000 in
set_option maxHeartbeats 1000000 in
theorem t_X0_firstOf {a0 : Nat} {a1 : Int32} {h : mx_Hp} {res} (hq : f_X0_firstOf a0 a1 h = some res) : mx_Ms mx_k_X0_firstOf [.ref a0, .int a1] h (some (.int res), h) := by
  unfold f_X0_firstOf at hq
  show mx_Ev mx_k_X0_firstOf mx_noS (mx_b_X0_firstOf 0, [some (.ref a0), some (.int a1), none], [], h, 0, 0) _
  refine mx_p_ic ?_
  refine mx_p_isn (loc' := [some (.ref a0), some (.int a1), some (.int 0)]) rfl ?_
  refine mx_p_np ?_
  refine mx_Ev.weak (mx_le.same _ (mx_le.same _ (mx_le.same _ (mx_le.nil)))) (e_f_X0_firstOf_L2 _ _ _  _ _ _ hq)
set_option maxRecDepth 20000 in
set_option maxHeartbeats 1000000 in
theorem t_X7_clear {a0 : Nat} {h : mx_Hp} {res} (hq : f_X7_clear a0 h = some res) : mx_Ms mx_k_X7_clear [.ref a0] h (none, res) := by
  unfold f_X7_clear at hq
  show mx_Ev mx_k_X7_clear mx_noS (mx_b_X7_clear 0, [some (.ref a0)], [], h, 0, 0) _
  refine mx_p_aln rfl ?_
  refine mx_p_ic ?_
  obtain ⟨h2, hh2, hq⟩ := mx_bS hq
  refine mx_e_pi hh2 ?_
  cases hq; exact mx_p_rv
set_option maxRecDepth 20000 in
set_option maxHeartbeats 1000000 in
theorem t_X7_at {a0 : Nat} {a1 : Int32} {h : mx_Hp} {res} (hq : f_X7_at a0 a1 h = some res) : mx_Ms mx_k_X7_at [.ref a0, .int a1] h (some (.int res), h) := by
  unfold f_X7_at at hq
  show mx_Ev mx_k_X7_at mx_noS (mx_b_X7_at 0, [some (.ref a0), some (.int a1)], [], h, 0, 0) _
  refine mx_p_iln rfl ?_
  obtain ⟨v18, hE, hK⟩ := mx_bS hq
  have HJ : mx_Ev mx_k_X7_at mx_noS (mx_b_X7_at 32, [none, none], [.int v18], h, 0, 0) (some (.int res), h) := by
    replace hq := hK
    cases hq; exact mx_e_ri rfl
  clear hK
  replace hq := hE
  by_cases hc10 : a1 < 0
  · rw [if_pos hc10] at hq
    refine mx_e_zt (decide_eq_true hc10) ?_
    refine mx_p_bp ?_
    refine mx_p_np ?_
    cases hq; exact mx_Ev.weak (mx_le.drop _ (mx_le.drop _ (mx_le.nil))) HJ
  · rw [if_neg hc10] at hq
    refine mx_e_zf (fun z => hc10 (of_decide_eq_true z)) ?_
    refine mx_p_iln rfl ?_
    refine mx_p_aln rfl ?_
    obtain ⟨x11, hx11, hq⟩ := mx_bS hq
    refine mx_e_gi hx11 (by decide) ?_
    by_cases hc12 : x11 ≤ a1
    · rw [if_pos hc12] at hq
      refine mx_e_it (decide_eq_true hc12) ?_
      refine mx_p_bp ?_
      refine mx_p_np ?_
      cases hq; exact mx_Ev.weak (mx_le.drop _ (mx_le.drop _ (mx_le.nil))) HJ
    · rw [if_neg hc12] at hq
      refine mx_e_if (fun z => hc12 (of_decide_eq_true z)) ?_
      refine mx_p_iln rfl ?_
      refine mx_p_aln rfl ?_
      obtain ⟨x13, hx13, hq⟩ := mx_bS hq
      refine mx_e_gr hx13 rfl ?_
      obtain ⟨x14, hx14, hq⟩ := mx_bS hq
      refine mx_e_ln hx14 ?_
      by_cases hc15 : x14 ≤ a1
      · rw [if_pos hc15] at hq
        refine mx_e_it (decide_eq_true hc15) ?_
        refine mx_p_bp ?_
        refine mx_p_np ?_
        cases hq; exact mx_Ev.weak (mx_le.drop _ (mx_le.drop _ (mx_le.nil))) HJ
      · rw [if_neg hc15] at hq
        refine mx_e_if (fun z => hc15 (of_decide_eq_true z)) ?_
        refine mx_p_aln rfl ?_
        obtain ⟨x16, hx16, hq⟩ := mx_bS hq
        refine mx_e_gr hx16 rfl ?_
        refine mx_p_iln rfl ?_
        obtain ⟨x17, hx17, hq⟩ := mx_bS hq
        refine mx_e_al hx17 ?_
        refine mx_p_gt ?_
        cases hq; exact mx_Ev.weak (mx_le.drop _ (mx_le.drop _ (mx_le.nil))) HJ
set_option maxRecDepth 20000 in
set_option maxHeartbeats 1000000 in
theorem t_X7_add {a0 : Nat} {a1 : Int32} {h : mx_Hp} {res} (hq : f_X7_add a0 a1 h = some res) : mx_Ms mx_k_X7_add [.ref a0, .int a1] h (none, res) := by
  unfold f_X7_add at hq
  show mx_Ev mx_k_X7_add mx_noS (mx_b_X7_add 0, [some (.ref a0), some (.int a1)], [], h, 0, 0) _
  refine mx_p_aln rfl ?_
  obtain ⟨x13, hx13, hq⟩ := mx_bS hq
  refine mx_e_gi hx13 (by decide) ?_
  obtain ⟨v24, hE, hK⟩ := mx_bS hq
  have HJ : mx_Ev mx_k_X7_add mx_noS (mx_b_X7_add 39, [none, none], [], v24, 0, 0) (none, res) := by
    replace hq := hK
    cases hq; exact mx_p_rv
  clear hK
  replace hq := hE
  by_cases hc14 : x13 < 0
  · rw [if_pos hc14] at hq
    refine mx_e_zt (decide_eq_true hc14) ?_
    cases hq; exact mx_Ev.weak (mx_le.drop _ (mx_le.drop _ (mx_le.nil))) HJ
  · rw [if_neg hc14] at hq
    refine mx_e_zf (fun z => hc14 (of_decide_eq_true z)) ?_
    refine mx_p_aln rfl ?_
    obtain ⟨x15, hx15, hq⟩ := mx_bS hq
    refine mx_e_gi hx15 (by decide) ?_
    refine mx_p_aln rfl ?_
    obtain ⟨x16, hx16, hq⟩ := mx_bS hq
    refine mx_e_gr hx16 rfl ?_
    obtain ⟨x17, hx17, hq⟩ := mx_bS hq
    refine mx_e_ln hx17 ?_
    by_cases hc18 : x17 ≤ x15
    · rw [if_pos hc18] at hq
      refine mx_e_it (decide_eq_true hc18) ?_
      cases hq; exact mx_Ev.weak (mx_le.drop _ (mx_le.drop _ (mx_le.nil))) HJ
    · rw [if_neg hc18] at hq
      refine mx_e_if (fun z => hc18 (of_decide_eq_true z)) ?_
      refine mx_p_aln rfl ?_
      obtain ⟨x19, hx19, hq⟩ := mx_bS hq
      refine mx_e_gr hx19 rfl ?_
      refine mx_p_aln rfl ?_
      obtain ⟨x20, hx20, hq⟩ := mx_bS hq
      refine mx_e_gi hx20 (by decide) ?_
      refine mx_p_iln rfl ?_
      obtain ⟨h21, hh21, hq⟩ := mx_bS hq
      refine mx_e_as hh21 ?_
      refine mx_p_aln rfl ?_
      refine mx_p_dup rfl ?_
      obtain ⟨x22, hx22, hq⟩ := mx_bS hq
      refine mx_e_gi hx22 (by decide) ?_
      refine mx_p_ic ?_
      refine mx_p_iadd ?_
      obtain ⟨h23, hh23, hq⟩ := mx_bS hq
      refine mx_e_pi hh23 ?_
      refine mx_p_np ?_
      cases hq; exact mx_Ev.weak (mx_le.drop _ (mx_le.drop _ (mx_le.nil))) HJ
set_option maxRecDepth 20000 in
set_option maxHeartbeats 1000000 in
theorem e_f_X7_copyFrom_L6 (l0 : Nat) (l1 : Nat)   : ∀ (n : Nat) (s2 : Int32) (hh : mx_Hp) res, mx_fix (f_X7_copyFrom_L6 l0 l1 ) n (s2, hh) = some res → mx_Ev mx_k_X7_copyFrom mx_noS (mx_b_X7_copyFrom 6, [some (.ref l0), some (.ref l1), some (.int s2)], [], hh, 0, 0) (none, res) := by
  intro n
  induction n with
  | zero => intro s2 hh res hq; cases hq
  | succ n ih =>
    intro s2 hh res hq
    unfold mx_fix at hq
    generalize mx_fix (f_X7_copyFrom_L6 l0 l1 ) n = S at hq ih
    unfold f_X7_copyFrom_L6 at hq
    try dsimp only at hq
    refine mx_p_iln rfl ?_
    refine mx_p_aln rfl ?_
    obtain ⟨x9, hx9, hq⟩ := mx_bS hq
    refine mx_e_gi hx9 (by decide) ?_
    by_cases hc10 : x9 ≤ s2
    · rw [if_pos hc10] at hq
      refine mx_e_it (decide_eq_true hc10) ?_
      cases hq; exact mx_p_rv
    · rw [if_neg hc10] at hq
      refine mx_e_if (fun z => hc10 (of_decide_eq_true z)) ?_
      refine mx_p_aln rfl ?_
      refine mx_p_aln rfl ?_
      refine mx_p_iln rfl ?_
      have ho12 : l1 < hh.1 ∧ (mx_lay l1).1 = 10 := by
        by_cases hh : l1 < hh.1 ∧ (mx_lay l1).1 = 10
        · exact hh
        · rw [if_neg hh] at hq; cases hq
      rw [if_pos ho12] at hq
      obtain ⟨x11, hx11, hq⟩ := mx_bS hq
      refine mx_e_cv mx_t_X7_at ho12 rfl rfl rfl ⟨Nat.le_of_ble_eq_true rfl, Nat.le_of_ble_eq_true rfl, Nat.le_of_ble_eq_true rfl⟩ (Nat.le_of_ble_eq_true rfl) rfl rfl rfl ⟨Nat.zero_le _, Nat.zero_le _⟩ (t_X7_at hx11) ?_
      have ho14 : l0 < hh.1 ∧ (mx_lay l0).1 = 10 := by
        by_cases hh : l0 < hh.1 ∧ (mx_lay l0).1 = 10
        · exact hh
        · rw [if_neg hh] at hq; cases hq
      rw [if_pos ho14] at hq
      obtain ⟨x13, hx13, hq⟩ := mx_bS hq
      refine mx_e_cv mx_t_X7_add ho14 rfl rfl rfl ⟨Nat.le_of_ble_eq_true rfl, Nat.le_of_ble_eq_true rfl, Nat.le_of_ble_eq_true rfl⟩ (Nat.le_of_ble_eq_true rfl) rfl rfl rfl ⟨Nat.zero_le _, Nat.zero_le _⟩ (t_X7_add hx13) ?_
      refine mx_p_inc (loc' := [some (.ref l0), some (.ref l1), some (.int (s2 + 1))]) rfl rfl ?_
      refine mx_p_gt ?_
      have HB := ih (s2 + 1) x13 _ hq
      exact mx_Ev.weak (mx_le.same _ (mx_le.same _ (mx_le.same _ (mx_le.nil)))) HB
set_option maxRecDepth 20000 in
set_option maxHeartbeats 1000000 in
theorem t_X7_copyFrom {a0 : Nat} {a1 : Nat} {h : mx_Hp} {res} (hq : f_X7_copyFrom a0 a1 h = some res) : mx_Ms mx_k_X7_copyFrom [.ref a0, .ref a1] h (none, res) := by
  unfold f_X7_copyFrom at hq
  show mx_Ev mx_k_X7_copyFrom mx_noS (mx_b_X7_copyFrom 0, [some (.ref a0), some (.ref a1), none], [], h, 0, 0) _
  refine mx_p_aln rfl ?_
  have ho16 : a0 < h.1 ∧ (mx_lay a0).1 = 10 := by
    by_cases hh : a0 < h.1 ∧ (mx_lay a0).1 = 10
    · exact hh
    · rw [if_neg hh] at hq; cases hq
  rw [if_pos ho16] at hq
  obtain ⟨x15, hx15, hq⟩ := mx_bS hq
  refine mx_e_cv mx_t_X7_clear ho16 rfl rfl rfl ⟨Nat.le_of_ble_eq_true rfl, Nat.le_of_ble_eq_true rfl, Nat.le_of_ble_eq_true rfl⟩ (Nat.le_of_ble_eq_true rfl) rfl rfl rfl ⟨Nat.zero_le _, Nat.zero_le _⟩ (t_X7_clear hx15) ?_
  refine mx_p_ic ?_
  refine mx_p_isn (loc' := [some (.ref a0), some (.ref a1), some (.int 0)]) rfl ?_
  refine mx_p_np ?_
  refine mx_Ev.weak (mx_le.same _ (mx_le.same _ (mx_le.same _ (mx_le.nil)))) (e_f_X7_copyFrom_L6 _ _  _ _ _ _ hq)
set_option maxRecDepth 20000 in
set_option maxHeartbeats 1000000 in
theorem t_X4_copyFrom {a0 : Nat} {a1 : Nat} {h : mx_Hp} {res} (hq : f_X4_copyFrom a0 a1 h = some res) : mx_Ms mx_k_X4_copyFrom [.ref a0, .ref a1] h (none, res) := by
  unfold f_X4_copyFrom at hq
  show mx_Ev mx_k_X4_copyFrom mx_noS (mx_b_X4_copyFrom 0, [some (.ref a0), some (.ref a1)], [], h, 0, 0) _
  refine mx_p_aln rfl ?_
  refine mx_p_aln rfl ?_
  obtain ⟨x7, hx7, hq⟩ := mx_bS hq
  refine mx_e_gi hx7 (by decide) ?_
  obtain ⟨h8, hh8, hq⟩ := mx_bS hq
  refine mx_e_pi hh8 ?_
  refine mx_p_aln rfl ?_
  refine mx_p_aln rfl ?_
  obtain ⟨x9, hx9, hq⟩ := mx_bS hq
  refine mx_e_gi hx9 (by decide) ?_
  obtain ⟨h10, hh10, hq⟩ := mx_bS hq
  refine mx_e_pi hh10 ?_
  refine mx_p_aln rfl ?_
  refine mx_p_aln rfl ?_
  obtain ⟨x11, hx11, hq⟩ := mx_bS hq
  refine mx_e_gi hx11 (by decide) ?_
  obtain ⟨h12, hh12, hq⟩ := mx_bS hq
  refine mx_e_pi hh12 ?_
  cases hq; exact mx_p_rv
set_option maxRecDepth 20000 in
set_option maxHeartbeats 1000000 in
theorem t_X9_copyFrom {a0 : Nat} {a1 : Nat} {h : mx_Hp} {res} (hq : f_X9_copyFrom a0 a1 h = some res) : mx_Ms mx_k_X9_copyFrom [.ref a0, .ref a1] h (none, res) := by
  unfold f_X9_copyFrom at hq
  show mx_Ev mx_k_X9_copyFrom mx_noS (mx_b_X9_copyFrom 0, [some (.ref a0), some (.ref a1)], [], h, 0, 0) _
  refine mx_p_aln rfl ?_
  obtain ⟨x19, hx19, hq⟩ := mx_bS hq
  refine mx_e_gr hx19 rfl ?_
  refine mx_p_aln rfl ?_
  obtain ⟨x20, hx20, hq⟩ := mx_bS hq
  refine mx_e_gr hx20 rfl ?_
  have ho22 : x19 < h.1 ∧ (mx_lay x19).1 = 10 := by
    by_cases hh : x19 < h.1 ∧ (mx_lay x19).1 = 10
    · exact hh
    · rw [if_neg hh] at hq; cases hq
  rw [if_pos ho22] at hq
  obtain ⟨x21, hx21, hq⟩ := mx_bS hq
  refine mx_e_cv mx_t_X7_copyFrom ho22 rfl rfl rfl ⟨Nat.le_of_ble_eq_true rfl, Nat.le_of_ble_eq_true rfl, Nat.le_of_ble_eq_true rfl⟩ (Nat.le_of_ble_eq_true rfl) rfl rfl rfl ⟨Nat.zero_le _, Nat.zero_le _⟩ (t_X7_copyFrom hx21) ?_
  refine mx_p_aln rfl ?_
  obtain ⟨x23, hx23, hq⟩ := mx_bS hq
  refine mx_e_gr hx23 rfl ?_
  refine mx_p_aln rfl ?_
  obtain ⟨x24, hx24, hq⟩ := mx_bS hq
  refine mx_e_gr hx24 rfl ?_
  have ho26 : x23 < x21.1 ∧ (mx_lay x23).1 = 7 := by
    by_cases hh : x23 < x21.1 ∧ (mx_lay x23).1 = 7
    · exact hh
    · rw [if_neg hh] at hq; cases hq
  rw [if_pos ho26] at hq
  obtain ⟨x25, hx25, hq⟩ := mx_bS hq
  refine mx_e_cv mx_t_X4_copyFrom ho26 rfl rfl rfl ⟨Nat.le_of_ble_eq_true rfl, Nat.le_of_ble_eq_true rfl, Nat.le_of_ble_eq_true rfl⟩ (Nat.le_of_ble_eq_true rfl) rfl rfl rfl ⟨Nat.zero_le _, Nat.zero_le _⟩ (t_X4_copyFrom hx25) ?_
  refine mx_p_aln rfl ?_
  obtain ⟨x27, hx27, hq⟩ := mx_bS hq
  refine mx_e_gr hx27 rfl ?_
  refine mx_p_aln rfl ?_
  obtain ⟨x28, hx28, hq⟩ := mx_bS hq
  refine mx_e_gr hx28 rfl ?_
  have ho30 : x27 < x25.1 ∧ (mx_lay x27).1 = 7 := by
    by_cases hh : x27 < x25.1 ∧ (mx_lay x27).1 = 7
    · exact hh
    · rw [if_neg hh] at hq; cases hq
  rw [if_pos ho30] at hq
  obtain ⟨x29, hx29, hq⟩ := mx_bS hq
  refine mx_e_cv mx_t_X4_copyFrom ho30 rfl rfl rfl ⟨Nat.le_of_ble_eq_true rfl, Nat.le_of_ble_eq_true rfl, Nat.le_of_ble_eq_true rfl⟩ (Nat.le_of_ble_eq_true rfl) rfl rfl rfl ⟨Nat.zero_le _, Nat.zero_le _⟩ (t_X4_copyFrom hx29) ?_
  refine mx_p_aln rfl ?_
  refine mx_p_aln rfl ?_
  obtain ⟨x31, hx31, hq⟩ := mx_bS hq
  refine mx_e_gi hx31 (by decide) ?_
  obtain ⟨h32, hh32, hq⟩ := mx_bS hq
  refine mx_e_pi hh32 ?_
  refine mx_p_aln rfl ?_
  refine mx_p_aln rfl ?_
  obtain ⟨x33, hx33, hq⟩ := mx_bS hq
  refine mx_e_gi hx33 (by decide) ?_
  obtain ⟨h34, hh34, hq⟩ := mx_bS hq
  refine mx_e_pi hh34 ?_
  refine mx_p_aln rfl ?_
  refine mx_p_aln rfl ?_
  obtain ⟨x35, hx35, hq⟩ := mx_bS hq
  refine mx_e_gi hx35 (by decide) ?_
  obtain ⟨h36, hh36, hq⟩ := mx_bS hq
  refine mx_e_pi hh36 ?_
  cases hq; exact mx_p_rv
set_option maxRecDepth 20000 in
set_option maxHeartbeats 1000000 in
theorem t_X1_drawOf {a0 : Int32} {a1 : Int32} {h : mx_Hp} {res} (hq : f_X1_drawOf a0 a1 h = some res) : mx_Ms mx_k_X1_drawOf [.int a0, .int a1] h (some (.int res), h) := by
  unfold f_X1_drawOf at hq
  show mx_Ev mx_k_X1_drawOf mx_noS (mx_b_X1_drawOf 0, [some (.int a0), some (.int a1), none, none], [], h, 0, 0) _
  refine mx_p_l2 ?_
  refine mx_p_iln rfl ?_
  refine mx_p_i2l ?_
  refine mx_p_lmul ?_
  refine mx_p_l2 ?_
  refine mx_p_iln rfl ?_
  refine mx_p_i2l ?_
  refine mx_p_lmul ?_
  refine mx_p_ladd ?_
  refine mx_p_lc ?_
  refine mx_p_ladd ?_
  refine mx_p_lsn (loc' := [some (.int a0), some (.int a1), some (.long ((((7919 : Int32).toInt64 * (a0).toInt64) + ((6151 : Int32).toInt64 * (a1).toInt64)) + (1 : Int32).toInt64)), none]) rfl ?_
  refine mx_p_lln rfl ?_
  refine mx_p_lln rfl ?_
  refine mx_p_lmul ?_
  refine mx_p_l2 ?_
  by_cases hc3 : ((65521 : Int32).toInt64 : Int64) = 0
  · rw [if_pos hc3] at hq; cases hq
  rw [if_neg hc3] at hq
  refine mx_e_lrm hc3 ?_
  refine mx_p_l2 ?_
  by_cases hc4 : ((2 : Int32).toInt64 : Int64) = 0
  · rw [if_pos hc4] at hq; cases hq
  rw [if_neg hc4] at hq
  refine mx_e_ldv hc4 ?_
  refine mx_p_l2i ?_
  cases hq; exact mx_e_ri rfl
set_option maxRecDepth 20000 in
set_option maxHeartbeats 1000000 in
theorem t_X9_lastWord {a0 : Nat} {h : mx_Hp} {res} (hq : f_X9_lastWord a0 h = some res) : mx_Ms mx_k_X9_lastWord [.ref a0] h (some (.int res), h) := by
  unfold f_X9_lastWord at hq
  show mx_Ev mx_k_X9_lastWord mx_noS (mx_b_X9_lastWord 0, [some (.ref a0)], [], h, 0, 0) _
  refine mx_p_aln rfl ?_
  obtain ⟨x6, hx6, hq⟩ := mx_bS hq
  refine mx_e_gr hx6 rfl ?_
  refine mx_p_aln rfl ?_
  obtain ⟨x7, hx7, hq⟩ := mx_bS hq
  refine mx_e_gr hx7 rfl ?_
  obtain ⟨x8, hx8, hq⟩ := mx_bS hq
  refine mx_e_gi hx8 (by decide) ?_
  refine mx_p_ic ?_
  refine mx_p_isub ?_
  have ho10 : x6 < h.1 ∧ (mx_lay x6).1 = 10 := by
    by_cases hh : x6 < h.1 ∧ (mx_lay x6).1 = 10
    · exact hh
    · rw [if_neg hh] at hq; cases hq
  rw [if_pos ho10] at hq
  obtain ⟨x9, hx9, hq⟩ := mx_bS hq
  refine mx_e_cv mx_t_X7_at ho10 rfl rfl rfl ⟨Nat.le_of_ble_eq_true rfl, Nat.le_of_ble_eq_true rfl, Nat.le_of_ble_eq_true rfl⟩ (Nat.le_of_ble_eq_true rfl) rfl rfl rfl ⟨Nat.zero_le _, Nat.zero_le _⟩ (t_X7_at hx9) ?_
  cases hq; exact mx_e_ri rfl
set_option maxRecDepth 20000 in
set_option maxHeartbeats 1000000 in
theorem t_X9_mayorOf {a0 : Nat} {a1 : Int32} {h : mx_Hp} {res} (hq : f_X9_mayorOf a0 a1 h = some res) : mx_Ms mx_k_X9_mayorOf [.ref a0, .int a1] h (some (.ref res), h) := by
  unfold f_X9_mayorOf at hq
  show mx_Ev mx_k_X9_mayorOf mx_noS (mx_b_X9_mayorOf 0, [some (.ref a0), some (.int a1)], [], h, 0, 0) _
  refine mx_p_iln rfl ?_
  obtain ⟨v8, hE, hK⟩ := mx_bS hq
  have HJ : mx_Ev mx_k_X9_mayorOf mx_noS (mx_b_X9_mayorOf 15, [none, none], [.ref v8], h, 0, 0) (some (.ref res), h) := by
    replace hq := hK
    cases hq; exact mx_p_ra
  clear hK
  replace hq := hE
  by_cases hc5 : ¬ a1 = 0
  · rw [if_pos hc5] at hq
    refine mx_e_zt (decide_eq_true hc5) ?_
    refine mx_p_aln rfl ?_
    obtain ⟨x6, hx6, hq⟩ := mx_bS hq
    refine mx_e_gr hx6 rfl ?_
    refine mx_p_np ?_
    cases hq; exact mx_Ev.weak (mx_le.drop _ (mx_le.drop _ (mx_le.nil))) HJ
  · rw [if_neg hc5] at hq
    refine mx_e_zf (fun z => hc5 (of_decide_eq_true z)) ?_
    refine mx_p_aln rfl ?_
    obtain ⟨x7, hx7, hq⟩ := mx_bS hq
    refine mx_e_gr hx7 rfl ?_
    refine mx_p_gt ?_
    cases hq; exact mx_Ev.weak (mx_le.drop _ (mx_le.drop _ (mx_le.nil))) HJ
set_option maxRecDepth 20000 in
set_option maxHeartbeats 1000000 in
theorem t_X9_otherMayor {a0 : Nat} {h : mx_Hp} {res} (hq : f_X9_otherMayor a0 h = some res) : mx_Ms mx_k_X9_otherMayor [.ref a0] h (some (.ref res), h) := by
  unfold f_X9_otherMayor at hq
  show mx_Ev mx_k_X9_otherMayor mx_noS (mx_b_X9_otherMayor 0, [some (.ref a0)], [], h, 0, 0) _
  refine mx_p_aln rfl ?_
  refine mx_p_ic ?_
  refine mx_p_aln rfl ?_
  obtain ⟨x4, hx4, hq⟩ := mx_bS hq
  refine mx_e_gi hx4 (by decide) ?_
  refine mx_p_isub ?_
  have ho6 : a0 < h.1 ∧ (mx_lay a0).1 = 12 := by
    by_cases hh : a0 < h.1 ∧ (mx_lay a0).1 = 12
    · exact hh
    · rw [if_neg hh] at hq; cases hq
  rw [if_pos ho6] at hq
  obtain ⟨x5, hx5, hq⟩ := mx_bS hq
  refine mx_e_cv mx_t_X9_mayorOf ho6 rfl rfl rfl ⟨Nat.le_of_ble_eq_true rfl, Nat.le_of_ble_eq_true rfl, Nat.le_of_ble_eq_true rfl⟩ (Nat.le_of_ble_eq_true rfl) rfl rfl rfl ⟨Nat.zero_le _, Nat.zero_le _⟩ (t_X9_mayorOf hx5) ?_
  cases hq; exact mx_p_ra
set_option maxRecDepth 20000 in
set_option maxHeartbeats 1000000 in
theorem t_X9_sayableByOther {a0 : Nat} {a1 : Nat} {h : mx_Hp} {res} (hq : f_X9_sayableByOther a0 a1 h = some res) : mx_Ms mx_k_X9_sayableByOther [.ref a0, .ref a1] h (some (.int res), h) := by
  unfold f_X9_sayableByOther at hq
  show mx_Ev mx_k_X9_sayableByOther mx_noS (mx_b_X9_sayableByOther 0, [some (.ref a0), some (.ref a1)], [], h, 0, 0) _
  refine mx_p_aln rfl ?_
  refine mx_p_aln rfl ?_
  obtain ⟨x13, hx13, hq⟩ := mx_bS hq
  refine mx_e_gr hx13 rfl ?_
  refine mx_p_ic ?_
  have ho15 : x13 < h.1 ∧ (mx_lay x13).1 = 10 := by
    by_cases hh : x13 < h.1 ∧ (mx_lay x13).1 = 10
    · exact hh
    · rw [if_neg hh] at hq; cases hq
  rw [if_pos ho15] at hq
  obtain ⟨x14, hx14, hq⟩ := mx_bS hq
  refine mx_e_cv mx_t_X7_at ho15 rfl rfl rfl ⟨Nat.le_of_ble_eq_true rfl, Nat.le_of_ble_eq_true rfl, Nat.le_of_ble_eq_true rfl⟩ (Nat.le_of_ble_eq_true rfl) rfl rfl rfl ⟨Nat.zero_le _, Nat.zero_le _⟩ (t_X7_at hx14) ?_
  have ho17 : a1 < h.1 ∧ (mx_lay a1).1 = 3 := by
    by_cases hh : a1 < h.1 ∧ (mx_lay a1).1 = 3
    · exact hh
    · rw [if_neg hh] at hq; cases hq
  rw [if_pos ho17] at hq
  obtain ⟨x16, hx16, hq⟩ := mx_bS hq
  refine mx_e_cv mx_t_X0_kindOf ho17 rfl rfl rfl ⟨Nat.le_of_ble_eq_true rfl, Nat.le_of_ble_eq_true rfl, Nat.le_of_ble_eq_true rfl⟩ (Nat.le_of_ble_eq_true rfl) rfl rfl rfl ⟨Nat.zero_le _, Nat.zero_le _⟩ (t_X0_kindOf hx16) ?_
  refine mx_p_ic ?_
  obtain ⟨v24, hE, hK⟩ := mx_bS hq
  have HJ : mx_Ev mx_k_X9_sayableByOther mx_noS (mx_b_X9_sayableByOther 30, [none, none], [.int v24], h, 0, 0) (some (.int res), h) := by
    replace hq := hK
    cases hq; exact mx_e_ri rfl
  clear hK
  replace hq := hE
  by_cases hc18 : ¬ x16 = 3
  · rw [if_pos hc18] at hq
    refine mx_e_it (decide_eq_true hc18) ?_
    refine mx_p_aln rfl ?_
    have ho20 : a0 < h.1 ∧ (mx_lay a0).1 = 12 := by
      by_cases hh : a0 < h.1 ∧ (mx_lay a0).1 = 12
      · exact hh
      · rw [if_neg hh] at hq; cases hq
    rw [if_pos ho20] at hq
    obtain ⟨x19, hx19, hq⟩ := mx_bS hq
    refine mx_e_cv mx_t_X9_otherMayor ho20 rfl rfl rfl ⟨Nat.le_of_ble_eq_true rfl, Nat.le_of_ble_eq_true rfl, Nat.le_of_ble_eq_true rfl⟩ (Nat.le_of_ble_eq_true rfl) rfl rfl rfl ⟨Nat.zero_le _, Nat.zero_le _⟩ (t_X9_otherMayor hx19) ?_
    obtain ⟨x21, hx21, hq⟩ := mx_bS hq
    refine mx_e_gi hx21 (by decide) ?_
    refine mx_p_np ?_
    cases hq; exact mx_Ev.weak (mx_le.drop _ (mx_le.drop _ (mx_le.nil))) HJ
  · rw [if_neg hc18] at hq
    refine mx_e_if (fun z => hc18 (of_decide_eq_true z)) ?_
    refine mx_p_aln rfl ?_
    have ho23 : a1 < h.1 ∧ (mx_lay a1).1 = 3 := by
      by_cases hh : a1 < h.1 ∧ (mx_lay a1).1 = 3
      · exact hh
      · rw [if_neg hh] at hq; cases hq
    rw [if_pos ho23] at hq
    obtain ⟨x22, hx22, hq⟩ := mx_bS hq
    refine mx_e_cv mx_t_X0_allWords ho23 rfl rfl rfl ⟨Nat.le_of_ble_eq_true rfl, Nat.le_of_ble_eq_true rfl, Nat.le_of_ble_eq_true rfl⟩ (Nat.le_of_ble_eq_true rfl) rfl rfl rfl ⟨Nat.zero_le _, Nat.zero_le _⟩ (t_X0_allWords hx22) ?_
    refine mx_p_gt ?_
    cases hq; exact mx_Ev.weak (mx_le.drop _ (mx_le.drop _ (mx_le.nil))) HJ
set_option maxRecDepth 20000 in
set_option maxHeartbeats 1000000 in
theorem e_f_X2_fillStarts_L10 (l0 : Nat) (l1 : Nat) (l2 : Int32)   : ∀ (n : Nat) (s3 : Int32) (s4 : Int32) (hh : mx_Hp) res, mx_fix (f_X2_fillStarts_L10 l0 l1 l2 ) n (s3, s4, hh) = some res → mx_Ev mx_k_X2_fillStarts mx_noS (mx_b_X2_fillStarts 10, [some (.ref l0), some (.ref l1), some (.int l2), some (.int s3), some (.int s4)], [], hh, 0, 0) (none, res) := by
  intro n
  induction n with
  | zero => intro s3 s4 hh res hq; cases hq
  | succ n ih =>
    intro s3 s4 hh res hq
    unfold mx_fix at hq
    generalize mx_fix (f_X2_fillStarts_L10 l0 l1 l2 ) n = S at hq ih
    unfold f_X2_fillStarts_L10 at hq
    try dsimp only at hq
    refine mx_p_il rfl ?_
    refine mx_p_aln rfl ?_
    obtain ⟨x12, hx12, hq⟩ := mx_bS hq
    refine mx_e_gr hx12 rfl ?_
    obtain ⟨x13, hx13, hq⟩ := mx_bS hq
    refine mx_e_ln hx13 ?_
    by_cases hc14 : x13 ≤ s4
    · rw [if_pos hc14] at hq
      refine mx_e_it (decide_eq_true hc14) ?_
      cases hq; exact mx_p_rv
    · rw [if_neg hc14] at hq
      refine mx_e_if (fun z => hc14 (of_decide_eq_true z)) ?_
      refine mx_p_aln rfl ?_
      obtain ⟨x15, hx15, hq⟩ := mx_bS hq
      refine mx_e_gr hx15 rfl ?_
      refine mx_p_il rfl ?_
      refine mx_p_il rfl ?_
      refine mx_p_aln rfl ?_
      obtain ⟨x16, hx16, hq⟩ := mx_bS hq
      refine mx_e_gi hx16 (by decide) ?_
      obtain ⟨v18, hE, hK⟩ := mx_bS hq
      have HJ : mx_Ev mx_k_X2_fillStarts mx_noS (mx_b_X2_fillStarts 40, [some (.ref l0), some (.ref l1), some (.int l2), some (.int s3), some (.int s4)], [.int v18, .int s4, .ref x15], hh, 0, 0) (none, res) := by
        replace hq := hK
        obtain ⟨h19, hh19, hq⟩ := mx_bS hq
        refine mx_e_as hh19 ?_
        refine mx_p_aln rfl ?_
        refine mx_p_iln rfl ?_
        have ho21 : l1 < h19.1 ∧ (mx_lay l1).1 = 3 := by
          by_cases hh : l1 < h19.1 ∧ (mx_lay l1).1 = 3
          · exact hh
          · rw [if_neg hh] at hq; cases hq
        rw [if_pos ho21] at hq
        obtain ⟨x20, hx20, hq⟩ := mx_bS hq
        refine mx_e_cv mx_t_X0_aheadOf ho21 rfl rfl rfl ⟨Nat.le_of_ble_eq_true rfl, Nat.le_of_ble_eq_true rfl, Nat.le_of_ble_eq_true rfl⟩ (Nat.le_of_ble_eq_true rfl) rfl rfl rfl ⟨Nat.zero_le _, Nat.zero_le _⟩ (t_X0_aheadOf hx20) ?_
        refine mx_p_iln rfl ?_
        refine mx_p_iand ?_
        refine mx_p_isn (loc' := [some (.ref l0), some (.ref l1), some (.int l2), some (.int (x20 &&& l2)), some (.int s4)]) rfl ?_
        refine mx_p_inc (loc' := [some (.ref l0), some (.ref l1), some (.int l2), some (.int (x20 &&& l2)), some (.int (s4 + 1))]) rfl rfl ?_
        refine mx_p_gt ?_
        have HB := ih (x20 &&& l2) (s4 + 1) h19 _ hq
        exact mx_Ev.weak (mx_le.same _ (mx_le.same _ (mx_le.same _ (mx_le.same _ (mx_le.same _ (mx_le.nil)))))) HB
      clear hK
      replace hq := hE
      by_cases hc17 : x16 ≤ s4
      · rw [if_pos hc17] at hq
        refine mx_e_it (decide_eq_true hc17) ?_
        refine mx_p_ic ?_
        refine mx_p_np ?_
        cases hq; exact mx_Ev.weak (mx_le.same _ (mx_le.same _ (mx_le.same _ (mx_le.same _ (mx_le.same _ (mx_le.nil)))))) HJ
      · rw [if_neg hc17] at hq
        refine mx_e_if (fun z => hc17 (of_decide_eq_true z)) ?_
        refine mx_p_iln rfl ?_
        refine mx_p_gt ?_
        cases hq; exact mx_Ev.weak (mx_le.same _ (mx_le.same _ (mx_le.same _ (mx_le.same _ (mx_le.same _ (mx_le.nil)))))) HJ
set_option maxRecDepth 20000 in
set_option maxHeartbeats 1000000 in
theorem t_X2_fillStarts {a0 : Nat} {a1 : Nat} {a2 : Int32} {h : mx_Hp} {res} (hq : f_X2_fillStarts a0 a1 a2 h = some res) : mx_Ms mx_k_X2_fillStarts [.ref a0, .ref a1, .int a2] h (none, res) := by
  unfold f_X2_fillStarts at hq
  show mx_Ev mx_k_X2_fillStarts mx_noS (mx_b_X2_fillStarts 0, [some (.ref a0), some (.ref a1), some (.int a2), none, none], [], h, 0, 0) _
  refine mx_p_aln rfl ?_
  obtain ⟨x22, hx22, hq⟩ := mx_bS hq
  refine mx_e_gi hx22 (by decide) ?_
  refine mx_p_iln rfl ?_
  refine mx_p_iand ?_
  refine mx_p_isn (loc' := [some (.ref a0), some (.ref a1), some (.int a2), some (.int (x22 &&& a2)), none]) rfl ?_
  refine mx_p_ic ?_
  refine mx_p_is (loc' := [some (.ref a0), some (.ref a1), some (.int a2), some (.int (x22 &&& a2)), some (.int 0)]) rfl ?_
  refine mx_p_np ?_
  refine mx_Ev.weak (mx_le.same _ (mx_le.same _ (mx_le.same _ (mx_le.same _ (mx_le.same _ (mx_le.nil)))))) (e_f_X2_fillStarts_L10 _ _ _  _ _ _ _ _ hq)
set_option maxRecDepth 20000 in
set_option maxHeartbeats 1000000 in
theorem e_f_X2_fewestMore_L2 (l0 : Nat) (l1 : Int32) (h : mx_Hp)   : ∀ (n : Nat) (s2 : Int32) res, mx_fix (f_X2_fewestMore_L2 l0 l1 h ) n s2 = some res → mx_Ev mx_k_X2_fewestMore mx_noS (mx_b_X2_fewestMore 2, [some (.ref l0), some (.int l1), some (.int s2)], [], h, 0, 0) (some (.int res), h) := by
  intro n
  induction n with
  | zero => intro s2 res hq; cases hq
  | succ n ih =>
    intro s2 res hq
    unfold mx_fix at hq
    generalize mx_fix (f_X2_fewestMore_L2 l0 l1 h ) n = S at hq ih
    unfold f_X2_fewestMore_L2 at hq
    try dsimp only at hq
    refine mx_p_iln rfl ?_
    refine mx_p_aln rfl ?_
    obtain ⟨x7, hx7, hq⟩ := mx_bS hq
    refine mx_e_gr hx7 rfl ?_
    obtain ⟨x8, hx8, hq⟩ := mx_bS hq
    refine mx_e_ln hx8 ?_
    by_cases hc9 : x8 ≤ s2
    · rw [if_pos hc9] at hq
      refine mx_e_it (decide_eq_true hc9) ?_
      refine mx_p_ic ?_
      cases hq; exact mx_e_ri rfl
    · rw [if_neg hc9] at hq
      refine mx_e_if (fun z => hc9 (of_decide_eq_true z)) ?_
      refine mx_p_iln rfl ?_
      refine mx_p_aln rfl ?_
      obtain ⟨x10, hx10, hq⟩ := mx_bS hq
      refine mx_e_gr hx10 rfl ?_
      refine mx_p_iln rfl ?_
      obtain ⟨x11, hx11, hq⟩ := mx_bS hq
      refine mx_e_al hx11 ?_
      refine mx_p_iand ?_
      by_cases hc12 : (l1 &&& x11) = 0
      · rw [if_pos hc12] at hq
        refine mx_e_zt (decide_eq_true hc12) ?_
        refine mx_p_inc (loc' := [some (.ref l0), some (.int l1), some (.int (s2 + 1))]) rfl rfl ?_
        refine mx_p_gt ?_
        have HB := ih (s2 + 1) _ hq
        exact mx_Ev.weak (mx_le.same _ (mx_le.same _ (mx_le.same _ (mx_le.nil)))) HB
      · rw [if_neg hc12] at hq
        refine mx_e_zf (fun z => hc12 (of_decide_eq_true z)) ?_
        refine mx_p_iln rfl ?_
        cases hq; exact mx_e_ri rfl
set_option maxRecDepth 20000 in
set_option maxHeartbeats 1000000 in
theorem t_X2_fewestMore {a0 : Nat} {a1 : Int32} {h : mx_Hp} {res} (hq : f_X2_fewestMore a0 a1 h = some res) : mx_Ms mx_k_X2_fewestMore [.ref a0, .int a1] h (some (.int res), h) := by
  unfold f_X2_fewestMore at hq
  show mx_Ev mx_k_X2_fewestMore mx_noS (mx_b_X2_fewestMore 0, [some (.ref a0), some (.int a1), none], [], h, 0, 0) _
  refine mx_p_ic ?_
  refine mx_p_isn (loc' := [some (.ref a0), some (.int a1), some (.int 0)]) rfl ?_
  refine mx_p_np ?_
  refine mx_Ev.weak (mx_le.same _ (mx_le.same _ (mx_le.same _ (mx_le.nil)))) (e_f_X2_fewestMore_L2 _ _ _  _ _ _ hq)
