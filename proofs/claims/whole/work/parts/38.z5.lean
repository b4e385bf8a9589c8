/-! the law's run -/
theorem RelX.both {m m' : Nat → Nat → Int32} {r r' : Nat → Nat → Option Nat} {A : Ab} (R : RelX m r A) (W : WFa A) (h : ∀ a, a < 114 → m' a = m a ∧ r' a = r a) : RelX m' r' A := by
  have R1 : RelX m' r A := R.low W (fun a ha => (h a ha).1)
  obtain ⟨B, D, ⟨X, ⟨q1, q2, q3, q4, q5⟩, t, Rb, k, G⟩, S, P, p1, p2⟩ := R1
  have hr : ∀ a, a < 114 → r' a = r a := fun a ha => (h a ha).2
  have X' : XR r' := by
    obtain ⟨⟨a1, a2, a3, a4, a5, a6, a7, a8⟩, ⟨b1, b2⟩, hB, hS, ⟨c1, c2, c3, c4⟩, ⟨d1, d2, d3⟩, ⟨e1, e2, e3, e4, e5⟩, hO, ⟨g1, g2, g3⟩⟩ := X
    have h0 := hr 0 (by decide)
    refine ⟨by rw [h0]; exact ⟨a1, a2, a3, a4, a5, a6, a7, a8⟩, by rw [hr 1 (by decide)]; exact ⟨b1, b2⟩, fun B q => ?_, fun a q => ?_, by rw [hr 17 (by decide), hr 59 (by decide), hr 60 (by decide)]; exact ⟨c1, c2, c3, c4⟩, by rw [hr 71 (by decide), hr 72 (by decide)]; exact ⟨d1, d2, d3⟩, by rw [hr 75 (by decide), hr 76 (by decide)]; exact ⟨e1, e2, e3, e4, e5⟩, fun a q => ?_, by rw [hr 106 (by decide), hr 108 (by decide)]; exact ⟨g1, g2, g3⟩⟩
    · have := b_ly q
      rw [hr B (by omega)]
      exact hB B q
    · have := st_ly q
      rw [hr a (by omega), hr (a + 1) (by omega)]
      exact hS a q
    · have := o_ly q
      rw [hr a (by omega), hr (a + 3) (by omega)]
      exact hO a q
  exact ⟨B, D, ⟨X', ⟨by rw [hr 0 (by decide)]; exact q1, by rw [hr 0 (by decide)]; exact q2, q3, q4, q5⟩, t, Rb, k, G⟩, S, P, fun i hi => by rw [hr 18 (by decide)]; exact p1 i hi, p2⟩
set_option maxRecDepth 20000 in
theorem law_runs : mx_LawRuns := by
  intro L xs hL
  obtain ⟨m, r, e1, R1⟩ := x_made
  obtain ⟨m2, r2, e2, M2, H2, f2⟩ := m_made m r
  have I : LI m2 r2 := ⟨A0, H2, R1.both A0_wf f2, M2, A0_wf⟩
  obtain ⟨hf, e3⟩ := law_all (xs := xs) hL I
  refine ⟨hf, ?_⟩
  show mx_Ev mx_k_L_law (true, L, xs) (mx_b_L_law 0, [some (.ref mx_SCR), none, none, none], [], mx_h0, 0, 0) _
  refine mx_q_new ⟨by decide +kernel, by decide, by decide, by decide⟩ ?_
  refine mx_p_dup rfl ?_
  refine mx_q_cn mx_t_X11_init ⟨by decide, by decide +kernel⟩ rfl rfl rfl ⟨Nat.le_of_ble_eq_true rfl, Nat.le_of_ble_eq_true rfl, Nat.le_of_ble_eq_true rfl⟩ (Nat.le_of_ble_eq_true rfl) (ci := 11) rfl ⟨Nat.le_of_ble_eq_true rfl, Nat.le_of_ble_eq_true rfl⟩ e1 ?_
  refine mx_p_asn (loc' := [some (.ref mx_SCR), some (.ref 0), none, none]) rfl ?_
  refine mx_q_new ⟨show (mx_lay 114).1 = 12 + 3 by decide +kernel, by decide, by decide, by decide⟩ ?_
  refine mx_p_dup rfl ?_
  refine mx_q_cn mx_t_X12_init ⟨show 114 < 115 by decide, show (mx_lay 114).1 = 12 + 3 by decide +kernel⟩ rfl rfl rfl ⟨Nat.le_of_ble_eq_true rfl, Nat.le_of_ble_eq_true rfl, Nat.le_of_ble_eq_true rfl⟩ (Nat.le_of_ble_eq_true rfl) (ci := 12) rfl ⟨Nat.le_of_ble_eq_true rfl, Nat.le_of_ble_eq_true rfl⟩ e2 ?_
  refine mx_p_asn (loc' := [some (.ref mx_SCR), some (.ref 0), some (.ref 114), none]) rfl ?_
  refine mx_p_ic ?_
  refine mx_p_isn (loc' := [some (.ref mx_SCR), some (.ref 0), some (.ref 114), some (.int 0)]) rfl ?_
  refine mx_p_np ?_
  exact e_f_L_law_L18 (true, L, xs) rfl 0 114 2000 0 (130, m2, r2) (1, hf) e3
