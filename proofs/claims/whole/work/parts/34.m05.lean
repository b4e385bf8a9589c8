/-! the reference: its calls -/
section M5
variable {m m' : Nat → Nat → Int32} {r : Nat → Nat → Option Nat} {A : Ab} {s : St}
theorem RelM.act (R : RelM m A) {s : St} {U : Nat × (Nat → St)} (hS : SM (m' 118) 0 s) (hU : m' 114 6 = nI U.1 ∧ ∀ i, i < U.1 → SM (m' 119) (22 * i) (U.2 i)) (h15 : m' 115 = m 115) (h16 : m' 116 = m 116) (h20 : m' 120 = m 120) (h21 : m' 121 = m 121) (h1 : m' 114 1 = m 114 1) (h8 : m' 114 8 = m 114 8) (h10 : m' 114 10 = m 114 10) : RelM m' (aX A, aB A, s, U, aK A, aO A) := by
  obtain ⟨r1, r2, r3, r4, r5, r6⟩ := R
  refine ⟨⟨by rw [h1]; exact r1.1, fun i hi => by rw [h15]; exact r1.2 i hi⟩, by rw [h16]; exact r2, hS, hU, ⟨by rw [h8]; exact r5.1, fun i hi => by rw [h20]; exact r5.2 i hi⟩, ⟨by rw [h10]; exact r6.1, fun i hi => by rw [h21]; exact r6.2 i hi⟩⟩
/-- nothing that shows has changed -/
theorem RelM.same (R : RelM m A) (h : ∀ a, 114 ≤ a → a < 122 → m' a = m a) : RelM m' A := by
  obtain ⟨r1, r2, r3, r4, r5, r6⟩ := R
  unfold RelM
  rw [h 114 (by decide) (by decide), h 115 (by decide) (by decide), h 116 (by decide) (by decide), h 118 (by decide) (by decide), h 119 (by decide) (by decide), h 120 (by decide) (by decide), h 121 (by decide) (by decide)]
  exact ⟨r1, r2, r3, r4, r5, r6⟩
theorem MOk.mk0 (R : RelM m A) {v : Int32} {res : Option (Int32 × mx_Hp)} (e : res = some (v, (130, m, r))) : MOk res m r v A := ⟨m, e, R, fun _ _ => rfl⟩
theorem mc_write (H : MR r) (R : RelM m A) (W : WFa A) (x : Int32) : MOk (f_X12_write 114 x (130, m, r)) m r (o_write A x).1 (o_write A x).2 := by
  have hx200 := W.1
  unfold o_write f_X12_write
  by_cases h1 : x < 32 ∨ 126 < x
  · rw [if_pos h1]
    refine MOk.mk0 R ?_
    rw [mb_in, if_pos h1]
    simp (disch := omega) only [nb_lit, nI_add, nb_sub, pk_mul, nb_lt, nb_le, nb_eq, nb_and, nb_or, nb_xor, nb_shl, nb_shl2, Option.bind_some, Option.some.injEq, Prod.mk.injEq, nI_pos, if_true, if_false, ite_true, ite_false, not_true_eq_false, not_false_eq_true, and_true, true_and, and_self, or_self, b10_0, b10_1, b01_0, b01_1, b10_o, b01_o, or_true, true_or, or_false, false_or, and_false, false_and, eq_self, Nat.reduceEqDiff, b_em, b_me, ly_m, Nat.reduceLT, Nat.reduceLeDiff, Nat.reduceAdd, Nat.reduceMul, Nat.reduceSub, Bool.false_eq_true, Nat.not_lt_zero]
  · rw [if_neg h1]
    obtain ⟨r1, r2, r3, r4, r5, r6⟩ := id R
    by_cases h2 : (aX A).1 = 200
    · rw [if_pos h2]
      refine MOk.mk0 R ?_
      rw [mb_in, if_neg h1]
      simp (disch := omega) only [gr_text H, gr_told H, gr_draft H, gr_s H, gr_past H, gr_images H, gr_notes H, gr_levels H, gr_row H, gr_reach H, gr_gains H, gr_line H, gr_rows H, gr_next H, gr_held H, al_text, al_told, al_draft, al_s, al_past, al_images, al_notes, al_levels, al_row, al_reach, al_gains, al_line, al_rows, al_next, al_held, as_text, as_told, as_draft, as_s, as_past, as_images, as_notes, as_levels, as_row, as_reach, as_gains, as_line, as_rows, as_next, as_held, gi_typed, pi_typed, gi_known, pi_known, gi_kept, pi_kept, gi_noted, pi_noted, gi_at, pi_at, gd_m, r1.1, h2, nb_lit, nI_add, nb_sub, pk_mul, nb_lt, nb_le, nb_eq, nb_and, nb_or, nb_xor, nb_shl, nb_shl2, Option.bind_some, Option.some.injEq, Prod.mk.injEq, nI_pos, if_true, if_false, ite_true, ite_false, not_true_eq_false, not_false_eq_true, and_true, true_and, and_self, or_self, b10_0, b10_1, b01_0, b01_1, b10_o, b01_o, or_true, true_or, or_false, false_or, and_false, false_and, eq_self, Nat.reduceEqDiff, b_em, b_me, ly_m, Nat.reduceLT, Nat.reduceLeDiff, Nat.reduceAdd, Nat.reduceMul, Nat.reduceSub, Bool.false_eq_true, Nat.not_lt_zero]
    · rw [if_neg h2]
      rw [mb_in, if_neg h1]
      refine ⟨mx_up (mx_up m 115 (aX A).1 x) 114 1 (nI ((aX A).1 + 1)), ?_, ?_, ?_⟩
      · simp (disch := omega) only [gr_text H, gr_told H, gr_draft H, gr_s H, gr_past H, gr_images H, gr_notes H, gr_levels H, gr_row H, gr_reach H, gr_gains H, gr_line H, gr_rows H, gr_next H, gr_held H, al_text, al_told, al_draft, al_s, al_past, al_images, al_notes, al_levels, al_row, al_reach, al_gains, al_line, al_rows, al_next, al_held, as_text, as_told, as_draft, as_s, as_past, as_images, as_notes, as_levels, as_row, as_reach, as_gains, as_line, as_rows, as_next, as_held, gi_typed, pi_typed, gi_known, pi_known, gi_kept, pi_kept, gi_noted, pi_noted, gi_at, pi_at, gd_m, r1.1, h2, nb_lit, nI_add, nb_sub, pk_mul, nb_lt, nb_le, nb_eq, nb_and, nb_or, nb_xor, nb_shl, nb_shl2, Option.bind_some, Option.some.injEq, Prod.mk.injEq, nI_pos, if_true, if_false, ite_true, ite_false, not_true_eq_false, not_false_eq_true, and_true, true_and, and_self, or_self, b10_0, b10_1, b01_0, b01_1, b10_o, b01_o, or_true, true_or, or_false, false_or, and_false, false_and, eq_self, Nat.reduceEqDiff, b_em, b_me, ly_m, Nat.reduceLT, Nat.reduceLeDiff, Nat.reduceAdd, Nat.reduceMul, Nat.reduceSub, Bool.false_eq_true, Nat.not_lt_zero, hb_up_same, hb_up_ne, ne_eq]
      · refine ⟨⟨hb_up_same, fun i hi => ?_⟩, ?_, ?_, ⟨?_, fun i hi => ?_⟩, ⟨?_, fun i hi => ?_⟩, ⟨?_, fun i hi => ?_⟩⟩
        · have hi : i < (aX A).1 + 1 := hi
          show _ = if i = (aX A).1 then x else (aX A).2 i
          by_cases he : i = (aX A).1
          · subst he
            simp (disch := omega) only [hb_up_same, hb_up_ne, ne_eq, if_true]
          · simp (disch := omega) only [hb_up_same, hb_up_ne, ne_eq, if_neg he]
            exact r1.2 i (by omega)
        · have e : (mx_up (mx_up m 115 (aX A).1 x) 114 1 (nI ((aX A).1 + 1))) 116 = m 116 := by
            funext j; simp (disch := omega) only [hb_up_same, hb_up_ne, ne_eq]
          rw [e]; exact r2
        · have e : (mx_up (mx_up m 115 (aX A).1 x) 114 1 (nI ((aX A).1 + 1))) 118 = m 118 := by
            funext j; simp (disch := omega) only [hb_up_same, hb_up_ne, ne_eq]
          rw [e]; exact r3
        · simp (disch := omega) only [hb_up_same, hb_up_ne, ne_eq]; exact r4.1
        · have e : (mx_up (mx_up m 115 (aX A).1 x) 114 1 (nI ((aX A).1 + 1))) 119 = m 119 := by
            funext j; simp (disch := omega) only [hb_up_same, hb_up_ne, ne_eq]
          rw [e]; exact r4.2 i hi
        · simp (disch := omega) only [hb_up_same, hb_up_ne, ne_eq]; exact r5.1
        · have e : (mx_up (mx_up m 115 (aX A).1 x) 114 1 (nI ((aX A).1 + 1))) 120 = m 120 := by
            funext j; simp (disch := omega) only [hb_up_same, hb_up_ne, ne_eq]
          rw [e]; exact r5.2 i hi
        · simp (disch := omega) only [hb_up_same, hb_up_ne, ne_eq]; exact r6.1
        · simp (disch := omega) only [hb_up_same, hb_up_ne, ne_eq]; exact r6.2 i hi
      · intro a ha
        funext j
        simp (disch := omega) only [hb_up_same, hb_up_ne, ne_eq]
theorem RelM.fld {j : Nat} {v : Int32} (R : RelM m A) (hj : j ≠ 1 ∧ j ≠ 6 ∧ j ≠ 8 ∧ j ≠ 10) : RelM (mx_up m 114 j v) A := by
  obtain ⟨r1, r2, r3, r4, r5, r6⟩ := R
  have e : ∀ a, a ≠ 114 → (mx_up m 114 j v) a = m a := by
    intro a ha; funext i; simp (disch := omega) only [hb_up_same, hb_up_ne, ne_eq]
  unfold RelM
  rw [e 115 (by decide), e 116 (by decide), e 118 (by decide), e 119 (by decide), e 120 (by decide), e 121 (by decide)]
  simp (disch := omega) only [hb_up_same, hb_up_ne, ne_eq]
  exact ⟨r1, r2, r3, r4, r5, r6⟩
theorem mc_wipe (H : MR r) (R : RelM m A) : MOk (f_X12_wipe 114 (130, m, r)) m r (o_wipe A).1 (o_wipe A).2 := by
  obtain ⟨r1, r2, r3, r4, r5, r6⟩ := R
  unfold f_X12_wipe o_wipe
  simp (disch := omega) only [gr_text H, gr_told H, gr_draft H, gr_s H, gr_past H, gr_images H, gr_notes H, gr_levels H, gr_row H, gr_reach H, gr_gains H, gr_line H, gr_rows H, gr_next H, gr_held H, al_text, al_told, al_draft, al_s, al_past, al_images, al_notes, al_levels, al_row, al_reach, al_gains, al_line, al_rows, al_next, al_held, as_text, as_told, as_draft, as_s, as_past, as_images, as_notes, as_levels, as_row, as_reach, as_gains, as_line, as_rows, as_next, as_held, gi_typed, pi_typed, gi_known, pi_known, gi_kept, pi_kept, gi_noted, pi_noted, gi_at, pi_at, gd_m, r1.1, nb_lit, nI_add, nb_sub, pk_mul, nb_lt, nb_le, nb_eq, nb_and, nb_or, nb_xor, nb_shl, nb_shl2, Option.bind_some, Option.some.injEq, Prod.mk.injEq, nI_pos, if_true, if_false, ite_true, ite_false, not_true_eq_false, not_false_eq_true, and_true, true_and, and_self, or_self, b10_0, b10_1, b01_0, b01_1, b10_o, b01_o, or_true, true_or, or_false, false_or, and_false, false_and, eq_self, Nat.reduceEqDiff, b_em, b_me, ly_m, Nat.reduceLT, Nat.reduceLeDiff, Nat.reduceAdd, Nat.reduceMul, Nat.reduceSub, Bool.false_eq_true, Nat.not_lt_zero]
  have e : ∀ a, a ≠ 114 → (mx_up m 114 1 (nI 0)) a = m a := by
    intro a ha; funext i; simp (disch := omega) only [hb_up_same, hb_up_ne, ne_eq]
  refine ⟨_, rfl, ?_, fun a ha => e a (by omega)⟩
  unfold RelM
  rw [e 115 (by decide), e 116 (by decide), e 118 (by decide), e 119 (by decide), e 120 (by decide), e 121 (by decide)]
  simp (disch := omega) only [hb_up_same, hb_up_ne, ne_eq]
  exact ⟨⟨rfl, fun i hi => absurd hi (Nat.not_lt_zero i)⟩, r2, r3, r4, r5, r6⟩
theorem mc_word (H : MR r) (R : RelM m A) (W : WFa A) (x y : Int32) : f_X12_word 114 x y (130, m, r) = some (v_word A x y) := by
  obtain ⟨r1, T, S, r4, r5, r6⟩ := R
  have B := W.2.1
  have F := W.2.2.1
  have hn := wf_N B
  unfold f_X12_word v_word
  by_cases hx : x < 0 ∨ nI (bN (aB A)) ≤ x
  · rw [if_pos hx]
    simp (disch := omega) only [m_noW H T B hx, nb_lit, nI_add, nb_sub, pk_mul, nb_lt, nb_le, nb_eq, nb_and, nb_or, nb_xor, nb_shl, nb_shl2, Option.bind_some, Option.some.injEq, Prod.mk.injEq, nI_pos, if_true, if_false, ite_true, ite_false, not_true_eq_false, not_false_eq_true, and_true, true_and, and_self, or_self, b10_0, b10_1, b01_0, b01_1, b10_o, b01_o, or_true, true_or, or_false, false_or, and_false, false_and, eq_self, Nat.reduceEqDiff, b_em, b_me, ly_m, Nat.reduceLT, Nat.reduceLeDiff, Nat.reduceAdd, Nat.reduceMul, Nat.reduceSub, Bool.false_eq_true, Nat.not_lt_zero]
  · rw [if_neg hx]
    obtain ⟨w, hw, rfl, e⟩ := nword B hx
    rw [e]
    have h0 := wf_y B F (show 0 < 2 by decide)
    have h1 := wf_y B F (show 1 < 2 by decide)
    have y0 := sm_Y S (show 0 < 2 by decide)
    have y1 := sm_Y S (show 1 < 2 by decide)
    simp only [Nat.add_zero, Nat.reduceAdd] at y0 y1
    simp (disch := omega) only [gr_text H, gr_told H, gr_draft H, gr_s H, gr_past H, gr_images H, gr_notes H, gr_levels H, gr_row H, gr_reach H, gr_gains H, gr_line H, gr_rows H, gr_next H, gr_held H, al_text, al_told, al_draft, al_s, al_past, al_images, al_notes, al_levels, al_row, al_reach, al_gains, al_line, al_rows, al_next, al_held, as_text, as_told, as_draft, as_s, as_past, as_images, as_notes, as_levels, as_row, as_reach, as_gains, as_line, as_rows, as_next, as_held, gi_typed, pi_typed, gi_known, pi_known, gi_kept, pi_kept, gi_noted, pi_noted, gi_at, pi_at, gd_m, m_isW H T B hw, to_K T hw, to_W T hw, to_E T hw, y0, y1, mb_has, nb_lit, nI_add, nb_sub, pk_mul, nb_lt, nb_le, nb_eq, nb_and, nb_or, nb_xor, nb_shl, nb_shl2, Option.bind_some, Option.some.injEq, Prod.mk.injEq, nI_pos, if_true, if_false, ite_true, ite_false, not_true_eq_false, not_false_eq_true, and_true, true_and, and_self, or_self, b10_0, b10_1, b01_0, b01_1, b10_o, b01_o, or_true, true_or, or_false, false_or, and_false, false_and, eq_self, Nat.reduceEqDiff, b_em, b_me, ly_m, Nat.reduceLT, Nat.reduceLeDiff, Nat.reduceAdd, Nat.reduceMul, Nat.reduceSub, Bool.false_eq_true, Nat.not_lt_zero]
    split
    · rfl
    · split
      · rfl
      · split
        · rfl
        · split
          · by_cases t0 : (sY (aS A) 0).testBit w = true
            · by_cases t1 : (sY (aS A) 1).testBit w = true
              · simp (disch := omega) only [t0, t1, nb_lit, nI_add, nb_sub, pk_mul, nb_lt, nb_le, nb_eq, nb_and, nb_or, nb_xor, nb_shl, nb_shl2, Option.bind_some, Option.some.injEq, Prod.mk.injEq, nI_pos, if_true, if_false, ite_true, ite_false, not_true_eq_false, not_false_eq_true, and_true, true_and, and_self, or_self, b10_0, b10_1, b01_0, b01_1, b10_o, b01_o, or_true, true_or, or_false, false_or, and_false, false_and, eq_self, Nat.reduceEqDiff, b_em, b_me, ly_m, Nat.reduceLT, Nat.reduceLeDiff, Nat.reduceAdd, Nat.reduceMul, Nat.reduceSub, Bool.false_eq_true, Nat.not_lt_zero]
              · simp (disch := omega) only [t0, t1, nb_lit, nI_add, nb_sub, pk_mul, nb_lt, nb_le, nb_eq, nb_and, nb_or, nb_xor, nb_shl, nb_shl2, Option.bind_some, Option.some.injEq, Prod.mk.injEq, nI_pos, if_true, if_false, ite_true, ite_false, not_true_eq_false, not_false_eq_true, and_true, true_and, and_self, or_self, b10_0, b10_1, b01_0, b01_1, b10_o, b01_o, or_true, true_or, or_false, false_or, and_false, false_and, eq_self, Nat.reduceEqDiff, b_em, b_me, ly_m, Nat.reduceLT, Nat.reduceLeDiff, Nat.reduceAdd, Nat.reduceMul, Nat.reduceSub, Bool.false_eq_true, Nat.not_lt_zero]
            · by_cases t1 : (sY (aS A) 1).testBit w = true
              · simp (disch := omega) only [t0, t1, nb_lit, nI_add, nb_sub, pk_mul, nb_lt, nb_le, nb_eq, nb_and, nb_or, nb_xor, nb_shl, nb_shl2, Option.bind_some, Option.some.injEq, Prod.mk.injEq, nI_pos, if_true, if_false, ite_true, ite_false, not_true_eq_false, not_false_eq_true, and_true, true_and, and_self, or_self, b10_0, b10_1, b01_0, b01_1, b10_o, b01_o, or_true, true_or, or_false, false_or, and_false, false_and, eq_self, Nat.reduceEqDiff, b_em, b_me, ly_m, Nat.reduceLT, Nat.reduceLeDiff, Nat.reduceAdd, Nat.reduceMul, Nat.reduceSub, Bool.false_eq_true, Nat.not_lt_zero]
              · simp (disch := omega) only [t0, t1, nb_lit, nI_add, nb_sub, pk_mul, nb_lt, nb_le, nb_eq, nb_and, nb_or, nb_xor, nb_shl, nb_shl2, Option.bind_some, Option.some.injEq, Prod.mk.injEq, nI_pos, if_true, if_false, ite_true, ite_false, not_true_eq_false, not_false_eq_true, and_true, true_and, and_self, or_self, b10_0, b10_1, b01_0, b01_1, b10_o, b01_o, or_true, true_or, or_false, false_or, and_false, false_and, eq_self, Nat.reduceEqDiff, b_em, b_me, ly_m, Nat.reduceLT, Nat.reduceLeDiff, Nat.reduceAdd, Nat.reduceMul, Nat.reduceSub, Bool.false_eq_true, Nat.not_lt_zero]
          · rfl
theorem mayor_or {x : Int32} (h : ¬ (x < 0 ∨ 1 < x)) : ∃ i, i < 2 ∧ x = nI i ∧ x.toNatClampNeg = i := by
  rcases nb_three x 2 (by decide) with q | q | ⟨j, hj, rfl⟩
  · exact absurd (Or.inl q) h
  · exact absurd (Or.inr (Int32.lt_of_lt_of_le (show (1 : Int32) < nI 2 by decide) q)) h
  · exact ⟨j, hj, rfl, nb_cl (by omega)⟩
theorem mc_mayor (H : MR r) (R : RelM m A) (W : WFa A) (x y : Int32) : f_X12_mayor 114 x y (130, m, r) = some (v_mayor A x y) := by
  obtain ⟨r1, T, S, r4, r5, r6⟩ := R
  have F := W.2.2.1
  have hc := wf_c F
  unfold f_X12_mayor v_mayor
  rw [mb_in]
  by_cases hx : x < 0 ∨ 1 < x
  · rw [if_pos hx, if_pos hx]
    simp (disch := omega) only [nb_lit, nI_add, nb_sub, pk_mul, nb_lt, nb_le, nb_eq, nb_and, nb_or, nb_xor, nb_shl, nb_shl2, Option.bind_some, Option.some.injEq, Prod.mk.injEq, nI_pos, if_true, if_false, ite_true, ite_false, not_true_eq_false, not_false_eq_true, and_true, true_and, and_self, or_self, b10_0, b10_1, b01_0, b01_1, b10_o, b01_o, or_true, true_or, or_false, false_or, and_false, false_and, eq_self, Nat.reduceEqDiff, b_em, b_me, ly_m, Nat.reduceLT, Nat.reduceLeDiff, Nat.reduceAdd, Nat.reduceMul, Nat.reduceSub, Bool.false_eq_true, Nat.not_lt_zero]
  · rw [if_neg hx, if_neg hx]
    obtain ⟨i, hi, rfl, e⟩ := mayor_or hx
    rw [e]
    simp (disch := omega) only [gr_text H, gr_told H, gr_draft H, gr_s H, gr_past H, gr_images H, gr_notes H, gr_levels H, gr_row H, gr_reach H, gr_gains H, gr_line H, gr_rows H, gr_next H, gr_held H, al_text, al_told, al_draft, al_s, al_past, al_images, al_notes, al_levels, al_row, al_reach, al_gains, al_line, al_rows, al_next, al_held, as_text, as_told, as_draft, as_s, as_past, as_images, as_notes, as_levels, as_row, as_reach, as_gains, as_line, as_rows, as_next, as_held, gi_typed, pi_typed, gi_known, pi_known, gi_kept, pi_kept, gi_noted, pi_noted, gi_at, pi_at, gd_m, sm_C S, sm_D S hi, sm_G S hi, sm_Y S hi, nb_lit, nI_add, nb_sub, pk_mul, nb_lt, nb_le, nb_eq, nb_and, nb_or, nb_xor, nb_shl, nb_shl2, Option.bind_some, Option.some.injEq, Prod.mk.injEq, nI_pos, if_true, if_false, ite_true, ite_false, not_true_eq_false, not_false_eq_true, and_true, true_and, and_self, or_self, b10_0, b10_1, b01_0, b01_1, b10_o, b01_o, or_true, true_or, or_false, false_or, and_false, false_and, eq_self, Nat.reduceEqDiff, b_em, b_me, ly_m, Nat.reduceLT, Nat.reduceLeDiff, Nat.reduceAdd, Nat.reduceMul, Nat.reduceSub, Bool.false_eq_true, Nat.not_lt_zero]
    split
    · by_cases he : sC (aS A) = i
      · simp (disch := omega) only [he, nb_lit, nI_add, nb_sub, pk_mul, nb_lt, nb_le, nb_eq, nb_and, nb_or, nb_xor, nb_shl, nb_shl2, Option.bind_some, Option.some.injEq, Prod.mk.injEq, nI_pos, if_true, if_false, ite_true, ite_false, not_true_eq_false, not_false_eq_true, and_true, true_and, and_self, or_self, b10_0, b10_1, b01_0, b01_1, b10_o, b01_o, or_true, true_or, or_false, false_or, and_false, false_and, eq_self, Nat.reduceEqDiff, b_em, b_me, ly_m, Nat.reduceLT, Nat.reduceLeDiff, Nat.reduceAdd, Nat.reduceMul, Nat.reduceSub, Bool.false_eq_true, Nat.not_lt_zero]
      · simp (disch := omega) only [he, nb_lit, nI_add, nb_sub, pk_mul, nb_lt, nb_le, nb_eq, nb_and, nb_or, nb_xor, nb_shl, nb_shl2, Option.bind_some, Option.some.injEq, Prod.mk.injEq, nI_pos, if_true, if_false, ite_true, ite_false, not_true_eq_false, not_false_eq_true, and_true, true_and, and_self, or_self, b10_0, b10_1, b01_0, b01_1, b10_o, b01_o, or_true, true_or, or_false, false_or, and_false, false_and, eq_self, Nat.reduceEqDiff, b_em, b_me, ly_m, Nat.reduceLT, Nat.reduceLeDiff, Nat.reduceAdd, Nat.reduceMul, Nat.reduceSub, Bool.false_eq_true, Nat.not_lt_zero]
    · repeat' split
      all_goals rfl
theorem mc_said (H : MR r) (R : RelM m A) (W : WFa A) (x : Int32) : f_X12_said 114 x (130, m, r) = some (v_said A x) := by
  obtain ⟨r1, T, S, r4, r5, r6⟩ := R
  have F := W.2.2.1
  have hs := wf_s F
  unfold f_X12_said v_said
  by_cases hx : x < 0
  · rw [if_pos hx, if_neg (Int32.not_le.mpr hx)]
    rfl
  · rw [if_neg hx, if_pos (Int32.not_lt.mp hx)]
    simp (disch := omega) only [gr_text H, gr_told H, gr_draft H, gr_s H, gr_past H, gr_images H, gr_notes H, gr_levels H, gr_row H, gr_reach H, gr_gains H, gr_line H, gr_rows H, gr_next H, gr_held H, al_text, al_told, al_draft, al_s, al_past, al_images, al_notes, al_levels, al_row, al_reach, al_gains, al_line, al_rows, al_next, al_held, as_text, as_told, as_draft, as_s, as_past, as_images, as_notes, as_levels, as_row, as_reach, as_gains, as_line, as_rows, as_next, as_held, gi_typed, pi_typed, gi_known, pi_known, gi_kept, pi_kept, gi_noted, pi_noted, gi_at, pi_at, gd_m, sm_N S, nb_lit, nI_add, nb_sub, pk_mul, nb_lt, nb_le, nb_eq, nb_and, nb_or, nb_xor, nb_shl, nb_shl2, Option.bind_some, Option.some.injEq, Prod.mk.injEq, nI_pos, if_true, if_false, ite_true, ite_false, not_true_eq_false, not_false_eq_true, and_true, true_and, and_self, or_self, b10_0, b10_1, b01_0, b01_1, b10_o, b01_o, or_true, true_or, or_false, false_or, and_false, false_and, eq_self, Nat.reduceEqDiff, b_em, b_me, ly_m, Nat.reduceLT, Nat.reduceLeDiff, Nat.reduceAdd, Nat.reduceMul, Nat.reduceSub, Bool.false_eq_true, Nat.not_lt_zero]
    rcases nb_three x (sN (aS A)) (by omega) with q | q | ⟨j, hj, rfl⟩
    · exact absurd q hx
    · simp only [q, nb_lit, nI_add, nb_sub, pk_mul, nb_lt, nb_le, nb_eq, nb_and, nb_or, nb_xor, nb_shl, nb_shl2, Option.bind_some, Option.some.injEq, Prod.mk.injEq, nI_pos, if_true, if_false, ite_true, ite_false, not_true_eq_false, not_false_eq_true, and_true, true_and, and_self, or_self, b10_0, b10_1, b01_0, b01_1, b10_o, b01_o, or_true, true_or, or_false, false_or, and_false, false_and, eq_self, Nat.reduceEqDiff, b_em, b_me, ly_m, Nat.reduceLT, Nat.reduceLeDiff, Nat.reduceAdd, Nat.reduceMul, Nat.reduceSub, Bool.false_eq_true, Nat.not_lt_zero]
    · simp (disch := omega) only [gr_text H, gr_told H, gr_draft H, gr_s H, gr_past H, gr_images H, gr_notes H, gr_levels H, gr_row H, gr_reach H, gr_gains H, gr_line H, gr_rows H, gr_next H, gr_held H, al_text, al_told, al_draft, al_s, al_past, al_images, al_notes, al_levels, al_row, al_reach, al_gains, al_line, al_rows, al_next, al_held, as_text, as_told, as_draft, as_s, as_past, as_images, as_notes, as_levels, as_row, as_reach, as_gains, as_line, as_rows, as_next, as_held, gi_typed, pi_typed, gi_known, pi_known, gi_kept, pi_kept, gi_noted, pi_noted, gi_at, pi_at, gd_m, sm_W S hj, nb_lit, nI_add, nb_sub, pk_mul, nb_lt, nb_le, nb_eq, nb_and, nb_or, nb_xor, nb_shl, nb_shl2, Option.bind_some, Option.some.injEq, Prod.mk.injEq, nI_pos, if_true, if_false, ite_true, ite_false, not_true_eq_false, not_false_eq_true, and_true, true_and, and_self, or_self, b10_0, b10_1, b01_0, b01_1, b10_o, b01_o, or_true, true_or, or_false, false_or, and_false, false_and, eq_self, Nat.reduceEqDiff, b_em, b_me, ly_m, Nat.reduceLT, Nat.reduceLeDiff, Nat.reduceAdd, Nat.reduceMul, Nat.reduceSub, Bool.false_eq_true, Nat.not_lt_zero, nb_cl]
      rw [if_neg (by omega), if_neg (by omega)]
      rfl
theorem mc_count (H : MR r) (R : RelM m A) (x : Int32) : f_X12_count 114 x (130, m, r) = some (v_count A x) := by
  obtain ⟨r1, T, S, r4, r5, r6⟩ := R
  have d0 := sm_D S (show 0 < 2 by decide)
  have d1 := sm_D S (show 1 < 2 by decide)
  simp only [Nat.add_zero, Nat.reduceAdd] at d0 d1
  unfold f_X12_count v_count
  by_cases c0 : x = 0
  · rw [if_pos c0, if_pos c0]
    simp (disch := omega) only [gr_text H, gr_told H, gr_draft H, gr_s H, gr_past H, gr_images H, gr_notes H, gr_levels H, gr_row H, gr_reach H, gr_gains H, gr_line H, gr_rows H, gr_next H, gr_held H, al_text, al_told, al_draft, al_s, al_past, al_images, al_notes, al_levels, al_row, al_reach, al_gains, al_line, al_rows, al_next, al_held, as_text, as_told, as_draft, as_s, as_past, as_images, as_notes, as_levels, as_row, as_reach, as_gains, as_line, as_rows, as_next, as_held, gi_typed, pi_typed, gi_known, pi_known, gi_kept, pi_kept, gi_noted, pi_noted, gi_at, pi_at, gd_m, to_N T, to_M T, sm_T S, sm_N S, d0, d1, sm_P S, r6.1, r4.1, r5.1, r1.1, nb_lit, nI_add, nb_sub, pk_mul, nb_lt, nb_le, nb_eq, nb_and, nb_or, nb_xor, nb_shl, nb_shl2, Option.bind_some, Option.some.injEq, Prod.mk.injEq, nI_pos, if_true, if_false, ite_true, ite_false, not_true_eq_false, not_false_eq_true, and_true, true_and, and_self, or_self, b10_0, b10_1, b01_0, b01_1, b10_o, b01_o, or_true, true_or, or_false, false_or, and_false, false_and, eq_self, Nat.reduceEqDiff, b_em, b_me, ly_m, Nat.reduceLT, Nat.reduceLeDiff, Nat.reduceAdd, Nat.reduceMul, Nat.reduceSub, Bool.false_eq_true, Nat.not_lt_zero]
  rw [if_neg c0, if_neg c0]
  by_cases c1 : x = 1
  · rw [if_pos c1, if_pos c1]
    simp (disch := omega) only [gr_text H, gr_told H, gr_draft H, gr_s H, gr_past H, gr_images H, gr_notes H, gr_levels H, gr_row H, gr_reach H, gr_gains H, gr_line H, gr_rows H, gr_next H, gr_held H, al_text, al_told, al_draft, al_s, al_past, al_images, al_notes, al_levels, al_row, al_reach, al_gains, al_line, al_rows, al_next, al_held, as_text, as_told, as_draft, as_s, as_past, as_images, as_notes, as_levels, as_row, as_reach, as_gains, as_line, as_rows, as_next, as_held, gi_typed, pi_typed, gi_known, pi_known, gi_kept, pi_kept, gi_noted, pi_noted, gi_at, pi_at, gd_m, to_N T, to_M T, sm_T S, sm_N S, d0, d1, sm_P S, r6.1, r4.1, r5.1, r1.1, nb_lit, nI_add, nb_sub, pk_mul, nb_lt, nb_le, nb_eq, nb_and, nb_or, nb_xor, nb_shl, nb_shl2, Option.bind_some, Option.some.injEq, Prod.mk.injEq, nI_pos, if_true, if_false, ite_true, ite_false, not_true_eq_false, not_false_eq_true, and_true, true_and, and_self, or_self, b10_0, b10_1, b01_0, b01_1, b10_o, b01_o, or_true, true_or, or_false, false_or, and_false, false_and, eq_self, Nat.reduceEqDiff, b_em, b_me, ly_m, Nat.reduceLT, Nat.reduceLeDiff, Nat.reduceAdd, Nat.reduceMul, Nat.reduceSub, Bool.false_eq_true, Nat.not_lt_zero]
  rw [if_neg c1, if_neg c1]
  by_cases c2 : x = 2
  · rw [if_pos c2, if_pos c2]
    simp (disch := omega) only [gr_text H, gr_told H, gr_draft H, gr_s H, gr_past H, gr_images H, gr_notes H, gr_levels H, gr_row H, gr_reach H, gr_gains H, gr_line H, gr_rows H, gr_next H, gr_held H, al_text, al_told, al_draft, al_s, al_past, al_images, al_notes, al_levels, al_row, al_reach, al_gains, al_line, al_rows, al_next, al_held, as_text, as_told, as_draft, as_s, as_past, as_images, as_notes, as_levels, as_row, as_reach, as_gains, as_line, as_rows, as_next, as_held, gi_typed, pi_typed, gi_known, pi_known, gi_kept, pi_kept, gi_noted, pi_noted, gi_at, pi_at, gd_m, to_N T, to_M T, sm_T S, sm_N S, d0, d1, sm_P S, r6.1, r4.1, r5.1, r1.1, nb_lit, nI_add, nb_sub, pk_mul, nb_lt, nb_le, nb_eq, nb_and, nb_or, nb_xor, nb_shl, nb_shl2, Option.bind_some, Option.some.injEq, Prod.mk.injEq, nI_pos, if_true, if_false, ite_true, ite_false, not_true_eq_false, not_false_eq_true, and_true, true_and, and_self, or_self, b10_0, b10_1, b01_0, b01_1, b10_o, b01_o, or_true, true_or, or_false, false_or, and_false, false_and, eq_self, Nat.reduceEqDiff, b_em, b_me, ly_m, Nat.reduceLT, Nat.reduceLeDiff, Nat.reduceAdd, Nat.reduceMul, Nat.reduceSub, Bool.false_eq_true, Nat.not_lt_zero]
  rw [if_neg c2, if_neg c2]
  by_cases c3 : x = 3
  · rw [if_pos c3, if_pos c3]
    simp (disch := omega) only [gr_text H, gr_told H, gr_draft H, gr_s H, gr_past H, gr_images H, gr_notes H, gr_levels H, gr_row H, gr_reach H, gr_gains H, gr_line H, gr_rows H, gr_next H, gr_held H, al_text, al_told, al_draft, al_s, al_past, al_images, al_notes, al_levels, al_row, al_reach, al_gains, al_line, al_rows, al_next, al_held, as_text, as_told, as_draft, as_s, as_past, as_images, as_notes, as_levels, as_row, as_reach, as_gains, as_line, as_rows, as_next, as_held, gi_typed, pi_typed, gi_known, pi_known, gi_kept, pi_kept, gi_noted, pi_noted, gi_at, pi_at, gd_m, to_N T, to_M T, sm_T S, sm_N S, d0, d1, sm_P S, r6.1, r4.1, r5.1, r1.1, nb_lit, nI_add, nb_sub, pk_mul, nb_lt, nb_le, nb_eq, nb_and, nb_or, nb_xor, nb_shl, nb_shl2, Option.bind_some, Option.some.injEq, Prod.mk.injEq, nI_pos, if_true, if_false, ite_true, ite_false, not_true_eq_false, not_false_eq_true, and_true, true_and, and_self, or_self, b10_0, b10_1, b01_0, b01_1, b10_o, b01_o, or_true, true_or, or_false, false_or, and_false, false_and, eq_self, Nat.reduceEqDiff, b_em, b_me, ly_m, Nat.reduceLT, Nat.reduceLeDiff, Nat.reduceAdd, Nat.reduceMul, Nat.reduceSub, Bool.false_eq_true, Nat.not_lt_zero]
  rw [if_neg c3, if_neg c3]
  by_cases c4 : x = 4
  · rw [if_pos c4, if_pos c4]
    simp (disch := omega) only [gr_text H, gr_told H, gr_draft H, gr_s H, gr_past H, gr_images H, gr_notes H, gr_levels H, gr_row H, gr_reach H, gr_gains H, gr_line H, gr_rows H, gr_next H, gr_held H, al_text, al_told, al_draft, al_s, al_past, al_images, al_notes, al_levels, al_row, al_reach, al_gains, al_line, al_rows, al_next, al_held, as_text, as_told, as_draft, as_s, as_past, as_images, as_notes, as_levels, as_row, as_reach, as_gains, as_line, as_rows, as_next, as_held, gi_typed, pi_typed, gi_known, pi_known, gi_kept, pi_kept, gi_noted, pi_noted, gi_at, pi_at, gd_m, to_N T, to_M T, sm_T S, sm_N S, d0, d1, sm_P S, r6.1, r4.1, r5.1, r1.1, nb_lit, nI_add, nb_sub, pk_mul, nb_lt, nb_le, nb_eq, nb_and, nb_or, nb_xor, nb_shl, nb_shl2, Option.bind_some, Option.some.injEq, Prod.mk.injEq, nI_pos, if_true, if_false, ite_true, ite_false, not_true_eq_false, not_false_eq_true, and_true, true_and, and_self, or_self, b10_0, b10_1, b01_0, b01_1, b10_o, b01_o, or_true, true_or, or_false, false_or, and_false, false_and, eq_self, Nat.reduceEqDiff, b_em, b_me, ly_m, Nat.reduceLT, Nat.reduceLeDiff, Nat.reduceAdd, Nat.reduceMul, Nat.reduceSub, Bool.false_eq_true, Nat.not_lt_zero]
  rw [if_neg c4, if_neg c4]
  by_cases c5 : x = 5
  · rw [if_pos c5, if_pos c5]
    simp (disch := omega) only [gr_text H, gr_told H, gr_draft H, gr_s H, gr_past H, gr_images H, gr_notes H, gr_levels H, gr_row H, gr_reach H, gr_gains H, gr_line H, gr_rows H, gr_next H, gr_held H, al_text, al_told, al_draft, al_s, al_past, al_images, al_notes, al_levels, al_row, al_reach, al_gains, al_line, al_rows, al_next, al_held, as_text, as_told, as_draft, as_s, as_past, as_images, as_notes, as_levels, as_row, as_reach, as_gains, as_line, as_rows, as_next, as_held, gi_typed, pi_typed, gi_known, pi_known, gi_kept, pi_kept, gi_noted, pi_noted, gi_at, pi_at, gd_m, to_N T, to_M T, sm_T S, sm_N S, d0, d1, sm_P S, r6.1, r4.1, r5.1, r1.1, nb_lit, nI_add, nb_sub, pk_mul, nb_lt, nb_le, nb_eq, nb_and, nb_or, nb_xor, nb_shl, nb_shl2, Option.bind_some, Option.some.injEq, Prod.mk.injEq, nI_pos, if_true, if_false, ite_true, ite_false, not_true_eq_false, not_false_eq_true, and_true, true_and, and_self, or_self, b10_0, b10_1, b01_0, b01_1, b10_o, b01_o, or_true, true_or, or_false, false_or, and_false, false_and, eq_self, Nat.reduceEqDiff, b_em, b_me, ly_m, Nat.reduceLT, Nat.reduceLeDiff, Nat.reduceAdd, Nat.reduceMul, Nat.reduceSub, Bool.false_eq_true, Nat.not_lt_zero]
  rw [if_neg c5, if_neg c5]
  by_cases c6 : x = 6
  · rw [if_pos c6, if_pos c6]
    simp (disch := omega) only [gr_text H, gr_told H, gr_draft H, gr_s H, gr_past H, gr_images H, gr_notes H, gr_levels H, gr_row H, gr_reach H, gr_gains H, gr_line H, gr_rows H, gr_next H, gr_held H, al_text, al_told, al_draft, al_s, al_past, al_images, al_notes, al_levels, al_row, al_reach, al_gains, al_line, al_rows, al_next, al_held, as_text, as_told, as_draft, as_s, as_past, as_images, as_notes, as_levels, as_row, as_reach, as_gains, as_line, as_rows, as_next, as_held, gi_typed, pi_typed, gi_known, pi_known, gi_kept, pi_kept, gi_noted, pi_noted, gi_at, pi_at, gd_m, to_N T, to_M T, sm_T S, sm_N S, d0, d1, sm_P S, r6.1, r4.1, r5.1, r1.1, nb_lit, nI_add, nb_sub, pk_mul, nb_lt, nb_le, nb_eq, nb_and, nb_or, nb_xor, nb_shl, nb_shl2, Option.bind_some, Option.some.injEq, Prod.mk.injEq, nI_pos, if_true, if_false, ite_true, ite_false, not_true_eq_false, not_false_eq_true, and_true, true_and, and_self, or_self, b10_0, b10_1, b01_0, b01_1, b10_o, b01_o, or_true, true_or, or_false, false_or, and_false, false_and, eq_self, Nat.reduceEqDiff, b_em, b_me, ly_m, Nat.reduceLT, Nat.reduceLeDiff, Nat.reduceAdd, Nat.reduceMul, Nat.reduceSub, Bool.false_eq_true, Nat.not_lt_zero]
  rw [if_neg c6, if_neg c6]
  by_cases c7 : x = 7
  · rw [if_pos c7, if_pos c7]
    simp (disch := omega) only [gr_text H, gr_told H, gr_draft H, gr_s H, gr_past H, gr_images H, gr_notes H, gr_levels H, gr_row H, gr_reach H, gr_gains H, gr_line H, gr_rows H, gr_next H, gr_held H, al_text, al_told, al_draft, al_s, al_past, al_images, al_notes, al_levels, al_row, al_reach, al_gains, al_line, al_rows, al_next, al_held, as_text, as_told, as_draft, as_s, as_past, as_images, as_notes, as_levels, as_row, as_reach, as_gains, as_line, as_rows, as_next, as_held, gi_typed, pi_typed, gi_known, pi_known, gi_kept, pi_kept, gi_noted, pi_noted, gi_at, pi_at, gd_m, to_N T, to_M T, sm_T S, sm_N S, d0, d1, sm_P S, r6.1, r4.1, r5.1, r1.1, nb_lit, nI_add, nb_sub, pk_mul, nb_lt, nb_le, nb_eq, nb_and, nb_or, nb_xor, nb_shl, nb_shl2, Option.bind_some, Option.some.injEq, Prod.mk.injEq, nI_pos, if_true, if_false, ite_true, ite_false, not_true_eq_false, not_false_eq_true, and_true, true_and, and_self, or_self, b10_0, b10_1, b01_0, b01_1, b10_o, b01_o, or_true, true_or, or_false, false_or, and_false, false_and, eq_self, Nat.reduceEqDiff, b_em, b_me, ly_m, Nat.reduceLT, Nat.reduceLeDiff, Nat.reduceAdd, Nat.reduceMul, Nat.reduceSub, Bool.false_eq_true, Nat.not_lt_zero]
  rw [if_neg c7, if_neg c7]
  by_cases c8 : x = 8
  · rw [if_pos c8, if_pos c8]
    simp (disch := omega) only [gr_text H, gr_told H, gr_draft H, gr_s H, gr_past H, gr_images H, gr_notes H, gr_levels H, gr_row H, gr_reach H, gr_gains H, gr_line H, gr_rows H, gr_next H, gr_held H, al_text, al_told, al_draft, al_s, al_past, al_images, al_notes, al_levels, al_row, al_reach, al_gains, al_line, al_rows, al_next, al_held, as_text, as_told, as_draft, as_s, as_past, as_images, as_notes, as_levels, as_row, as_reach, as_gains, as_line, as_rows, as_next, as_held, gi_typed, pi_typed, gi_known, pi_known, gi_kept, pi_kept, gi_noted, pi_noted, gi_at, pi_at, gd_m, to_N T, to_M T, sm_T S, sm_N S, d0, d1, sm_P S, r6.1, r4.1, r5.1, r1.1, nb_lit, nI_add, nb_sub, pk_mul, nb_lt, nb_le, nb_eq, nb_and, nb_or, nb_xor, nb_shl, nb_shl2, Option.bind_some, Option.some.injEq, Prod.mk.injEq, nI_pos, if_true, if_false, ite_true, ite_false, not_true_eq_false, not_false_eq_true, and_true, true_and, and_self, or_self, b10_0, b10_1, b01_0, b01_1, b10_o, b01_o, or_true, true_or, or_false, false_or, and_false, false_and, eq_self, Nat.reduceEqDiff, b_em, b_me, ly_m, Nat.reduceLT, Nat.reduceLeDiff, Nat.reduceAdd, Nat.reduceMul, Nat.reduceSub, Bool.false_eq_true, Nat.not_lt_zero]
  rw [if_neg c8, if_neg c8]
  by_cases c9 : x = 9
  · rw [if_pos c9, if_pos c9]
    simp (disch := omega) only [gr_text H, gr_told H, gr_draft H, gr_s H, gr_past H, gr_images H, gr_notes H, gr_levels H, gr_row H, gr_reach H, gr_gains H, gr_line H, gr_rows H, gr_next H, gr_held H, al_text, al_told, al_draft, al_s, al_past, al_images, al_notes, al_levels, al_row, al_reach, al_gains, al_line, al_rows, al_next, al_held, as_text, as_told, as_draft, as_s, as_past, as_images, as_notes, as_levels, as_row, as_reach, as_gains, as_line, as_rows, as_next, as_held, gi_typed, pi_typed, gi_known, pi_known, gi_kept, pi_kept, gi_noted, pi_noted, gi_at, pi_at, gd_m, to_N T, to_M T, sm_T S, sm_N S, d0, d1, sm_P S, r6.1, r4.1, r5.1, r1.1, nb_lit, nI_add, nb_sub, pk_mul, nb_lt, nb_le, nb_eq, nb_and, nb_or, nb_xor, nb_shl, nb_shl2, Option.bind_some, Option.some.injEq, Prod.mk.injEq, nI_pos, if_true, if_false, ite_true, ite_false, not_true_eq_false, not_false_eq_true, and_true, true_and, and_self, or_self, b10_0, b10_1, b01_0, b01_1, b10_o, b01_o, or_true, true_or, or_false, false_or, and_false, false_and, eq_self, Nat.reduceEqDiff, b_em, b_me, ly_m, Nat.reduceLT, Nat.reduceLeDiff, Nat.reduceAdd, Nat.reduceMul, Nat.reduceSub, Bool.false_eq_true, Nat.not_lt_zero]
  rw [if_neg c9, if_neg c9]
theorem mc_say (H : MR r) (R : RelM m A) (W : WFa A) (x : Int32) : MOk (f_X12_say 114 x (130, m, r)) m r (o_say A x).1 (o_say A x).2 := by
  obtain ⟨r1, T, S, r4, r5, r6⟩ := id R
  have B := W.2.1
  have F := W.2.2.1
  have hs := wf_s F
  unfold f_X12_say o_say
  by_cases hx : x < 0 ∨ nI (bN (aB A)) ≤ x
  · rw [if_pos hx]
    refine MOk.mk0 R ?_
    simp (disch := omega) only [m_noW H T B hx, nb_lit, nI_add, nb_sub, pk_mul, nb_lt, nb_le, nb_eq, nb_and, nb_or, nb_xor, nb_shl, nb_shl2, Option.bind_some, Option.some.injEq, Prod.mk.injEq, nI_pos, if_true, if_false, ite_true, ite_false, not_true_eq_false, not_false_eq_true, and_true, true_and, and_self, or_self, b10_0, b10_1, b01_0, b01_1, b10_o, b01_o, or_true, true_or, or_false, false_or, and_false, false_and, eq_self, Nat.reduceEqDiff, b_em, b_me, ly_m, Nat.reduceLT, Nat.reduceLeDiff, Nat.reduceAdd, Nat.reduceMul, Nat.reduceSub, Bool.false_eq_true, Nat.not_lt_zero]
  · rw [if_neg hx]
    obtain ⟨w, hw, rfl, e⟩ := nword B hx
    rw [e]
    by_cases hf : fitsW (aB A) (aS A) w = true
    · rw [if_pos hf]
      by_cases h12 : sN (aS A) = 12
      · rw [if_pos h12]
        refine MOk.mk0 R ?_
        simp (disch := omega) only [gr_text H, gr_told H, gr_draft H, gr_s H, gr_past H, gr_images H, gr_notes H, gr_levels H, gr_row H, gr_reach H, gr_gains H, gr_line H, gr_rows H, gr_next H, gr_held H, al_text, al_told, al_draft, al_s, al_past, al_images, al_notes, al_levels, al_row, al_reach, al_gains, al_line, al_rows, al_next, al_held, as_text, as_told, as_draft, as_s, as_past, as_images, as_notes, as_levels, as_row, as_reach, as_gains, as_line, as_rows, as_next, as_held, gi_typed, pi_typed, gi_known, pi_known, gi_kept, pi_kept, gi_noted, pi_noted, gi_at, pi_at, gd_m, m_isW H T B hw, m_maySay H T B S F hw, hf, sm_N S, h12, nb_lit, nI_add, nb_sub, pk_mul, nb_lt, nb_le, nb_eq, nb_and, nb_or, nb_xor, nb_shl, nb_shl2, Option.bind_some, Option.some.injEq, Prod.mk.injEq, nI_pos, if_true, if_false, ite_true, ite_false, not_true_eq_false, not_false_eq_true, and_true, true_and, and_self, or_self, b10_0, b10_1, b01_0, b01_1, b10_o, b01_o, or_true, true_or, or_false, false_or, and_false, false_and, eq_self, Nat.reduceEqDiff, b_em, b_me, ly_m, Nat.reduceLT, Nat.reduceLeDiff, Nat.reduceAdd, Nat.reduceMul, Nat.reduceSub, Bool.false_eq_true, Nat.not_lt_zero]
      · rw [if_neg h12]
        obtain ⟨m1, k1, k2, k3, k4⟩ := m_keeps H S hs W.2.2.2.1.1 (fun i hi => (W.2.2.2.1.2 i hi).1) r4
        have S1 : SM (m1 118) 0 (aS A) := by rw [k3 118 (by decide) (by decide)]; exact S
        obtain ⟨m2, j1, j2, j3⟩ := m_says (w := w) H S1 (by omega)
        refine ⟨m2, ?_, R.act (s := saidS (aS A) w) (U := putU (aU A) (aS A)) j2 ?_ ?_ ?_ ?_ ?_ ?_ ?_ ?_, fun a ha => ?_⟩
        · simp (disch := omega) only [gr_text H, gr_told H, gr_draft H, gr_s H, gr_past H, gr_images H, gr_notes H, gr_levels H, gr_row H, gr_reach H, gr_gains H, gr_line H, gr_rows H, gr_next H, gr_held H, al_text, al_told, al_draft, al_s, al_past, al_images, al_notes, al_levels, al_row, al_reach, al_gains, al_line, al_rows, al_next, al_held, as_text, as_told, as_draft, as_s, as_past, as_images, as_notes, as_levels, as_row, as_reach, as_gains, as_line, as_rows, as_next, as_held, gi_typed, pi_typed, gi_known, pi_known, gi_kept, pi_kept, gi_noted, pi_noted, gi_at, pi_at, gd_m, m_isW H T B hw, m_maySay H T B S F hw, hf, sm_N S, h12, k1, j1, sm_N j2, nb_lit, nI_add, nb_sub, pk_mul, nb_lt, nb_le, nb_eq, nb_and, nb_or, nb_xor, nb_shl, nb_shl2, Option.bind_some, Option.some.injEq, Prod.mk.injEq, nI_pos, if_true, if_false, ite_true, ite_false, not_true_eq_false, not_false_eq_true, and_true, true_and, and_self, or_self, b10_0, b10_1, b01_0, b01_1, b10_o, b01_o, or_true, true_or, or_false, false_or, and_false, false_and, eq_self, Nat.reduceEqDiff, b_em, b_me, ly_m, Nat.reduceLT, Nat.reduceLeDiff, Nat.reduceAdd, Nat.reduceMul, Nat.reduceSub, Bool.false_eq_true, Nat.not_lt_zero]
          rfl
        · rw [j3 114 (by decide), j3 119 (by decide)]; exact k2
        · rw [j3 _ (by decide), k3 _ (by decide) (by decide)]
        · rw [j3 _ (by decide), k3 _ (by decide) (by decide)]
        · rw [j3 _ (by decide), k3 _ (by decide) (by decide)]
        · rw [j3 _ (by decide), k3 _ (by decide) (by decide)]
        · rw [j3 _ (by decide), k4 _ (by decide)]
        · rw [j3 _ (by decide), k4 _ (by decide)]
        · rw [j3 _ (by decide), k4 _ (by decide)]
        · rw [j3 _ (by omega), k3 _ (by omega) (by omega)]
    · rw [if_neg hf]
      refine MOk.mk0 R ?_
      simp (disch := omega) only [gr_text H, gr_told H, gr_draft H, gr_s H, gr_past H, gr_images H, gr_notes H, gr_levels H, gr_row H, gr_reach H, gr_gains H, gr_line H, gr_rows H, gr_next H, gr_held H, al_text, al_told, al_draft, al_s, al_past, al_images, al_notes, al_levels, al_row, al_reach, al_gains, al_line, al_rows, al_next, al_held, as_text, as_told, as_draft, as_s, as_past, as_images, as_notes, as_levels, as_row, as_reach, as_gains, as_line, as_rows, as_next, as_held, gi_typed, pi_typed, gi_known, pi_known, gi_kept, pi_kept, gi_noted, pi_noted, gi_at, pi_at, gd_m, m_isW H T B hw, m_maySay H T B S F hw, hf, nb_lit, nI_add, nb_sub, pk_mul, nb_lt, nb_le, nb_eq, nb_and, nb_or, nb_xor, nb_shl, nb_shl2, Option.bind_some, Option.some.injEq, Prod.mk.injEq, nI_pos, if_true, if_false, ite_true, ite_false, not_true_eq_false, not_false_eq_true, and_true, true_and, and_self, or_self, b10_0, b10_1, b01_0, b01_1, b10_o, b01_o, or_true, true_or, or_false, false_or, and_false, false_and, eq_self, Nat.reduceEqDiff, b_em, b_me, ly_m, Nat.reduceLT, Nat.reduceLeDiff, Nat.reduceAdd, Nat.reduceMul, Nat.reduceSub, Bool.false_eq_true, Nat.not_lt_zero]
theorem mc_end (H : MR r) (R : RelM m A) (W : WFa A) : MOk (f_X12_end 114 (130, m, r)) m r (o_end A).1 (o_end A).2 := by
  obtain ⟨r1, T, S, r4, r5, r6⟩ := id R
  have B := W.2.1
  have F := W.2.2.1
  have hs := wf_s F
  have hc := wf_c F
  unfold f_X12_end o_end
  by_cases hf : mayEnd (aB A) (aS A) = true
  · rw [if_pos hf]
    obtain ⟨m1, k1, k2, k3, k4⟩ := m_keeps H S hs W.2.2.2.1.1 (fun i hi => (W.2.2.2.1.2 i hi).1) r4
    have S1 : SM (m1 118) 0 (aS A) := by rw [k3 118 (by decide) (by decide)]; exact S
    have T1 : TO (m1 116) (aB A) := by rw [k3 116 (by decide) (by decide)]; exact T
    obtain ⟨m2, j1, j2, j3⟩ := m_decrees (i := sC (aS A)) (v := sumW (aB A) (sW (aS A)) (sN (aS A))) H S1 hs hc
    refine ⟨m2, ?_, R.act (s := decS (aS A) (sC (aS A)) (sumW (aB A) (sW (aS A)) (sN (aS A)))) (U := putU (aU A) (aS A)) j2 ?_ ?_ ?_ ?_ ?_ ?_ ?_ ?_, fun a ha => ?_⟩
    · simp (disch := omega) only [gr_text H, gr_told H, gr_draft H, gr_s H, gr_past H, gr_images H, gr_notes H, gr_levels H, gr_row H, gr_reach H, gr_gains H, gr_line H, gr_rows H, gr_next H, gr_held H, al_text, al_told, al_draft, al_s, al_past, al_images, al_notes, al_levels, al_row, al_reach, al_gains, al_line, al_rows, al_next, al_held, as_text, as_told, as_draft, as_s, as_past, as_images, as_notes, as_levels, as_row, as_reach, as_gains, as_line, as_rows, as_next, as_held, gi_typed, pi_typed, gi_known, pi_known, gi_kept, pi_kept, gi_noted, pi_noted, gi_at, pi_at, gd_m, m_mayEnd H T B S F, hf, k1, m_worth H T1 B S1 F, sm_C S1, j1, nb_lit, nI_add, nb_sub, pk_mul, nb_lt, nb_le, nb_eq, nb_and, nb_or, nb_xor, nb_shl, nb_shl2, Option.bind_some, Option.some.injEq, Prod.mk.injEq, nI_pos, if_true, if_false, ite_true, ite_false, not_true_eq_false, not_false_eq_true, and_true, true_and, and_self, or_self, b10_0, b10_1, b01_0, b01_1, b10_o, b01_o, or_true, true_or, or_false, false_or, and_false, false_and, eq_self, Nat.reduceEqDiff, b_em, b_me, ly_m, Nat.reduceLT, Nat.reduceLeDiff, Nat.reduceAdd, Nat.reduceMul, Nat.reduceSub, Bool.false_eq_true, Nat.not_lt_zero]
    · rw [j3 114 (by decide), j3 119 (by decide)]; exact k2
    · rw [j3 _ (by decide), k3 _ (by decide) (by decide)]
    · rw [j3 _ (by decide), k3 _ (by decide) (by decide)]
    · rw [j3 _ (by decide), k3 _ (by decide) (by decide)]
    · rw [j3 _ (by decide), k3 _ (by decide) (by decide)]
    · rw [j3 _ (by decide), k4 _ (by decide)]
    · rw [j3 _ (by decide), k4 _ (by decide)]
    · rw [j3 _ (by decide), k4 _ (by decide)]
    · rw [j3 _ (by omega), k3 _ (by omega) (by omega)]
  · rw [if_neg hf]
    refine MOk.mk0 R ?_
    simp (disch := omega) only [gr_text H, gr_told H, gr_draft H, gr_s H, gr_past H, gr_images H, gr_notes H, gr_levels H, gr_row H, gr_reach H, gr_gains H, gr_line H, gr_rows H, gr_next H, gr_held H, al_text, al_told, al_draft, al_s, al_past, al_images, al_notes, al_levels, al_row, al_reach, al_gains, al_line, al_rows, al_next, al_held, as_text, as_told, as_draft, as_s, as_past, as_images, as_notes, as_levels, as_row, as_reach, as_gains, as_line, as_rows, as_next, as_held, gi_typed, pi_typed, gi_known, pi_known, gi_kept, pi_kept, gi_noted, pi_noted, gi_at, pi_at, gd_m, m_mayEnd H T B S F, hf, nb_lit, nI_add, nb_sub, pk_mul, nb_lt, nb_le, nb_eq, nb_and, nb_or, nb_xor, nb_shl, nb_shl2, Option.bind_some, Option.some.injEq, Prod.mk.injEq, nI_pos, if_true, if_false, ite_true, ite_false, not_true_eq_false, not_false_eq_true, and_true, true_and, and_self, or_self, b10_0, b10_1, b01_0, b01_1, b10_o, b01_o, or_true, true_or, or_false, false_or, and_false, false_and, eq_self, Nat.reduceEqDiff, b_em, b_me, ly_m, Nat.reduceLT, Nat.reduceLeDiff, Nat.reduceAdd, Nat.reduceMul, Nat.reduceSub, Bool.false_eq_true, Nat.not_lt_zero]
theorem mc_finish (H : MR r) (R : RelM m A) (W : WFa A) : MOk (f_X12_finish 114 (130, m, r)) m r (o_finish A).1 (o_finish A).2 := by
  obtain ⟨r1, T, S, r4, r5, r6⟩ := id R
  have B := W.2.1
  have F := W.2.2.1
  have hs := wf_s F
  have h4 := finNow_le (s := aS A) B
  obtain ⟨m1, e1, e2, e3⟩ := m_fnow H T B S F
  unfold f_X12_finish o_finish
  by_cases hf : finNow (aB A) (aS A) = 0
  · rw [if_pos hf]
    refine ⟨m1, ?_, R.same (fun a h1 h2 => e3 a (by omega) (by omega)), fun a ha => e3 a (by omega) (by omega)⟩
    simp (disch := omega) only [gr_text H, gr_told H, gr_draft H, gr_s H, gr_past H, gr_images H, gr_notes H, gr_levels H, gr_row H, gr_reach H, gr_gains H, gr_line H, gr_rows H, gr_next H, gr_held H, al_text, al_told, al_draft, al_s, al_past, al_images, al_notes, al_levels, al_row, al_reach, al_gains, al_line, al_rows, al_next, al_held, as_text, as_told, as_draft, as_s, as_past, as_images, as_notes, as_levels, as_row, as_reach, as_gains, as_line, as_rows, as_next, as_held, gi_typed, pi_typed, gi_known, pi_known, gi_kept, pi_kept, gi_noted, pi_noted, gi_at, pi_at, gd_m, e1, hf, nb_lit, nI_add, nb_sub, pk_mul, nb_lt, nb_le, nb_eq, nb_and, nb_or, nb_xor, nb_shl, nb_shl2, Option.bind_some, Option.some.injEq, Prod.mk.injEq, nI_pos, if_true, if_false, ite_true, ite_false, not_true_eq_false, not_false_eq_true, and_true, true_and, and_self, or_self, b10_0, b10_1, b01_0, b01_1, b10_o, b01_o, or_true, true_or, or_false, false_or, and_false, false_and, eq_self, Nat.reduceEqDiff, b_em, b_me, ly_m, Nat.reduceLT, Nat.reduceLeDiff, Nat.reduceAdd, Nat.reduceMul, Nat.reduceSub, Bool.false_eq_true, Nat.not_lt_zero]
  · rw [if_neg hf]
    have S1 : SM (m1 118) 0 (aS A) := by rw [e3 118 (by decide) (by decide)]; exact S
    have P1 : m1 114 6 = nI (aU A).1 ∧ ∀ i, i < (aU A).1 → SM (m1 119) (22 * i) ((aU A).2 i) := by rw [e3 114 (by decide) (by decide), e3 119 (by decide) (by decide)]; exact r4
    obtain ⟨m2, k1, k2, k3, k4⟩ := m_keeps H S1 hs W.2.2.2.1.1 (fun i hi => (W.2.2.2.1.2 i hi).1) P1
    have S2 : SM (m2 118) 0 (aS A) := by rw [k3 118 (by decide) (by decide)]; exact S1
    have T2 : TO (m2 116) (aB A) := by rw [k3 116 (by decide) (by decide), e3 116 (by decide) (by decide)]; exact T
    obtain ⟨m3, j1, j2, j3⟩ := m_ends H T2 B S2 F
    refine ⟨m3, ?_, R.act (s := passS (aB A) (aS A)) (U := putU (aU A) (aS A)) j2 ?_ ?_ ?_ ?_ ?_ ?_ ?_ ?_, fun a ha => ?_⟩
    · simp (disch := omega) only [gr_text H, gr_told H, gr_draft H, gr_s H, gr_past H, gr_images H, gr_notes H, gr_levels H, gr_row H, gr_reach H, gr_gains H, gr_line H, gr_rows H, gr_next H, gr_held H, al_text, al_told, al_draft, al_s, al_past, al_images, al_notes, al_levels, al_row, al_reach, al_gains, al_line, al_rows, al_next, al_held, as_text, as_told, as_draft, as_s, as_past, as_images, as_notes, as_levels, as_row, as_reach, as_gains, as_line, as_rows, as_next, as_held, gi_typed, pi_typed, gi_known, pi_known, gi_kept, pi_kept, gi_noted, pi_noted, gi_at, pi_at, gd_m, e1, hf, k1, j1, nb_lit, nI_add, nb_sub, pk_mul, nb_lt, nb_le, nb_eq, nb_and, nb_or, nb_xor, nb_shl, nb_shl2, Option.bind_some, Option.some.injEq, Prod.mk.injEq, nI_pos, if_true, if_false, ite_true, ite_false, not_true_eq_false, not_false_eq_true, and_true, true_and, and_self, or_self, b10_0, b10_1, b01_0, b01_1, b10_o, b01_o, or_true, true_or, or_false, false_or, and_false, false_and, eq_self, Nat.reduceEqDiff, b_em, b_me, ly_m, Nat.reduceLT, Nat.reduceLeDiff, Nat.reduceAdd, Nat.reduceMul, Nat.reduceSub, Bool.false_eq_true, Nat.not_lt_zero]
    · rw [j3 114 (by decide) (by decide) (by decide), j3 119 (by decide) (by decide) (by decide)]; exact k2
    · rw [j3 _ (by decide) (by decide) (by decide), k3 _ (by decide) (by decide), e3 _ (by decide) (by decide)]
    · rw [j3 _ (by decide) (by decide) (by decide), k3 _ (by decide) (by decide), e3 _ (by decide) (by decide)]
    · rw [j3 _ (by decide) (by decide) (by decide), k3 _ (by decide) (by decide), e3 _ (by decide) (by decide)]
    · rw [j3 _ (by decide) (by decide) (by decide), k3 _ (by decide) (by decide), e3 _ (by decide) (by decide)]
    · rw [j3 _ (by decide) (by decide) (by decide), k4 _ (by decide), e3 _ (by decide) (by decide)]
    · rw [j3 _ (by decide) (by decide) (by decide), k4 _ (by decide), e3 _ (by decide) (by decide)]
    · rw [j3 _ (by decide) (by decide) (by decide), k4 _ (by decide), e3 _ (by decide) (by decide)]
    · rw [j3 _ (by omega) (by omega) (by omega), k3 _ (by omega) (by omega), e3 _ (by omega) (by omega)]
end M5
