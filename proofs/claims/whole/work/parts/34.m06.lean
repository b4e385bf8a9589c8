/-! the reference: more calls -/
section M6
variable {m m' : Nat → Nat → Int32} {r : Nat → Nat → Option Nat} {A : Ab} {s : St}
theorem m_drops (H : MR r) (S : SM (m 118) 0 s) : ∃ m', f_X12_drops 114 (130, m, r) = some (130, m', r) ∧ SM (m' 118) 0 (dropS s) ∧ ∀ a, a ≠ 118 → m' a = m a := by
  unfold f_X12_drops
  simp (disch := omega) only [gr_text H, gr_told H, gr_draft H, gr_s H, gr_past H, gr_images H, gr_notes H, gr_levels H, gr_row H, gr_reach H, gr_gains H, gr_line H, gr_rows H, gr_next H, gr_held H, al_text, al_told, al_draft, al_s, al_past, al_images, al_notes, al_levels, al_row, al_reach, al_gains, al_line, al_rows, al_next, al_held, as_text, as_told, as_draft, as_s, as_past, as_images, as_notes, as_levels, as_row, as_reach, as_gains, as_line, as_rows, as_next, as_held, gi_typed, pi_typed, gi_known, pi_known, gi_kept, pi_kept, gi_noted, pi_noted, gi_at, pi_at, gd_m, sm_T S, nb_lit, nI_add, nb_sub, pk_mul, nb_lt, nb_le, nb_eq, nb_and, nb_or, nb_xor, nb_shl, nb_shl2, Option.bind_some, Option.some.injEq, Prod.mk.injEq, nI_pos, if_true, if_false, ite_true, ite_false, not_true_eq_false, not_false_eq_true, and_true, true_and, and_self, or_self, b10_0, b10_1, b01_0, b01_1, b10_o, b01_o, or_true, true_or, or_false, false_or, and_false, false_and, eq_self, Nat.reduceEqDiff, b_em, b_me, ly_m, Nat.reduceLT, Nat.reduceLeDiff, Nat.reduceAdd, Nat.reduceMul, Nat.reduceSub, Bool.false_eq_true, Nat.not_lt_zero, hb_up_same, hb_up_ne, ne_eq]
  refine ⟨_, rfl, ?_, fun a ha => ?_⟩
  · obtain ⟨h1, h2, h3, h4, h5, h6⟩ := S
    simp only [Nat.zero_add] at h1 h2 h3 h4 h5 h6
    refine ⟨fun j hj => absurd hj (Nat.not_lt_zero j), ?_, ?_, ?_, fun j hj => ⟨?_, ?_, ?_⟩, ?_⟩
    · simp (disch := omega) only [Nat.zero_add, hb_up_same, hb_up_ne, ne_eq]
      rfl
    · simp (disch := omega) only [Nat.zero_add, hb_up_same, hb_up_ne, ne_eq]
      exact h3
    · simp (disch := omega) only [Nat.zero_add, hb_up_same, hb_up_ne, ne_eq]
      rfl
    · simp (disch := omega) only [Nat.zero_add, hb_up_same, hb_up_ne, ne_eq]
      exact (h5 j hj).1
    · simp (disch := omega) only [Nat.zero_add, hb_up_same, hb_up_ne, ne_eq]
      exact (h5 j hj).2.1
    · simp (disch := omega) only [Nat.zero_add, hb_up_same, hb_up_ne, ne_eq]
      exact (h5 j hj).2.2
    · simp (disch := omega) only [Nat.zero_add, hb_up_same, hb_up_ne, ne_eq]
      exact h6
  · funext j
    simp (disch := omega) only [hb_up_same, hb_up_ne, ne_eq]
theorem mc_drop (H : MR r) (R : RelM m A) (W : WFa A) : MOk (f_X12_drop 114 (130, m, r)) m r (o_drop A).1 (o_drop A).2 := by
  obtain ⟨r1, T, S, r4, r5, r6⟩ := id R
  have B := W.2.1
  have F := W.2.2.1
  have hs := wf_s F
  unfold f_X12_drop o_drop
  by_cases hf : sN (aS A) = 0
  · rw [if_pos hf]
    refine MOk.mk0 R ?_
    simp (disch := omega) only [gr_text H, gr_told H, gr_draft H, gr_s H, gr_past H, gr_images H, gr_notes H, gr_levels H, gr_row H, gr_reach H, gr_gains H, gr_line H, gr_rows H, gr_next H, gr_held H, al_text, al_told, al_draft, al_s, al_past, al_images, al_notes, al_levels, al_row, al_reach, al_gains, al_line, al_rows, al_next, al_held, as_text, as_told, as_draft, as_s, as_past, as_images, as_notes, as_levels, as_row, as_reach, as_gains, as_line, as_rows, as_next, as_held, gi_typed, pi_typed, gi_known, pi_known, gi_kept, pi_kept, gi_noted, pi_noted, gi_at, pi_at, gd_m, sm_N S, hf, nb_lit, nI_add, nb_sub, pk_mul, nb_lt, nb_le, nb_eq, nb_and, nb_or, nb_xor, nb_shl, nb_shl2, Option.bind_some, Option.some.injEq, Prod.mk.injEq, nI_pos, if_true, if_false, ite_true, ite_false, not_true_eq_false, not_false_eq_true, and_true, true_and, and_self, or_self, b10_0, b10_1, b01_0, b01_1, b10_o, b01_o, or_true, true_or, or_false, false_or, and_false, false_and, eq_self, Nat.reduceEqDiff, b_em, b_me, ly_m, Nat.reduceLT, Nat.reduceLeDiff, Nat.reduceAdd, Nat.reduceMul, Nat.reduceSub, Bool.false_eq_true, Nat.not_lt_zero]
  · rw [if_neg hf]
    obtain ⟨m1, k1, k2, k3, k4⟩ := m_keeps H S hs W.2.2.2.1.1 (fun i hi => (W.2.2.2.1.2 i hi).1) r4
    have S1 : SM (m1 118) 0 (aS A) := by rw [k3 118 (by decide) (by decide)]; exact S
    obtain ⟨m2, j1, j2, j3⟩ := m_drops H S1
    refine ⟨m2, ?_, R.act (s := dropS (aS A)) (U := putU (aU A) (aS A)) j2 ?_ ?_ ?_ ?_ ?_ ?_ ?_ ?_, fun a ha => ?_⟩
    · simp (disch := omega) only [gr_text H, gr_told H, gr_draft H, gr_s H, gr_past H, gr_images H, gr_notes H, gr_levels H, gr_row H, gr_reach H, gr_gains H, gr_line H, gr_rows H, gr_next H, gr_held H, al_text, al_told, al_draft, al_s, al_past, al_images, al_notes, al_levels, al_row, al_reach, al_gains, al_line, al_rows, al_next, al_held, as_text, as_told, as_draft, as_s, as_past, as_images, as_notes, as_levels, as_row, as_reach, as_gains, as_line, as_rows, as_next, as_held, gi_typed, pi_typed, gi_known, pi_known, gi_kept, pi_kept, gi_noted, pi_noted, gi_at, pi_at, gd_m, sm_N S, hf, k1, sm_N S1, j1, nb_lit, nI_add, nb_sub, pk_mul, nb_lt, nb_le, nb_eq, nb_and, nb_or, nb_xor, nb_shl, nb_shl2, Option.bind_some, Option.some.injEq, Prod.mk.injEq, nI_pos, if_true, if_false, ite_true, ite_false, not_true_eq_false, not_false_eq_true, and_true, true_and, and_self, or_self, b10_0, b10_1, b01_0, b01_1, b10_o, b01_o, or_true, true_or, or_false, false_or, and_false, false_and, eq_self, Nat.reduceEqDiff, b_em, b_me, ly_m, Nat.reduceLT, Nat.reduceLeDiff, Nat.reduceAdd, Nat.reduceMul, Nat.reduceSub, Bool.false_eq_true, Nat.not_lt_zero]
    · rw [j3 114 (by decide), j3 119 (by decide)]; exact k2
    · rw [j3 _ (by decide), k3 _ (by decide) (by decide)]
    · rw [j3 _ (by decide), k3 _ (by decide) (by decide)]
    · rw [j3 _ (by decide), k3 _ (by decide) (by decide)]
    · rw [j3 _ (by decide), k3 _ (by decide) (by decide)]
    · rw [j3 _ (by decide), k4 _ (by decide)]
    · rw [j3 _ (by decide), k4 _ (by decide)]
    · rw [j3 _ (by decide), k4 _ (by decide)]
    · rw [j3 _ (by omega), k3 _ (by omega) (by omega)]
theorem mc_learn (H : MR r) (R : RelM m A) (W : WFa A) (x y : Int32) : MOk (f_X12_learn 114 x y (130, m, r)) m r (o_learn A x y).1 (o_learn A x y).2 := by
  obtain ⟨r1, T, S, r4, r5, r6⟩ := id R
  have B := W.2.1
  have F := W.2.2.1
  have hs := wf_s F
  have hn := wf_N B
  unfold f_X12_learn o_learn
  rw [mb_in]
  by_cases hx : x < 0 ∨ 1 < x
  · rw [if_pos hx, if_pos (Or.inl hx)]
    refine MOk.mk0 R ?_
    simp (disch := omega) only [nb_lit, nI_add, nb_sub, pk_mul, nb_lt, nb_le, nb_eq, nb_and, nb_or, nb_xor, nb_shl, nb_shl2, Option.bind_some, Option.some.injEq, Prod.mk.injEq, nI_pos, if_true, if_false, ite_true, ite_false, not_true_eq_false, not_false_eq_true, and_true, true_and, and_self, or_self, b10_0, b10_1, b01_0, b01_1, b10_o, b01_o, or_true, true_or, or_false, false_or, and_false, false_and, eq_self, Nat.reduceEqDiff, b_em, b_me, ly_m, Nat.reduceLT, Nat.reduceLeDiff, Nat.reduceAdd, Nat.reduceMul, Nat.reduceSub, Bool.false_eq_true, Nat.not_lt_zero]
  · rw [if_neg hx]
    obtain ⟨i, hi, rfl, ei⟩ := mayor_or hx
    by_cases hy : y < 0 ∨ nI (bN (aB A)) ≤ y
    · rw [if_pos (Or.inr hy)]
      refine MOk.mk0 R ?_
      simp (disch := omega) only [m_noW H T B hy, nb_lit, nI_add, nb_sub, pk_mul, nb_lt, nb_le, nb_eq, nb_and, nb_or, nb_xor, nb_shl, nb_shl2, Option.bind_some, Option.some.injEq, Prod.mk.injEq, nI_pos, if_true, if_false, ite_true, ite_false, not_true_eq_false, not_false_eq_true, and_true, true_and, and_self, or_self, b10_0, b10_1, b01_0, b01_1, b10_o, b01_o, or_true, true_or, or_false, false_or, and_false, false_and, eq_self, Nat.reduceEqDiff, b_em, b_me, ly_m, Nat.reduceLT, Nat.reduceLeDiff, Nat.reduceAdd, Nat.reduceMul, Nat.reduceSub, Bool.false_eq_true, Nat.not_lt_zero]
    · rw [if_neg (not_or.mpr ⟨hx, hy⟩)]
      obtain ⟨w, hw, rfl, e⟩ := nword B hy
      rw [e, ei]
      obtain ⟨m1, k1, k2, k3, k4⟩ := m_keeps H S hs W.2.2.2.1.1 (fun i hi => (W.2.2.2.1.2 i hi).1) r4
      have S1 : SM (m1 118) 0 (aS A) := by rw [k3 118 (by decide) (by decide)]; exact S
      have hY := wf_y B F hi
      have hX : sY (aS A) i ^^^ 2 ^ w < 1024 := lt1024 (Nat.xor_lt_two_pow (F.2.2.1 i hi) (bit_lt hw)) hn.2
      refine ⟨mx_up m1 118 (19 + i) (nI (sY (aS A) i ^^^ 2 ^ w)), ?_, R.act (s := learnS (aS A) i w) (U := putU (aU A) (aS A)) ?_ ?_ ?_ ?_ ?_ ?_ ?_ ?_ ?_, fun a ha => ?_⟩
      · simp (disch := omega) only [gr_text H, gr_told H, gr_draft H, gr_s H, gr_past H, gr_images H, gr_notes H, gr_levels H, gr_row H, gr_reach H, gr_gains H, gr_line H, gr_rows H, gr_next H, gr_held H, al_text, al_told, al_draft, al_s, al_past, al_images, al_notes, al_levels, al_row, al_reach, al_gains, al_line, al_rows, al_next, al_held, as_text, as_told, as_draft, as_s, as_past, as_images, as_notes, as_levels, as_row, as_reach, as_gains, as_line, as_rows, as_next, as_held, gi_typed, pi_typed, gi_known, pi_known, gi_kept, pi_kept, gi_noted, pi_noted, gi_at, pi_at, gd_m, m_isW H T B hw, k1, sm_Y S1 hi, mb_has, nb_lit, nI_add, nb_sub, pk_mul, nb_lt, nb_le, nb_eq, nb_and, nb_or, nb_xor, nb_shl, nb_shl2, Option.bind_some, Option.some.injEq, Prod.mk.injEq, nI_pos, if_true, if_false, ite_true, ite_false, not_true_eq_false, not_false_eq_true, and_true, true_and, and_self, or_self, b10_0, b10_1, b01_0, b01_1, b10_o, b01_o, or_true, true_or, or_false, false_or, and_false, false_and, eq_self, Nat.reduceEqDiff, b_em, b_me, ly_m, Nat.reduceLT, Nat.reduceLeDiff, Nat.reduceAdd, Nat.reduceMul, Nat.reduceSub, Bool.false_eq_true, Nat.not_lt_zero, hb_up_same, hb_up_ne, ne_eq]
        by_cases ht : (sY (aS A) i ^^^ 2 ^ w).testBit w = true
        · simp (disch := omega) only [ht, nb_lit, nI_add, nb_sub, pk_mul, nb_lt, nb_le, nb_eq, nb_and, nb_or, nb_xor, nb_shl, nb_shl2, Option.bind_some, Option.some.injEq, Prod.mk.injEq, nI_pos, if_true, if_false, ite_true, ite_false, not_true_eq_false, not_false_eq_true, and_true, true_and, and_self, or_self, b10_0, b10_1, b01_0, b01_1, b10_o, b01_o, or_true, true_or, or_false, false_or, and_false, false_and, eq_self, Nat.reduceEqDiff, b_em, b_me, ly_m, Nat.reduceLT, Nat.reduceLeDiff, Nat.reduceAdd, Nat.reduceMul, Nat.reduceSub, Bool.false_eq_true, Nat.not_lt_zero]
        · simp (disch := omega) only [ht, nb_lit, nI_add, nb_sub, pk_mul, nb_lt, nb_le, nb_eq, nb_and, nb_or, nb_xor, nb_shl, nb_shl2, Option.bind_some, Option.some.injEq, Prod.mk.injEq, nI_pos, if_true, if_false, ite_true, ite_false, not_true_eq_false, not_false_eq_true, and_true, true_and, and_self, or_self, b10_0, b10_1, b01_0, b01_1, b10_o, b01_o, or_true, true_or, or_false, false_or, and_false, false_and, eq_self, Nat.reduceEqDiff, b_em, b_me, ly_m, Nat.reduceLT, Nat.reduceLeDiff, Nat.reduceAdd, Nat.reduceMul, Nat.reduceSub, Bool.false_eq_true, Nat.not_lt_zero]
      · obtain ⟨h1, h2, h3, h4, h5, h6⟩ := S1
        simp only [Nat.zero_add] at h1 h2 h3 h4 h5 h6
        refine ⟨fun j hj => ?_, ?_, ?_, ?_, fun j hj => ⟨?_, ?_, ?_⟩, ?_⟩
        · have hj : j < sN (aS A) := hj
          simp (disch := omega) only [Nat.zero_add, hb_up_same, hb_up_ne, ne_eq]
          exact h1 j hj
        · simp (disch := omega) only [Nat.zero_add, hb_up_same, hb_up_ne, ne_eq]
          exact h2
        · simp (disch := omega) only [Nat.zero_add, hb_up_same, hb_up_ne, ne_eq]
          exact h3
        · simp (disch := omega) only [Nat.zero_add, hb_up_same, hb_up_ne, ne_eq]
          exact h4
        · simp (disch := omega) only [Nat.zero_add, hb_up_same, hb_up_ne, ne_eq]
          exact (h5 j hj).1
        · simp (disch := omega) only [Nat.zero_add, hb_up_same, hb_up_ne, ne_eq]
          exact (h5 j hj).2.1
        · show _ = nI (if j = i then sY (aS A) j ^^^ 2 ^ w else sY (aS A) j)
          by_cases he : j = i
          · subst he
            simp (disch := omega) only [Nat.zero_add, hb_up_same, hb_up_ne, ne_eq, if_true]
          · simp (disch := omega) only [Nat.zero_add, hb_up_same, hb_up_ne, ne_eq, if_neg he]
            exact (h5 j hj).2.2
        · simp (disch := omega) only [Nat.zero_add, hb_up_same, hb_up_ne, ne_eq]
          exact h6
      · have e1 : (mx_up m1 118 (19 + i) (nI (sY (aS A) i ^^^ 2 ^ w))) 114 = m1 114 := by funext j; simp (disch := omega) only [hb_up_same, hb_up_ne, ne_eq]
        have e2 : (mx_up m1 118 (19 + i) (nI (sY (aS A) i ^^^ 2 ^ w))) 119 = m1 119 := by funext j; simp (disch := omega) only [hb_up_same, hb_up_ne, ne_eq]
        rw [e1, e2]; exact k2
      · funext j; simp (disch := omega) only [hb_up_same, hb_up_ne, ne_eq]; rw [k3 _ (by decide) (by decide)]
      · funext j; simp (disch := omega) only [hb_up_same, hb_up_ne, ne_eq]; rw [k3 _ (by decide) (by decide)]
      · funext j; simp (disch := omega) only [hb_up_same, hb_up_ne, ne_eq]; rw [k3 _ (by decide) (by decide)]
      · funext j; simp (disch := omega) only [hb_up_same, hb_up_ne, ne_eq]; rw [k3 _ (by decide) (by decide)]
      · simp (disch := omega) only [hb_up_same, hb_up_ne, ne_eq]; rw [k4 _ (by decide)]
      · simp (disch := omega) only [hb_up_same, hb_up_ne, ne_eq]; rw [k4 _ (by decide)]
      · simp (disch := omega) only [hb_up_same, hb_up_ne, ne_eq]; rw [k4 _ (by decide)]
      · funext j; simp (disch := omega) only [hb_up_same, hb_up_ne, ne_eq]; rw [k3 _ (by omega) (by omega)]
theorem mc_undo (H : MR r) (R : RelM m A) (W : WFa A) : MOk (f_X12_undo 114 (130, m, r)) m r (o_undo A).1 (o_undo A).2 := by
  obtain ⟨r1, T, S, r4, r5, r6⟩ := id R
  have hU := W.2.2.2.1.1
  unfold f_X12_undo o_undo
  by_cases hf : (aU A).1 = 0
  · rw [if_pos hf]
    refine MOk.mk0 R ?_
    simp (disch := omega) only [gr_text H, gr_told H, gr_draft H, gr_s H, gr_past H, gr_images H, gr_notes H, gr_levels H, gr_row H, gr_reach H, gr_gains H, gr_line H, gr_rows H, gr_next H, gr_held H, al_text, al_told, al_draft, al_s, al_past, al_images, al_notes, al_levels, al_row, al_reach, al_gains, al_line, al_rows, al_next, al_held, as_text, as_told, as_draft, as_s, as_past, as_images, as_notes, as_levels, as_row, as_reach, as_gains, as_line, as_rows, as_next, as_held, gi_typed, pi_typed, gi_known, pi_known, gi_kept, pi_kept, gi_noted, pi_noted, gi_at, pi_at, gd_m, r4.1, hf, nb_lit, nI_add, nb_sub, pk_mul, nb_lt, nb_le, nb_eq, nb_and, nb_or, nb_xor, nb_shl, nb_shl2, Option.bind_some, Option.some.injEq, Prod.mk.injEq, nI_pos, if_true, if_false, ite_true, ite_false, not_true_eq_false, not_false_eq_true, and_true, true_and, and_self, or_self, b10_0, b10_1, b01_0, b01_1, b10_o, b01_o, or_true, true_or, or_false, false_or, and_false, false_and, eq_self, Nat.reduceEqDiff, b_em, b_me, ly_m, Nat.reduceLT, Nat.reduceLeDiff, Nat.reduceAdd, Nat.reduceMul, Nat.reduceSub, Bool.false_eq_true, Nat.not_lt_zero]
  · rw [if_neg hf]
    simp (disch := omega) only [gr_text H, gr_told H, gr_draft H, gr_s H, gr_past H, gr_images H, gr_notes H, gr_levels H, gr_row H, gr_reach H, gr_gains H, gr_line H, gr_rows H, gr_next H, gr_held H, al_text, al_told, al_draft, al_s, al_past, al_images, al_notes, al_levels, al_row, al_reach, al_gains, al_line, al_rows, al_next, al_held, as_text, as_told, as_draft, as_s, as_past, as_images, as_notes, as_levels, as_row, as_reach, as_gains, as_line, as_rows, as_next, as_held, gi_typed, pi_typed, gi_known, pi_known, gi_kept, pi_kept, gi_noted, pi_noted, gi_at, pi_at, gd_m, r4.1, hf, nb_lit, nI_add, nb_sub, pk_mul, nb_lt, nb_le, nb_eq, nb_and, nb_or, nb_xor, nb_shl, nb_shl2, Option.bind_some, Option.some.injEq, Prod.mk.injEq, nI_pos, if_true, if_false, ite_true, ite_false, not_true_eq_false, not_false_eq_true, and_true, true_and, and_self, or_self, b10_0, b10_1, b01_0, b01_1, b10_o, b01_o, or_true, true_or, or_false, false_or, and_false, false_and, eq_self, Nat.reduceEqDiff, b_em, b_me, ly_m, Nat.reduceLT, Nat.reduceLeDiff, Nat.reduceAdd, Nat.reduceMul, Nat.reduceSub, Bool.false_eq_true, Nat.not_lt_zero]
    have h6 : (mx_up m 114 6 (nI ((aU A).1 - 1))) 114 6 = nI ((aU A).1 - 1) := hb_up_same
    generalize hm1 : mx_up m 114 6 (nI ((aU A).1 - 1)) = m1 at h6 ⊢
    have k3 : ∀ a, a ≠ 114 → m1 a = m a := by intro a ha; subst hm1; funext j; simp (disch := omega) only [hb_up_same, hb_up_ne, ne_eq]
    have k4 : ∀ j, j ≠ 6 → m1 114 j = m 114 j := by intro j hj; subst hm1; simp (disch := omega) only [hb_up_same, hb_up_ne, ne_eq]
    have key := fix_up (F := f_X12_undo_L22 114) (fun i => (nI i, (130, cpy m1 118 0 (fun j => m1 119 (22 * ((aU A).1 - 1) + j)) i, r))) 22 (y := some (nI ((aU A).1 - 1), (130, cpy m1 118 0 (fun j => m1 119 (22 * ((aU A).1 - 1) + j)) 22, r))) (fun i hi self => ?_) (fun self => ?_) (fuel := 2000) (by omega)
    · simp only [cpy_0] at key
      refine ⟨_, key, R.act (s := (aU A).2 ((aU A).1 - 1)) (U := ((aU A).1 - 1, (aU A).2)) ?_ ⟨?_, fun i hi => ?_⟩ ?_ ?_ ?_ ?_ ?_ ?_ ?_, fun a ha => ?_⟩
      · refine (r4.2 ((aU A).1 - 1) (by omega)).congr (W.2.2.2.1.2 _ (by omega)).1 (fun k hk => ?_)
        rw [cpy_in (by omega) (by omega), k3 119 (by decide), show 0 + k - 0 = k by omega]
      · rw [cpy_out (by omega)]; exact h6
      · have hi : i < (aU A).1 - 1 := hi
        refine (r4.2 i (by omega)).congr (W.2.2.2.1.2 _ (by omega)).1 (fun k hk => ?_)
        rw [cpy_out (by omega), k3 119 (by decide)]
      · funext j; rw [cpy_out (by omega), k3 _ (by decide)]
      · funext j; rw [cpy_out (by omega), k3 _ (by decide)]
      · funext j; rw [cpy_out (by omega), k3 _ (by decide)]
      · funext j; rw [cpy_out (by omega), k3 _ (by decide)]
      · rw [cpy_out (by omega), k4 _ (by decide)]
      · rw [cpy_out (by omega), k4 _ (by decide)]
      · rw [cpy_out (by omega), k4 _ (by decide)]
      · funext j; rw [cpy_out (by omega), k3 _ (by omega)]
    · unfold f_X12_undo_L22
      simp (disch := omega) only [gr_text H, gr_told H, gr_draft H, gr_s H, gr_past H, gr_images H, gr_notes H, gr_levels H, gr_row H, gr_reach H, gr_gains H, gr_line H, gr_rows H, gr_next H, gr_held H, al_text, al_told, al_draft, al_s, al_past, al_images, al_notes, al_levels, al_row, al_reach, al_gains, al_line, al_rows, al_next, al_held, as_text, as_told, as_draft, as_s, as_past, as_images, as_notes, as_levels, as_row, as_reach, as_gains, as_line, as_rows, as_next, as_held, gi_typed, pi_typed, gi_known, pi_known, gi_kept, pi_kept, gi_noted, pi_noted, gi_at, pi_at, gd_m, h6, nb_lit, nI_add, nb_sub, pk_mul, nb_lt, nb_le, nb_eq, nb_and, nb_or, nb_xor, nb_shl, nb_shl2, Option.bind_some, Option.some.injEq, Prod.mk.injEq, nI_pos, if_true, if_false, ite_true, ite_false, not_true_eq_false, not_false_eq_true, and_true, true_and, and_self, or_self, b10_0, b10_1, b01_0, b01_1, b10_o, b01_o, or_true, true_or, or_false, false_or, and_false, false_and, eq_self, Nat.reduceEqDiff, b_em, b_me, ly_m, Nat.reduceLT, Nat.reduceLeDiff, Nat.reduceAdd, Nat.reduceMul, Nat.reduceSub, Bool.false_eq_true, Nat.not_lt_zero, cpy_out]
      rw [if_neg (by omega)]
      have := @cpy_s m1 118 0 i (fun j => m1 119 (22 * ((aU A).1 - 1) + j))
      simp only [Nat.zero_add] at this
      rw [this]
    · unfold f_X12_undo_L22
      simp (disch := omega) only [gr_text H, gr_told H, gr_draft H, gr_s H, gr_past H, gr_images H, gr_notes H, gr_levels H, gr_row H, gr_reach H, gr_gains H, gr_line H, gr_rows H, gr_next H, gr_held H, al_text, al_told, al_draft, al_s, al_past, al_images, al_notes, al_levels, al_row, al_reach, al_gains, al_line, al_rows, al_next, al_held, as_text, as_told, as_draft, as_s, as_past, as_images, as_notes, as_levels, as_row, as_reach, as_gains, as_line, as_rows, as_next, as_held, gi_typed, pi_typed, gi_known, pi_known, gi_kept, pi_kept, gi_noted, pi_noted, gi_at, pi_at, gd_m, h6, nb_lit, nI_add, nb_sub, pk_mul, nb_lt, nb_le, nb_eq, nb_and, nb_or, nb_xor, nb_shl, nb_shl2, Option.bind_some, Option.some.injEq, Prod.mk.injEq, nI_pos, if_true, if_false, ite_true, ite_false, not_true_eq_false, not_false_eq_true, and_true, true_and, and_self, or_self, b10_0, b10_1, b01_0, b01_1, b10_o, b01_o, or_true, true_or, or_false, false_or, and_false, false_and, eq_self, Nat.reduceEqDiff, b_em, b_me, ly_m, Nat.reduceLT, Nat.reduceLeDiff, Nat.reduceAdd, Nat.reduceMul, Nat.reduceSub, Bool.false_eq_true, Nat.not_lt_zero, cpy_out, Nat.le_refl]
theorem mc_keep (H : MR r) (R : RelM m A) (W : WFa A) : MOk (f_X12_keep 114 (130, m, r)) m r (o_keep A).1 (o_keep A).2 := by
  obtain ⟨r1, T, S, r4, r5, r6⟩ := id R
  have hU := W.2.2.2.2.1.1
  have hs := wf_s W.2.2.1
  unfold f_X12_keep o_keep
  by_cases hf : (aK A).1 = 2
  · rw [if_pos hf]
    refine MOk.mk0 R ?_
    simp (disch := omega) only [gr_text H, gr_told H, gr_draft H, gr_s H, gr_past H, gr_images H, gr_notes H, gr_levels H, gr_row H, gr_reach H, gr_gains H, gr_line H, gr_rows H, gr_next H, gr_held H, al_text, al_told, al_draft, al_s, al_past, al_images, al_notes, al_levels, al_row, al_reach, al_gains, al_line, al_rows, al_next, al_held, as_text, as_told, as_draft, as_s, as_past, as_images, as_notes, as_levels, as_row, as_reach, as_gains, as_line, as_rows, as_next, as_held, gi_typed, pi_typed, gi_known, pi_known, gi_kept, pi_kept, gi_noted, pi_noted, gi_at, pi_at, gd_m, r5.1, hf, nb_lit, nI_add, nb_sub, pk_mul, nb_lt, nb_le, nb_eq, nb_and, nb_or, nb_xor, nb_shl, nb_shl2, Option.bind_some, Option.some.injEq, Prod.mk.injEq, nI_pos, if_true, if_false, ite_true, ite_false, not_true_eq_false, not_false_eq_true, and_true, true_and, and_self, or_self, b10_0, b10_1, b01_0, b01_1, b10_o, b01_o, or_true, true_or, or_false, false_or, and_false, false_and, eq_self, Nat.reduceEqDiff, b_em, b_me, ly_m, Nat.reduceLT, Nat.reduceLeDiff, Nat.reduceAdd, Nat.reduceMul, Nat.reduceSub, Bool.false_eq_true, Nat.not_lt_zero]
  · rw [if_neg hf]
    simp (disch := omega) only [gr_text H, gr_told H, gr_draft H, gr_s H, gr_past H, gr_images H, gr_notes H, gr_levels H, gr_row H, gr_reach H, gr_gains H, gr_line H, gr_rows H, gr_next H, gr_held H, al_text, al_told, al_draft, al_s, al_past, al_images, al_notes, al_levels, al_row, al_reach, al_gains, al_line, al_rows, al_next, al_held, as_text, as_told, as_draft, as_s, as_past, as_images, as_notes, as_levels, as_row, as_reach, as_gains, as_line, as_rows, as_next, as_held, gi_typed, pi_typed, gi_known, pi_known, gi_kept, pi_kept, gi_noted, pi_noted, gi_at, pi_at, gd_m, r5.1, hf, nb_lit, nI_add, nb_sub, pk_mul, nb_lt, nb_le, nb_eq, nb_and, nb_or, nb_xor, nb_shl, nb_shl2, Option.bind_some, Option.some.injEq, Prod.mk.injEq, nI_pos, if_true, if_false, ite_true, ite_false, not_true_eq_false, not_false_eq_true, and_true, true_and, and_self, or_self, b10_0, b10_1, b01_0, b01_1, b10_o, b01_o, or_true, true_or, or_false, false_or, and_false, false_and, eq_self, Nat.reduceEqDiff, b_em, b_me, ly_m, Nat.reduceLT, Nat.reduceLeDiff, Nat.reduceAdd, Nat.reduceMul, Nat.reduceSub, Bool.false_eq_true, Nat.not_lt_zero]
    refine ⟨mx_up (cpy m 120 (22 * (aK A).1) (m 118) 22) 114 8 (nI ((aK A).1 + 1)), ?_, ?_, fun a ha => ?_⟩
    · have key := fix_up (F := f_X12_keep_L13 114 (fun s15 => (mx_gi s15.2 114 12 8).bind fun x16 => (mx_pi s15.2 114 12 8 (x16 + nI 1)).bind fun h17 => (mx_gi h17 114 12 8).bind fun x18 => some (x18, h17))) (fun i => (nI i, (130, cpy m 120 (22 * (aK A).1) (m 118) i, r))) 22 (y := some (nI ((aK A).1 + 1), (130, mx_up (cpy m 120 (22 * (aK A).1) (m 118) 22) 114 8 (nI ((aK A).1 + 1)), r))) (fun i hi self => ?_) (fun self => ?_) (fuel := 2000) (by omega)
      · simp only [cpy_0] at key
        exact key
      · unfold f_X12_keep_L13
        simp (disch := omega) only [gr_text H, gr_told H, gr_draft H, gr_s H, gr_past H, gr_images H, gr_notes H, gr_levels H, gr_row H, gr_reach H, gr_gains H, gr_line H, gr_rows H, gr_next H, gr_held H, al_text, al_told, al_draft, al_s, al_past, al_images, al_notes, al_levels, al_row, al_reach, al_gains, al_line, al_rows, al_next, al_held, as_text, as_told, as_draft, as_s, as_past, as_images, as_notes, as_levels, as_row, as_reach, as_gains, as_line, as_rows, as_next, as_held, gi_typed, pi_typed, gi_known, pi_known, gi_kept, pi_kept, gi_noted, pi_noted, gi_at, pi_at, gd_m, r5.1, nb_lit, nI_add, nb_sub, pk_mul, nb_lt, nb_le, nb_eq, nb_and, nb_or, nb_xor, nb_shl, nb_shl2, Option.bind_some, Option.some.injEq, Prod.mk.injEq, nI_pos, if_true, if_false, ite_true, ite_false, not_true_eq_false, not_false_eq_true, and_true, true_and, and_self, or_self, b10_0, b10_1, b01_0, b01_1, b10_o, b01_o, or_true, true_or, or_false, false_or, and_false, false_and, eq_self, Nat.reduceEqDiff, b_em, b_me, ly_m, Nat.reduceLT, Nat.reduceLeDiff, Nat.reduceAdd, Nat.reduceMul, Nat.reduceSub, Bool.false_eq_true, Nat.not_lt_zero, cpy_out, cpy_s]
        rw [if_neg (by omega)]
      · unfold f_X12_keep_L13
        simp (disch := omega) only [gr_text H, gr_told H, gr_draft H, gr_s H, gr_past H, gr_images H, gr_notes H, gr_levels H, gr_row H, gr_reach H, gr_gains H, gr_line H, gr_rows H, gr_next H, gr_held H, al_text, al_told, al_draft, al_s, al_past, al_images, al_notes, al_levels, al_row, al_reach, al_gains, al_line, al_rows, al_next, al_held, as_text, as_told, as_draft, as_s, as_past, as_images, as_notes, as_levels, as_row, as_reach, as_gains, as_line, as_rows, as_next, as_held, gi_typed, pi_typed, gi_known, pi_known, gi_kept, pi_kept, gi_noted, pi_noted, gi_at, pi_at, gd_m, r5.1, nb_lit, nI_add, nb_sub, pk_mul, nb_lt, nb_le, nb_eq, nb_and, nb_or, nb_xor, nb_shl, nb_shl2, Option.bind_some, Option.some.injEq, Prod.mk.injEq, nI_pos, if_true, if_false, ite_true, ite_false, not_true_eq_false, not_false_eq_true, and_true, true_and, and_self, or_self, b10_0, b10_1, b01_0, b01_1, b10_o, b01_o, or_true, true_or, or_false, false_or, and_false, false_and, eq_self, Nat.reduceEqDiff, b_em, b_me, ly_m, Nat.reduceLT, Nat.reduceLeDiff, Nat.reduceAdd, Nat.reduceMul, Nat.reduceSub, Bool.false_eq_true, Nat.not_lt_zero, cpy_out, Nat.le_refl, hb_up_same, hb_up_ne, ne_eq]
    · have e : ∀ a, a ≠ 114 → a ≠ 120 → (mx_up (cpy m 120 (22 * (aK A).1) (m 118) 22) 114 8 (nI ((aK A).1 + 1))) a = m a := by
        intro a h1 h2; funext j; rw [hb_up_ne (by omega), cpy_out (by omega)]
      have e2 : ∀ j, j ≠ 8 → (mx_up (cpy m 120 (22 * (aK A).1) (m 118) 22) 114 8 (nI ((aK A).1 + 1))) 114 j = m 114 j := by
        intro j hj; rw [hb_up_ne (by omega), cpy_out (by omega)]
      unfold RelM
      rw [e 115 (by decide) (by decide), e 116 (by decide) (by decide), e 118 (by decide) (by decide), e 119 (by decide) (by decide), e 121 (by decide) (by decide), e2 1 (by decide), e2 6 (by decide), e2 10 (by decide)]
      refine ⟨r1, T, S, r4, ⟨hb_up_same, fun i hi => ?_⟩, r6⟩
      have hi : i < (aK A).1 + 1 := hi
      show SM _ (22 * i) (if i = (aK A).1 then aS A else (aK A).2 i)
      by_cases he : i = (aK A).1
      · rw [if_pos he]
        refine S.congr hs (fun k hk => ?_)
        rw [hb_up_ne (by omega), he, cpy_in (by omega) (by omega), show 22 * (aK A).1 + k - 22 * (aK A).1 = 0 + k by omega]
      · rw [if_neg he]
        refine (r5.2 i (by omega)).congr (W.2.2.2.2.1.2 _ (by omega)).1 (fun k hk => ?_)
        rw [hb_up_ne (by omega), cpy_out (by omega)]
    · funext j; rw [hb_up_ne (by omega), cpy_out (by omega)]
theorem mc_back (H : MR r) (R : RelM m A) (W : WFa A) : MOk (f_X12_back 114 (130, m, r)) m r (o_back A).1 (o_back A).2 := by
  obtain ⟨r1, T, S, r4, r5, r6⟩ := id R
  have hU := W.2.2.2.2.1.1
  unfold f_X12_back o_back
  by_cases hf : (aK A).1 = 0
  · rw [if_pos hf]
    refine MOk.mk0 R ?_
    simp (disch := omega) only [gr_text H, gr_told H, gr_draft H, gr_s H, gr_past H, gr_images H, gr_notes H, gr_levels H, gr_row H, gr_reach H, gr_gains H, gr_line H, gr_rows H, gr_next H, gr_held H, al_text, al_told, al_draft, al_s, al_past, al_images, al_notes, al_levels, al_row, al_reach, al_gains, al_line, al_rows, al_next, al_held, as_text, as_told, as_draft, as_s, as_past, as_images, as_notes, as_levels, as_row, as_reach, as_gains, as_line, as_rows, as_next, as_held, gi_typed, pi_typed, gi_known, pi_known, gi_kept, pi_kept, gi_noted, pi_noted, gi_at, pi_at, gd_m, r5.1, hf, nb_lit, nI_add, nb_sub, pk_mul, nb_lt, nb_le, nb_eq, nb_and, nb_or, nb_xor, nb_shl, nb_shl2, Option.bind_some, Option.some.injEq, Prod.mk.injEq, nI_pos, if_true, if_false, ite_true, ite_false, not_true_eq_false, not_false_eq_true, and_true, true_and, and_self, or_self, b10_0, b10_1, b01_0, b01_1, b10_o, b01_o, or_true, true_or, or_false, false_or, and_false, false_and, eq_self, Nat.reduceEqDiff, b_em, b_me, ly_m, Nat.reduceLT, Nat.reduceLeDiff, Nat.reduceAdd, Nat.reduceMul, Nat.reduceSub, Bool.false_eq_true, Nat.not_lt_zero]
  · rw [if_neg hf]
    simp (disch := omega) only [gr_text H, gr_told H, gr_draft H, gr_s H, gr_past H, gr_images H, gr_notes H, gr_levels H, gr_row H, gr_reach H, gr_gains H, gr_line H, gr_rows H, gr_next H, gr_held H, al_text, al_told, al_draft, al_s, al_past, al_images, al_notes, al_levels, al_row, al_reach, al_gains, al_line, al_rows, al_next, al_held, as_text, as_told, as_draft, as_s, as_past, as_images, as_notes, as_levels, as_row, as_reach, as_gains, as_line, as_rows, as_next, as_held, gi_typed, pi_typed, gi_known, pi_known, gi_kept, pi_kept, gi_noted, pi_noted, gi_at, pi_at, gd_m, r5.1, hf, nb_lit, nI_add, nb_sub, pk_mul, nb_lt, nb_le, nb_eq, nb_and, nb_or, nb_xor, nb_shl, nb_shl2, Option.bind_some, Option.some.injEq, Prod.mk.injEq, nI_pos, if_true, if_false, ite_true, ite_false, not_true_eq_false, not_false_eq_true, and_true, true_and, and_self, or_self, b10_0, b10_1, b01_0, b01_1, b10_o, b01_o, or_true, true_or, or_false, false_or, and_false, false_and, eq_self, Nat.reduceEqDiff, b_em, b_me, ly_m, Nat.reduceLT, Nat.reduceLeDiff, Nat.reduceAdd, Nat.reduceMul, Nat.reduceSub, Bool.false_eq_true, Nat.not_lt_zero]
    have h6 : (mx_up m 114 8 (nI ((aK A).1 - 1))) 114 8 = nI ((aK A).1 - 1) := hb_up_same
    generalize hm1 : mx_up m 114 8 (nI ((aK A).1 - 1)) = m1 at h6 ⊢
    have k3 : ∀ a, a ≠ 114 → m1 a = m a := by intro a ha; subst hm1; funext j; simp (disch := omega) only [hb_up_same, hb_up_ne, ne_eq]
    have k4 : ∀ j, j ≠ 8 → m1 114 j = m 114 j := by intro j hj; subst hm1; simp (disch := omega) only [hb_up_same, hb_up_ne, ne_eq]
    have key := fix_up (F := f_X12_back_L22 114) (fun i => (nI i, (130, cpy m1 118 0 (fun j => m1 120 (22 * ((aK A).1 - 1) + j)) i, r))) 22 (y := some (nI ((aK A).1 - 1), (130, mx_up (cpy m1 118 0 (fun j => m1 120 (22 * ((aK A).1 - 1) + j)) 22) 114 6 (nI 0), r))) (fun i hi self => ?_) (fun self => ?_) (fuel := 2000) (by omega)
    · simp only [cpy_0] at key
      refine ⟨_, key, ?_, fun a ha => ?_⟩
      · have e : ∀ a, a ≠ 114 → a ≠ 118 → (mx_up (cpy m1 118 0 (fun j => m1 120 (22 * ((aK A).1 - 1) + j)) 22) 114 6 (nI 0)) a = m a := by
          intro a h1 h2; funext j; rw [hb_up_ne (by omega), cpy_out (by omega), k3 a h1]
        have e2 : ∀ j, j ≠ 6 → (mx_up (cpy m1 118 0 (fun j => m1 120 (22 * ((aK A).1 - 1) + j)) 22) 114 6 (nI 0)) 114 j = m1 114 j := by
          intro j hj; rw [hb_up_ne (by omega), cpy_out (by omega)]
        unfold RelM
        rw [e 115 (by decide) (by decide), e 116 (by decide) (by decide), e 119 (by decide) (by decide), e 120 (by decide) (by decide), e 121 (by decide) (by decide), e2 1 (by decide), e2 8 (by decide), e2 10 (by decide), k4 1 (by decide), k4 10 (by decide), h6]
        refine ⟨r1, T, ?_, ⟨hb_up_same, fun i hi => absurd hi (Nat.not_lt_zero i)⟩, ⟨rfl, fun i hi => ?_⟩, r6⟩
        · refine (r5.2 ((aK A).1 - 1) (by omega)).congr (W.2.2.2.2.1.2 _ (by omega)).1 (fun k hk => ?_)
          rw [hb_up_ne (by omega), cpy_in (by omega) (by omega), k3 120 (by decide), show 0 + k - 0 = k by omega]
        · have hi : i < (aK A).1 - 1 := hi
          exact r5.2 i (by omega)
      · funext j; rw [hb_up_ne (by omega), cpy_out (by omega), k3 _ (by omega)]
    · unfold f_X12_back_L22
      simp (disch := omega) only [gr_text H, gr_told H, gr_draft H, gr_s H, gr_past H, gr_images H, gr_notes H, gr_levels H, gr_row H, gr_reach H, gr_gains H, gr_line H, gr_rows H, gr_next H, gr_held H, al_text, al_told, al_draft, al_s, al_past, al_images, al_notes, al_levels, al_row, al_reach, al_gains, al_line, al_rows, al_next, al_held, as_text, as_told, as_draft, as_s, as_past, as_images, as_notes, as_levels, as_row, as_reach, as_gains, as_line, as_rows, as_next, as_held, gi_typed, pi_typed, gi_known, pi_known, gi_kept, pi_kept, gi_noted, pi_noted, gi_at, pi_at, gd_m, h6, nb_lit, nI_add, nb_sub, pk_mul, nb_lt, nb_le, nb_eq, nb_and, nb_or, nb_xor, nb_shl, nb_shl2, Option.bind_some, Option.some.injEq, Prod.mk.injEq, nI_pos, if_true, if_false, ite_true, ite_false, not_true_eq_false, not_false_eq_true, and_true, true_and, and_self, or_self, b10_0, b10_1, b01_0, b01_1, b10_o, b01_o, or_true, true_or, or_false, false_or, and_false, false_and, eq_self, Nat.reduceEqDiff, b_em, b_me, ly_m, Nat.reduceLT, Nat.reduceLeDiff, Nat.reduceAdd, Nat.reduceMul, Nat.reduceSub, Bool.false_eq_true, Nat.not_lt_zero, cpy_out]
      rw [if_neg (by omega)]
      have := @cpy_s m1 118 0 i (fun j => m1 120 (22 * ((aK A).1 - 1) + j))
      simp only [Nat.zero_add] at this
      rw [this]
    · unfold f_X12_back_L22
      simp (disch := omega) only [gr_text H, gr_told H, gr_draft H, gr_s H, gr_past H, gr_images H, gr_notes H, gr_levels H, gr_row H, gr_reach H, gr_gains H, gr_line H, gr_rows H, gr_next H, gr_held H, al_text, al_told, al_draft, al_s, al_past, al_images, al_notes, al_levels, al_row, al_reach, al_gains, al_line, al_rows, al_next, al_held, as_text, as_told, as_draft, as_s, as_past, as_images, as_notes, as_levels, as_row, as_reach, as_gains, as_line, as_rows, as_next, as_held, gi_typed, pi_typed, gi_known, pi_known, gi_kept, pi_kept, gi_noted, pi_noted, gi_at, pi_at, gd_m, h6, nb_lit, nI_add, nb_sub, pk_mul, nb_lt, nb_le, nb_eq, nb_and, nb_or, nb_xor, nb_shl, nb_shl2, Option.bind_some, Option.some.injEq, Prod.mk.injEq, nI_pos, if_true, if_false, ite_true, ite_false, not_true_eq_false, not_false_eq_true, and_true, true_and, and_self, or_self, b10_0, b10_1, b01_0, b01_1, b10_o, b01_o, or_true, true_or, or_false, false_or, and_false, false_and, eq_self, Nat.reduceEqDiff, b_em, b_me, ly_m, Nat.reduceLT, Nat.reduceLeDiff, Nat.reduceAdd, Nat.reduceMul, Nat.reduceSub, Bool.false_eq_true, Nat.not_lt_zero, cpy_out, Nat.le_refl, hb_up_same, hb_up_ne, ne_eq]
theorem mc_seen (H : MR r) (R : RelM m A) (W : WFa A) (x y : Int32) : MOk (f_X12_seen 114 x y (130, m, r)) m r (o_seen A x y).1 (o_seen A x y).2 := by
  obtain ⟨r1, T, S, r4, r5, r6⟩ := id R
  have B := W.2.1
  have hn := wf_N B
  have hO := W.2.2.2.2.2.1
  unfold f_X12_seen o_seen
  rw [mb_in]
  by_cases hx : x < 0 ∨ nI (bN (aB A)) ≤ x
  · rw [if_pos (Or.inl hx)]
    refine MOk.mk0 R ?_
    simp (disch := omega) only [m_noW H T B hx, nb_lit, nI_add, nb_sub, pk_mul, nb_lt, nb_le, nb_eq, nb_and, nb_or, nb_xor, nb_shl, nb_shl2, Option.bind_some, Option.some.injEq, Prod.mk.injEq, nI_pos, if_true, if_false, ite_true, ite_false, not_true_eq_false, not_false_eq_true, and_true, true_and, and_self, or_self, b10_0, b10_1, b01_0, b01_1, b10_o, b01_o, or_true, true_or, or_false, false_or, and_false, false_and, eq_self, Nat.reduceEqDiff, b_em, b_me, ly_m, Nat.reduceLT, Nat.reduceLeDiff, Nat.reduceAdd, Nat.reduceMul, Nat.reduceSub, Bool.false_eq_true, Nat.not_lt_zero]
  · obtain ⟨w, hw, rfl, e⟩ := nword B hx
    by_cases hy : y < 0 ∨ 1 < y
    · rw [if_pos (Or.inr hy), if_pos hy]
      refine MOk.mk0 R ?_
      simp (disch := omega) only [m_isW H T B hw, nb_lit, nI_add, nb_sub, pk_mul, nb_lt, nb_le, nb_eq, nb_and, nb_or, nb_xor, nb_shl, nb_shl2, Option.bind_some, Option.some.injEq, Prod.mk.injEq, nI_pos, if_true, if_false, ite_true, ite_false, not_true_eq_false, not_false_eq_true, and_true, true_and, and_self, or_self, b10_0, b10_1, b01_0, b01_1, b10_o, b01_o, or_true, true_or, or_false, false_or, and_false, false_and, eq_self, Nat.reduceEqDiff, b_em, b_me, ly_m, Nat.reduceLT, Nat.reduceLeDiff, Nat.reduceAdd, Nat.reduceMul, Nat.reduceSub, Bool.false_eq_true, Nat.not_lt_zero]
    · rw [if_neg hy, if_neg (not_or.mpr ⟨hx, hy⟩)]
      obtain ⟨i, hi, rfl, ei⟩ := mayor_or hy
      rw [e, ei]
      by_cases h8 : (aO A).1 = 8
      · rw [if_pos h8]
        refine MOk.mk0 R ?_
        simp (disch := omega) only [gr_text H, gr_told H, gr_draft H, gr_s H, gr_past H, gr_images H, gr_notes H, gr_levels H, gr_row H, gr_reach H, gr_gains H, gr_line H, gr_rows H, gr_next H, gr_held H, al_text, al_told, al_draft, al_s, al_past, al_images, al_notes, al_levels, al_row, al_reach, al_gains, al_line, al_rows, al_next, al_held, as_text, as_told, as_draft, as_s, as_past, as_images, as_notes, as_levels, as_row, as_reach, as_gains, as_line, as_rows, as_next, as_held, gi_typed, pi_typed, gi_known, pi_known, gi_kept, pi_kept, gi_noted, pi_noted, gi_at, pi_at, gd_m, m_isW H T B hw, r6.1, h8, nb_lit, nI_add, nb_sub, pk_mul, nb_lt, nb_le, nb_eq, nb_and, nb_or, nb_xor, nb_shl, nb_shl2, Option.bind_some, Option.some.injEq, Prod.mk.injEq, nI_pos, if_true, if_false, ite_true, ite_false, not_true_eq_false, not_false_eq_true, and_true, true_and, and_self, or_self, b10_0, b10_1, b01_0, b01_1, b10_o, b01_o, or_true, true_or, or_false, false_or, and_false, false_and, eq_self, Nat.reduceEqDiff, b_em, b_me, ly_m, Nat.reduceLT, Nat.reduceLeDiff, Nat.reduceAdd, Nat.reduceMul, Nat.reduceSub, Bool.false_eq_true, Nat.not_lt_zero]
      · rw [if_neg h8]
        refine ⟨mx_up (mx_up m 121 (aO A).1 (nI (2 * w + i))) 114 10 (nI ((aO A).1 + 1)), ?_, ?_, fun a ha => ?_⟩
        · simp (disch := omega) only [gr_text H, gr_told H, gr_draft H, gr_s H, gr_past H, gr_images H, gr_notes H, gr_levels H, gr_row H, gr_reach H, gr_gains H, gr_line H, gr_rows H, gr_next H, gr_held H, al_text, al_told, al_draft, al_s, al_past, al_images, al_notes, al_levels, al_row, al_reach, al_gains, al_line, al_rows, al_next, al_held, as_text, as_told, as_draft, as_s, as_past, as_images, as_notes, as_levels, as_row, as_reach, as_gains, as_line, as_rows, as_next, as_held, gi_typed, pi_typed, gi_known, pi_known, gi_kept, pi_kept, gi_noted, pi_noted, gi_at, pi_at, gd_m, m_isW H T B hw, r6.1, h8, nb_lit, nI_add, nb_sub, pk_mul, nb_lt, nb_le, nb_eq, nb_and, nb_or, nb_xor, nb_shl, nb_shl2, Option.bind_some, Option.some.injEq, Prod.mk.injEq, nI_pos, if_true, if_false, ite_true, ite_false, not_true_eq_false, not_false_eq_true, and_true, true_and, and_self, or_self, b10_0, b10_1, b01_0, b01_1, b10_o, b01_o, or_true, true_or, or_false, false_or, and_false, false_and, eq_self, Nat.reduceEqDiff, b_em, b_me, ly_m, Nat.reduceLT, Nat.reduceLeDiff, Nat.reduceAdd, Nat.reduceMul, Nat.reduceSub, Bool.false_eq_true, Nat.not_lt_zero, hb_up_same, hb_up_ne, ne_eq]
        · have e : ∀ a, a ≠ 114 → a ≠ 121 → (mx_up (mx_up m 121 (aO A).1 (nI (2 * w + i))) 114 10 (nI ((aO A).1 + 1))) a = m a := by
            intro a h1 h2; funext j; simp (disch := omega) only [hb_up_same, hb_up_ne, ne_eq]
          have e2 : ∀ j, j ≠ 10 → (mx_up (mx_up m 121 (aO A).1 (nI (2 * w + i))) 114 10 (nI ((aO A).1 + 1))) 114 j = m 114 j := by
            intro j hj; simp (disch := omega) only [hb_up_same, hb_up_ne, ne_eq]
          unfold RelM
          rw [e 115 (by decide) (by decide), e 116 (by decide) (by decide), e 118 (by decide) (by decide), e 119 (by decide) (by decide), e 120 (by decide) (by decide), e2 1 (by decide), e2 6 (by decide), e2 8 (by decide)]
          refine ⟨r1, T, S, r4, r5, hb_up_same, fun j hj => ?_⟩
          have hj : j < (aO A).1 + 1 := hj
          show _ = nI (2 * (if j = (aO A).1 then (w, i) else (aO A).2 j).1 + (if j = (aO A).1 then (w, i) else (aO A).2 j).2)
          by_cases he : j = (aO A).1
          · rw [if_pos he, he]
            simp (disch := omega) only [hb_up_same, hb_up_ne, ne_eq]
          · rw [if_neg he]
            simp (disch := omega) only [hb_up_same, hb_up_ne, ne_eq]
            exact r6.2 j (by omega)
        · funext j; simp (disch := omega) only [hb_up_same, hb_up_ne, ne_eq]
theorem mc_forget (H : MR r) (R : RelM m A) : MOk (f_X12_forget 114 (130, m, r)) m r (o_forget A).1 (o_forget A).2 := by
  obtain ⟨r1, r2, r3, r4, r5, r6⟩ := R
  unfold f_X12_forget o_forget
  simp (disch := omega) only [gr_text H, gr_told H, gr_draft H, gr_s H, gr_past H, gr_images H, gr_notes H, gr_levels H, gr_row H, gr_reach H, gr_gains H, gr_line H, gr_rows H, gr_next H, gr_held H, al_text, al_told, al_draft, al_s, al_past, al_images, al_notes, al_levels, al_row, al_reach, al_gains, al_line, al_rows, al_next, al_held, as_text, as_told, as_draft, as_s, as_past, as_images, as_notes, as_levels, as_row, as_reach, as_gains, as_line, as_rows, as_next, as_held, gi_typed, pi_typed, gi_known, pi_known, gi_kept, pi_kept, gi_noted, pi_noted, gi_at, pi_at, gd_m, r6.1, nb_lit, nI_add, nb_sub, pk_mul, nb_lt, nb_le, nb_eq, nb_and, nb_or, nb_xor, nb_shl, nb_shl2, Option.bind_some, Option.some.injEq, Prod.mk.injEq, nI_pos, if_true, if_false, ite_true, ite_false, not_true_eq_false, not_false_eq_true, and_true, true_and, and_self, or_self, b10_0, b10_1, b01_0, b01_1, b10_o, b01_o, or_true, true_or, or_false, false_or, and_false, false_and, eq_self, Nat.reduceEqDiff, b_em, b_me, ly_m, Nat.reduceLT, Nat.reduceLeDiff, Nat.reduceAdd, Nat.reduceMul, Nat.reduceSub, Bool.false_eq_true, Nat.not_lt_zero]
  have e : ∀ a, a ≠ 114 → (mx_up m 114 10 (nI 0)) a = m a := by
    intro a ha; funext i; simp (disch := omega) only [hb_up_same, hb_up_ne, ne_eq]
  refine ⟨_, rfl, ?_, fun a ha => e a (by omega)⟩
  unfold RelM
  rw [e 115 (by decide), e 116 (by decide), e 118 (by decide), e 119 (by decide), e 120 (by decide), e 121 (by decide)]
  simp (disch := omega) only [hb_up_same, hb_up_ne, ne_eq]
  exact ⟨r1, r2, r3, r4, r5, ⟨rfl, fun i hi => absurd hi (Nat.not_lt_zero i)⟩⟩
theorem mc_fing (H : MR r) (R : RelM m A) (W : WFa A) (x : Int32) : MOk (f_X12_finishing 114 x (130, m, r)) m r (v_fing A x) A := by
  obtain ⟨r1, T, S, r4, r5, r6⟩ := id R
  have B := W.2.1
  have F := W.2.2.1
  have h4 := finNow_le (s := aS A) B
  unfold f_X12_finishing v_fing
  rw [mb_in]
  by_cases hx : x < -1 ∨ 3 < x
  · rw [if_pos hx, if_pos hx]
    refine MOk.mk0 R ?_
    simp (disch := omega) only [nb_lit, nI_add, nb_sub, pk_mul, nb_lt, nb_le, nb_eq, nb_and, nb_or, nb_xor, nb_shl, nb_shl2, Option.bind_some, Option.some.injEq, Prod.mk.injEq, nI_pos, if_true, if_false, ite_true, ite_false, not_true_eq_false, not_false_eq_true, and_true, true_and, and_self, or_self, b10_0, b10_1, b01_0, b01_1, b10_o, b01_o, or_true, true_or, or_false, false_or, and_false, false_and, eq_self, Nat.reduceEqDiff, b_em, b_me, ly_m, Nat.reduceLT, Nat.reduceLeDiff, Nat.reduceAdd, Nat.reduceMul, Nat.reduceSub, Bool.false_eq_true, Nat.not_lt_zero]
  · rw [if_neg hx, if_neg hx]
    obtain ⟨m1, e1, e2, e3⟩ := m_fnow H T B S F
    refine ⟨m1, ?_, R.same (fun a h1 h2 => e3 a (by omega) (by omega)), fun a ha => e3 a (by omega) (by omega)⟩
    simp (disch := omega) only [gr_text H, gr_told H, gr_draft H, gr_s H, gr_past H, gr_images H, gr_notes H, gr_levels H, gr_row H, gr_reach H, gr_gains H, gr_line H, gr_rows H, gr_next H, gr_held H, al_text, al_told, al_draft, al_s, al_past, al_images, al_notes, al_levels, al_row, al_reach, al_gains, al_line, al_rows, al_next, al_held, as_text, as_told, as_draft, as_s, as_past, as_images, as_notes, as_levels, as_row, as_reach, as_gains, as_line, as_rows, as_next, as_held, gi_typed, pi_typed, gi_known, pi_known, gi_kept, pi_kept, gi_noted, pi_noted, gi_at, pi_at, gd_m, e1, nb_lit, nI_add, nb_sub, pk_mul, nb_lt, nb_le, nb_eq, nb_and, nb_or, nb_xor, nb_shl, nb_shl2, Option.bind_some, Option.some.injEq, Prod.mk.injEq, nI_pos, if_true, if_false, ite_true, ite_false, not_true_eq_false, not_false_eq_true, and_true, true_and, and_self, or_self, b10_0, b10_1, b01_0, b01_1, b10_o, b01_o, or_true, true_or, or_false, false_or, and_false, false_and, eq_self, Nat.reduceEqDiff, b_em, b_me, ly_m, Nat.reduceLT, Nat.reduceLeDiff, Nat.reduceAdd, Nat.reduceMul, Nat.reduceSub, Bool.false_eq_true, Nat.not_lt_zero]
    by_cases h0 : finNow (aB A) (aS A) = 0
    · simp (disch := omega) only [h0, nb_lit, nI_add, nb_sub, pk_mul, nb_lt, nb_le, nb_eq, nb_and, nb_or, nb_xor, nb_shl, nb_shl2, Option.bind_some, Option.some.injEq, Prod.mk.injEq, nI_pos, if_true, if_false, ite_true, ite_false, not_true_eq_false, not_false_eq_true, and_true, true_and, and_self, or_self, b10_0, b10_1, b01_0, b01_1, b10_o, b01_o, or_true, true_or, or_false, false_or, and_false, false_and, eq_self, Nat.reduceEqDiff, b_em, b_me, ly_m, Nat.reduceLT, Nat.reduceLeDiff, Nat.reduceAdd, Nat.reduceMul, Nat.reduceSub, Bool.false_eq_true, Nat.not_lt_zero]
    · simp (disch := omega) only [h0, nb_lit, nI_add, nb_sub, pk_mul, nb_lt, nb_le, nb_eq, nb_and, nb_or, nb_xor, nb_shl, nb_shl2, Option.bind_some, Option.some.injEq, Prod.mk.injEq, nI_pos, if_true, if_false, ite_true, ite_false, not_true_eq_false, not_false_eq_true, and_true, true_and, and_self, or_self, b10_0, b10_1, b01_0, b01_1, b10_o, b01_o, or_true, true_or, or_false, false_or, and_false, false_and, eq_self, Nat.reduceEqDiff, b_em, b_me, ly_m, Nat.reduceLT, Nat.reduceLeDiff, Nat.reduceAdd, Nat.reduceMul, Nat.reduceSub, Bool.false_eq_true, Nat.not_lt_zero]
      by_cases hm : x = -nI 1
      · simp only [hm, nb_lit, nI_add, nb_sub, pk_mul, nb_lt, nb_le, nb_eq, nb_and, nb_or, nb_xor, nb_shl, nb_shl2, Option.bind_some, Option.some.injEq, Prod.mk.injEq, nI_pos, if_true, if_false, ite_true, ite_false, not_true_eq_false, not_false_eq_true, and_true, true_and, and_self, or_self, b10_0, b10_1, b01_0, b01_1, b10_o, b01_o, or_true, true_or, or_false, false_or, and_false, false_and, eq_self, Nat.reduceEqDiff, b_em, b_me, ly_m, Nat.reduceLT, Nat.reduceLeDiff, Nat.reduceAdd, Nat.reduceMul, Nat.reduceSub, Bool.false_eq_true, Nat.not_lt_zero]
      · simp only [hm, nb_lit, nI_add, nb_sub, pk_mul, nb_lt, nb_le, nb_eq, nb_and, nb_or, nb_xor, nb_shl, nb_shl2, Option.bind_some, Option.some.injEq, Prod.mk.injEq, nI_pos, if_true, if_false, ite_true, ite_false, not_true_eq_false, not_false_eq_true, and_true, true_and, and_self, or_self, b10_0, b10_1, b01_0, b01_1, b10_o, b01_o, or_true, true_or, or_false, false_or, and_false, false_and, eq_self, Nat.reduceEqDiff, b_em, b_me, ly_m, Nat.reduceLT, Nat.reduceLeDiff, Nat.reduceAdd, Nat.reduceMul, Nat.reduceSub, Bool.false_eq_true, Nat.not_lt_zero]
        rcases nb_three x (finNow (aB A) (aS A)) (by omega) with q | q | ⟨j, hj, rfl⟩
        · exfalso
          have h1 : ¬ x < -1 := fun z => hx (Or.inl z)
          have hm : ¬ x = -1 := hm
          rw [Int32.lt_iff_toInt_lt] at q h1
          have : x.toInt = (-1 : Int32).toInt := by
            have e0 : (0 : Int32).toInt = 0 := by decide
            have e1 : (-1 : Int32).toInt = -1 := by decide
            omega
          exact hm (Int32.toInt_inj.mp this)
        · simp only [q, nb_lit, nI_add, nb_sub, pk_mul, nb_lt, nb_le, nb_eq, nb_and, nb_or, nb_xor, nb_shl, nb_shl2, Option.bind_some, Option.some.injEq, Prod.mk.injEq, nI_pos, if_true, if_false, ite_true, ite_false, not_true_eq_false, not_false_eq_true, and_true, true_and, and_self, or_self, b10_0, b10_1, b01_0, b01_1, b10_o, b01_o, or_true, true_or, or_false, false_or, and_false, false_and, eq_self, Nat.reduceEqDiff, b_em, b_me, ly_m, Nat.reduceLT, Nat.reduceLeDiff, Nat.reduceAdd, Nat.reduceMul, Nat.reduceSub, Bool.false_eq_true, Nat.not_lt_zero]
        · simp (disch := omega) only [gr_text H, gr_told H, gr_draft H, gr_s H, gr_past H, gr_images H, gr_notes H, gr_levels H, gr_row H, gr_reach H, gr_gains H, gr_line H, gr_rows H, gr_next H, gr_held H, al_text, al_told, al_draft, al_s, al_past, al_images, al_notes, al_levels, al_row, al_reach, al_gains, al_line, al_rows, al_next, al_held, as_text, as_told, as_draft, as_s, as_past, as_images, as_notes, as_levels, as_row, as_reach, as_gains, as_line, as_rows, as_next, as_held, gi_typed, pi_typed, gi_known, pi_known, gi_kept, pi_kept, gi_noted, pi_noted, gi_at, pi_at, gd_m, e2 j hj, nb_cl, nb_lit, nI_add, nb_sub, pk_mul, nb_lt, nb_le, nb_eq, nb_and, nb_or, nb_xor, nb_shl, nb_shl2, Option.bind_some, Option.some.injEq, Prod.mk.injEq, nI_pos, if_true, if_false, ite_true, ite_false, not_true_eq_false, not_false_eq_true, and_true, true_and, and_self, or_self, b10_0, b10_1, b01_0, b01_1, b10_o, b01_o, or_true, true_or, or_false, false_or, and_false, false_and, eq_self, Nat.reduceEqDiff, b_em, b_me, ly_m, Nat.reduceLT, Nat.reduceLeDiff, Nat.reduceAdd, Nat.reduceMul, Nat.reduceSub, Bool.false_eq_true, Nat.not_lt_zero]
          rw [if_neg (by omega), if_neg (by omega)]
          rfl
end M6
