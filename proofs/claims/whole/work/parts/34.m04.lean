/-! the reference: what is kept, what goes over -/
section M4
variable {m : Nat → Nat → Int32} {r : Nat → Nat → Option Nat} {b : Bo} {s : St}
theorem m_all (H : MR r) (T : TO (m 116) b) (B : WFb b) : f_X12_all 114 (130, m, r) = some (nI (aAll b)) := by
  have hn := wf_N B
  have h2 := Nat.one_le_two_pow (n := bN b)
  unfold f_X12_all aAll
  simp (disch := omega) only [gr_text H, gr_told H, gr_draft H, gr_s H, gr_past H, gr_images H, gr_notes H, gr_levels H, gr_row H, gr_reach H, gr_gains H, gr_line H, gr_rows H, gr_next H, gr_held H, al_text, al_told, al_draft, al_s, al_past, al_images, al_notes, al_levels, al_row, al_reach, al_gains, al_line, al_rows, al_next, al_held, as_text, as_told, as_draft, as_s, as_past, as_images, as_notes, as_levels, as_row, as_reach, as_gains, as_line, as_rows, as_next, as_held, gi_typed, pi_typed, gi_known, pi_known, gi_kept, pi_kept, gi_noted, pi_noted, gi_at, pi_at, gd_m, to_N T, nb_lit, nI_add, nb_sub, pk_mul, nb_lt, nb_le, nb_eq, nb_and, nb_or, nb_xor, nb_shl, nb_shl2, Option.bind_some, Option.some.injEq, Prod.mk.injEq, nI_pos, if_true, if_false, ite_true, ite_false, not_true_eq_false, not_false_eq_true, and_true, true_and, and_self, or_self, b10_0, b10_1, b01_0, b01_1, b10_o, b01_o, or_true, true_or, or_false, false_or, and_false, false_and, eq_self, Nat.reduceEqDiff, b_em, b_me, ly_m, Nat.reduceLT, Nat.reduceLeDiff, Nat.reduceAdd, Nat.reduceMul, Nat.reduceSub, Bool.false_eq_true, Nat.not_lt_zero]
theorem m_kn (H : MR r) (T : TO (m 116) b) (B : WFb b) (S : SM (m 118) 0 s) (F : WFs (bN b) s) {w : Nat} (hw : w < bN b) : f_X12_knowsFor 114 (nI w) (130, m, r) = some (nI (knF b s w)) := by
  have hn := wf_N B
  have hK := wf_K B hw
  have hc := wf_c F
  unfold f_X12_knowsFor knF
  by_cases h3 : bK b w = 3
  · simp (disch := omega) only [gr_text H, gr_told H, gr_draft H, gr_s H, gr_past H, gr_images H, gr_notes H, gr_levels H, gr_row H, gr_reach H, gr_gains H, gr_line H, gr_rows H, gr_next H, gr_held H, al_text, al_told, al_draft, al_s, al_past, al_images, al_notes, al_levels, al_row, al_reach, al_gains, al_line, al_rows, al_next, al_held, as_text, as_told, as_draft, as_s, as_past, as_images, as_notes, as_levels, as_row, as_reach, as_gains, as_line, as_rows, as_next, as_held, gi_typed, pi_typed, gi_known, pi_known, gi_kept, pi_kept, gi_noted, pi_noted, gi_at, pi_at, gd_m, to_K T hw, m_all H T B, h3, nb_lit, nI_add, nb_sub, pk_mul, nb_lt, nb_le, nb_eq, nb_and, nb_or, nb_xor, nb_shl, nb_shl2, Option.bind_some, Option.some.injEq, Prod.mk.injEq, nI_pos, if_true, if_false, ite_true, ite_false, not_true_eq_false, not_false_eq_true, and_true, true_and, and_self, or_self, b10_0, b10_1, b01_0, b01_1, b10_o, b01_o, or_true, true_or, or_false, false_or, and_false, false_and, eq_self, Nat.reduceEqDiff, b_em, b_me, ly_m, Nat.reduceLT, Nat.reduceLeDiff, Nat.reduceAdd, Nat.reduceMul, Nat.reduceSub, Bool.false_eq_true, Nat.not_lt_zero]
  · simp (disch := omega) only [gr_text H, gr_told H, gr_draft H, gr_s H, gr_past H, gr_images H, gr_notes H, gr_levels H, gr_row H, gr_reach H, gr_gains H, gr_line H, gr_rows H, gr_next H, gr_held H, al_text, al_told, al_draft, al_s, al_past, al_images, al_notes, al_levels, al_row, al_reach, al_gains, al_line, al_rows, al_next, al_held, as_text, as_told, as_draft, as_s, as_past, as_images, as_notes, as_levels, as_row, as_reach, as_gains, as_line, as_rows, as_next, as_held, gi_typed, pi_typed, gi_known, pi_known, gi_kept, pi_kept, gi_noted, pi_noted, gi_at, pi_at, gd_m, to_K T hw, sm_C S, h3, nb_lit, nI_add, nb_sub, pk_mul, nb_lt, nb_le, nb_eq, nb_and, nb_or, nb_xor, nb_shl, nb_shl2, Option.bind_some, Option.some.injEq, Prod.mk.injEq, nI_pos, if_true, if_false, ite_true, ite_false, not_true_eq_false, not_false_eq_true, and_true, true_and, and_self, or_self, b10_0, b10_1, b01_0, b01_1, b10_o, b01_o, or_true, true_or, or_false, false_or, and_false, false_and, eq_self, Nat.reduceEqDiff, b_em, b_me, ly_m, Nat.reduceLT, Nat.reduceLeDiff, Nat.reduceAdd, Nat.reduceMul, Nat.reduceSub, Bool.false_eq_true, Nat.not_lt_zero, show 20 - sC s = 19 + (1 - sC s) by omega, sm_Y S (show 1 - sC s < 2 by omega)]
theorem aAll_lt (B : WFb b) : aAll b < 1024 := by
  have := p1024 B.1.2
  have := Nat.one_le_two_pow (n := bN b)
  unfold aAll
  omega
theorem aAll_lt2 : aAll b < 2 ^ bN b := by
  have := Nat.one_le_two_pow (n := bN b)
  unfold aAll
  omega
theorem knF_lt2 (F : WFs (bN b) s) {w : Nat} : knF b s w < 2 ^ bN b := by
  unfold knF
  split
  · exact aAll_lt2
  · exact F.2.2.1 _ (by omega)
theorem knF_lt (B : WFb b) (F : WFs (bN b) s) {w : Nat} : knF b s w < 1024 := lt1024 (knF_lt2 F) B.1.2
theorem m_fnow (H : MR r) (T : TO (m 116) b) (B : WFb b) (S : SM (m 118) 0 s) (F : WFs (bN b) s) : ∃ m', f_X12_finishesNow 114 (130, m, r) = some (nI (finNow b s), (130, m', r)) ∧ (∀ i, i < finNow b s → m' 123 i = nI (finW b s i)) ∧ ∀ a, a ≠ 122 → a ≠ 123 → m' a = m a := by
  have hn := wf_N B
  have hs := wf_s F
  unfold f_X12_finishesNow
  by_cases h0 : sN s = 0
  · refine ⟨m, ?_, fun i hi => ?_, fun a _ _ => rfl⟩
    · simp (disch := omega) only [gr_text H, gr_told H, gr_draft H, gr_s H, gr_past H, gr_images H, gr_notes H, gr_levels H, gr_row H, gr_reach H, gr_gains H, gr_line H, gr_rows H, gr_next H, gr_held H, al_text, al_told, al_draft, al_s, al_past, al_images, al_notes, al_levels, al_row, al_reach, al_gains, al_line, al_rows, al_next, al_held, as_text, as_told, as_draft, as_s, as_past, as_images, as_notes, as_levels, as_row, as_reach, as_gains, as_line, as_rows, as_next, as_held, gi_typed, pi_typed, gi_known, pi_known, gi_kept, pi_kept, gi_noted, pi_noted, gi_at, pi_at, gd_m, sm_N S, h0, nb_lit, nI_add, nb_sub, pk_mul, nb_lt, nb_le, nb_eq, nb_and, nb_or, nb_xor, nb_shl, nb_shl2, Option.bind_some, Option.some.injEq, Prod.mk.injEq, nI_pos, if_true, if_false, ite_true, ite_false, not_true_eq_false, not_false_eq_true, and_true, true_and, and_self, or_self, b10_0, b10_1, b01_0, b01_1, b10_o, b01_o, or_true, true_or, or_false, false_or, and_false, false_and, eq_self, Nat.reduceEqDiff, b_em, b_me, ly_m, Nat.reduceLT, Nat.reduceLeDiff, Nat.reduceAdd, Nat.reduceMul, Nat.reduceSub, Bool.false_eq_true, Nat.not_lt_zero, finNow]
    · simp [finNow, h0] at hi
  · have hl := wf_l F (by omega)
    have hf : sW s 0 < bN b := F.2.1 0 (by omega)
    obtain ⟨m', e1, e2, e3⟩ := m_fin H T B (kn := knF b s (sW s 0)) (w := lastW s) (knF_lt B F) hl
    have hfn : finNow b s = fmany b (knF b s (sW s 0)) (lastW s) := by unfold finNow; rw [if_neg h0]
    refine ⟨m', ?_, fun i hi => ?_, e3⟩
    · simp (disch := omega) only [gr_text H, gr_told H, gr_draft H, gr_s H, gr_past H, gr_images H, gr_notes H, gr_levels H, gr_row H, gr_reach H, gr_gains H, gr_line H, gr_rows H, gr_next H, gr_held H, al_text, al_told, al_draft, al_s, al_past, al_images, al_notes, al_levels, al_row, al_reach, al_gains, al_line, al_rows, al_next, al_held, as_text, as_told, as_draft, as_s, as_past, as_images, as_notes, as_levels, as_row, as_reach, as_gains, as_line, as_rows, as_next, as_held, gi_typed, pi_typed, gi_known, pi_known, gi_kept, pi_kept, gi_noted, pi_noted, gi_at, pi_at, gd_m, sm_N S, sm_W S, m_last H S, m_kn H T B S F hf, e1, h0, nb_lit, nI_add, nb_sub, pk_mul, nb_lt, nb_le, nb_eq, nb_and, nb_or, nb_xor, nb_shl, nb_shl2, Option.bind_some, Option.some.injEq, Prod.mk.injEq, nI_pos, if_true, if_false, ite_true, ite_false, not_true_eq_false, not_false_eq_true, and_true, true_and, and_self, or_self, b10_0, b10_1, b01_0, b01_1, b10_o, b01_o, or_true, true_or, or_false, false_or, and_false, false_and, eq_self, Nat.reduceEqDiff, b_em, b_me, ly_m, Nat.reduceLT, Nat.reduceLeDiff, Nat.reduceAdd, Nat.reduceMul, Nat.reduceSub, Bool.false_eq_true, Nat.not_lt_zero, hfn]
    · unfold finW
      rw [hfn] at hi ⊢
      exact e2 i hi
theorem finNow_le (B : WFb b) : finNow b s ≤ 4 := by
  unfold finNow
  split
  · omega
  · exact (fmany_le B).1
theorem finW_lt (B : WFb b) {i : Nat} (hi : i < finNow b s) : finW b s i < bN b := by
  unfold finW
  have hfn : finNow b s = fmany b (knF b s (sW s 0)) (lastW s) := by
    unfold finNow at hi ⊢
    split at hi
    · omega
    · rename_i h; rw [if_neg h]
  rw [hfn] at hi ⊢
  exact fword_lt B hi
theorem m_ends (H : MR r) (T : TO (m 116) b) (B : WFb b) (S : SM (m 118) 0 s) (F : WFs (bN b) s) : ∃ m', f_X12_ends 114 (130, m, r) = some (nI (passW b s), (130, m', r)) ∧ SM (m' 118) 0 (passS b s) ∧ ∀ a, a ≠ 118 → a ≠ 122 → a ≠ 123 → m' a = m a := by
  have hn := wf_N B
  have hs := wf_s F
  have hc := wf_c F
  have hfl := finNow_le (s := s) B
  obtain ⟨m1, e1, e2, e3⟩ := m_fnow H T B S F
  have T1 : TO (m1 116) b := by rw [e3 116 (by decide) (by decide)]; exact T
  have S1 : SM (m1 118) 0 s := by rw [e3 118 (by decide) (by decide)]; exact S
  unfold f_X12_ends
  simp (disch := omega) only [gr_text H, gr_told H, gr_draft H, gr_s H, gr_past H, gr_images H, gr_notes H, gr_levels H, gr_row H, gr_reach H, gr_gains H, gr_line H, gr_rows H, gr_next H, gr_held H, al_text, al_told, al_draft, al_s, al_past, al_images, al_notes, al_levels, al_row, al_reach, al_gains, al_line, al_rows, al_next, al_held, as_text, as_told, as_draft, as_s, as_past, as_images, as_notes, as_levels, as_row, as_reach, as_gains, as_line, as_rows, as_next, as_held, gi_typed, pi_typed, gi_known, pi_known, gi_kept, pi_kept, gi_noted, pi_noted, gi_at, pi_at, gd_m, e1, m_worth H T1 B S1 F, nb_lit, nI_add, nb_sub, pk_mul, nb_lt, nb_le, nb_eq, nb_and, nb_or, nb_xor, nb_shl, nb_shl2, Option.bind_some, Option.some.injEq, Prod.mk.injEq, nI_pos, if_true, if_false, ite_true, ite_false, not_true_eq_false, not_false_eq_true, and_true, true_and, and_self, or_self, b10_0, b10_1, b01_0, b01_1, b10_o, b01_o, or_true, true_or, or_false, false_or, and_false, false_and, eq_self, Nat.reduceEqDiff, b_em, b_me, ly_m, Nat.reduceLT, Nat.reduceLeDiff, Nat.reduceAdd, Nat.reduceMul, Nat.reduceSub, Bool.false_eq_true, Nat.not_lt_zero]
  let m2 := mx_up (mx_up (mx_up m1 118 14 (sT s + nI (finNow b s))) 118 13 (nI (1 - sC s))) 118 21 (sP s + nI 1)
  have S2 : SM (m2 118) 0 (sN s, sW s, sD s, sG s, sY s, 1 - sC s, sT s + nI (finNow b s), sP s + 1) := by
    obtain ⟨h1, h2, h3, h4, h5, h6⟩ := S1
    simp only [Nat.zero_add] at h1 h2 h3 h4 h5 h6
    refine ⟨fun j hj => ?_, ?_, ?_, ?_, fun j hj => ⟨?_, ?_, ?_⟩, ?_⟩
    · have hj : j < sN s := hj
      show m2 118 (0 + j) = nI (sW s j)
      simp (disch := omega) only [Nat.zero_add, m2, hb_up_same, hb_up_ne, ne_eq]
      exact h1 j hj
    · simp (disch := omega) only [Nat.zero_add, m2, hb_up_same, hb_up_ne, ne_eq]
      exact h2
    · simp (disch := omega) only [Nat.zero_add, m2, hb_up_same, hb_up_ne, ne_eq]
      rfl
    · simp (disch := omega) only [Nat.zero_add, m2, hb_up_same, hb_up_ne, ne_eq]
      rfl
    · simp (disch := omega) only [Nat.zero_add, m2, hb_up_same, hb_up_ne, ne_eq]
      exact (h5 j hj).1
    · simp (disch := omega) only [Nat.zero_add, m2, hb_up_same, hb_up_ne, ne_eq]
      exact (h5 j hj).2.1
    · simp (disch := omega) only [Nat.zero_add, m2, hb_up_same, hb_up_ne, ne_eq]
      exact (h5 j hj).2.2
    · simp (disch := omega) only [Nat.zero_add, m2, hb_up_same, hb_up_ne, ne_eq]
      rfl
  obtain ⟨m3, d1, d2, d3⟩ := m_decrees (i := 1 - sC s) (v := passW b s) H S2 hs (by omega)
  refine ⟨m3, ?_, d2, fun a h1 h2 h3 => ?_⟩
  · refine fix_up (fun i => (nI (sumW b (sW s) (sN s) + sumW b (finW b s) i), nI i)) (finNow b s) (fun i hi self => ?_) (fun self => ?_) (by omega)
    · have hf := finW_lt B hi
      unfold f_X12_ends_L12
      simp (disch := omega) only [gr_text H, gr_told H, gr_draft H, gr_s H, gr_past H, gr_images H, gr_notes H, gr_levels H, gr_row H, gr_reach H, gr_gains H, gr_line H, gr_rows H, gr_next H, gr_held H, al_text, al_told, al_draft, al_s, al_past, al_images, al_notes, al_levels, al_row, al_reach, al_gains, al_line, al_rows, al_next, al_held, as_text, as_told, as_draft, as_s, as_past, as_images, as_notes, as_levels, as_row, as_reach, as_gains, as_line, as_rows, as_next, as_held, gi_typed, pi_typed, gi_known, pi_known, gi_kept, pi_kept, gi_noted, pi_noted, gi_at, pi_at, gd_m, e2 i hi, to_W T1 hf, nb_lit, nI_add, nb_sub, pk_mul, nb_lt, nb_le, nb_eq, nb_and, nb_or, nb_xor, nb_shl, nb_shl2, Option.bind_some, Option.some.injEq, Prod.mk.injEq, nI_pos, if_true, if_false, ite_true, ite_false, not_true_eq_false, not_false_eq_true, and_true, true_and, and_self, or_self, b10_0, b10_1, b01_0, b01_1, b10_o, b01_o, or_true, true_or, or_false, false_or, and_false, false_and, eq_self, Nat.reduceEqDiff, b_em, b_me, ly_m, Nat.reduceLT, Nat.reduceLeDiff, Nat.reduceAdd, Nat.reduceMul, Nat.reduceSub, Bool.false_eq_true, Nat.not_lt_zero]
      rw [if_neg (by omega)]
      simp only [sumW, Nat.add_assoc]
    · unfold f_X12_ends_L12
      simp (disch := omega) only [gr_text H, gr_told H, gr_draft H, gr_s H, gr_past H, gr_images H, gr_notes H, gr_levels H, gr_row H, gr_reach H, gr_gains H, gr_line H, gr_rows H, gr_next H, gr_held H, al_text, al_told, al_draft, al_s, al_past, al_images, al_notes, al_levels, al_row, al_reach, al_gains, al_line, al_rows, al_next, al_held, as_text, as_told, as_draft, as_s, as_past, as_images, as_notes, as_levels, as_row, as_reach, as_gains, as_line, as_rows, as_next, as_held, gi_typed, pi_typed, gi_known, pi_known, gi_kept, pi_kept, gi_noted, pi_noted, gi_at, pi_at, gd_m, sm_T S1, sm_C S1, sm_P S1, nb_lit, nI_add, nb_sub, pk_mul, nb_lt, nb_le, nb_eq, nb_and, nb_or, nb_xor, nb_shl, nb_shl2, Option.bind_some, Option.some.injEq, Prod.mk.injEq, nI_pos, if_true, if_false, ite_true, ite_false, not_true_eq_false, not_false_eq_true, and_true, true_and, and_self, or_self, b10_0, b10_1, b01_0, b01_1, b10_o, b01_o, or_true, true_or, or_false, false_or, and_false, false_and, eq_self, Nat.reduceEqDiff, b_em, b_me, ly_m, Nat.reduceLT, Nat.reduceLeDiff, Nat.reduceAdd, Nat.reduceMul, Nat.reduceSub, Bool.false_eq_true, Nat.not_lt_zero, hb_up_same, hb_up_ne, ne_eq]
      rw [if_pos (by omega)]
      have d1' : f_X12_decrees 114 (nI (1 - sC s)) (nI (sumW b (sW s) (sN s) + sumW b (finW b s) (finNow b s))) (130, mx_up (mx_up (mx_up m1 118 14 (sT s + nI (finNow b s))) 118 13 (nI (1 - sC s))) 118 21 (sP s + nI 1), r) = some (130, m3, r) := d1
      simp (disch := omega) only [d1', nb_lit, nI_add, nb_sub, pk_mul, nb_lt, nb_le, nb_eq, nb_and, nb_or, nb_xor, nb_shl, nb_shl2, Option.bind_some, Option.some.injEq, Prod.mk.injEq, nI_pos, if_true, if_false, ite_true, ite_false, not_true_eq_false, not_false_eq_true, and_true, true_and, and_self, or_self, b10_0, b10_1, b01_0, b01_1, b10_o, b01_o, or_true, true_or, or_false, false_or, and_false, false_and, eq_self, Nat.reduceEqDiff, b_em, b_me, ly_m, Nat.reduceLT, Nat.reduceLeDiff, Nat.reduceAdd, Nat.reduceMul, Nat.reduceSub, Bool.false_eq_true, Nat.not_lt_zero]
      rfl
  · rw [d3 a h1]
    funext j
    simp (disch := omega) only [m2, hb_up_same, hb_up_ne, ne_eq]
    rw [e3 a h2 h3]
theorem m_L51 (H : MR r) {K : Int32 × mx_Hp → Option mx_Hp} {u : Nat} (hu : u < 8) (hm : m 114 6 = nI u) : mx_fix (f_X12_keeps_L51 114 K) 2000 (nI 0, (130, m, r)) = K (nI 22, (130, cpy m 119 (22 * u) (m 118) 22, r)) := by
  have := fix_up (F := f_X12_keeps_L51 114 K) (fun i => (nI i, (130, cpy m 119 (22 * u) (m 118) i, r))) 22 (y := K (nI 22, (130, cpy m 119 (22 * u) (m 118) 22, r))) (fun i hi self => ?_) (fun self => ?_) (fuel := 2000) (by omega)
  · simp only [cpy_0] at this
    exact this
  · unfold f_X12_keeps_L51
    simp (disch := omega) only [gr_text H, gr_told H, gr_draft H, gr_s H, gr_past H, gr_images H, gr_notes H, gr_levels H, gr_row H, gr_reach H, gr_gains H, gr_line H, gr_rows H, gr_next H, gr_held H, al_text, al_told, al_draft, al_s, al_past, al_images, al_notes, al_levels, al_row, al_reach, al_gains, al_line, al_rows, al_next, al_held, as_text, as_told, as_draft, as_s, as_past, as_images, as_notes, as_levels, as_row, as_reach, as_gains, as_line, as_rows, as_next, as_held, gi_typed, pi_typed, gi_known, pi_known, gi_kept, pi_kept, gi_noted, pi_noted, gi_at, pi_at, gd_m, hm, nb_lit, nI_add, nb_sub, pk_mul, nb_lt, nb_le, nb_eq, nb_and, nb_or, nb_xor, nb_shl, nb_shl2, Option.bind_some, Option.some.injEq, Prod.mk.injEq, nI_pos, if_true, if_false, ite_true, ite_false, not_true_eq_false, not_false_eq_true, and_true, true_and, and_self, or_self, b10_0, b10_1, b01_0, b01_1, b10_o, b01_o, or_true, true_or, or_false, false_or, and_false, false_and, eq_self, Nat.reduceEqDiff, b_em, b_me, ly_m, Nat.reduceLT, Nat.reduceLeDiff, Nat.reduceAdd, Nat.reduceMul, Nat.reduceSub, Bool.false_eq_true, Nat.not_lt_zero, cpy_out, cpy_s]
    rw [if_neg (by omega)]
  · unfold f_X12_keeps_L51
    simp (disch := omega) only [gr_text H, gr_told H, gr_draft H, gr_s H, gr_past H, gr_images H, gr_notes H, gr_levels H, gr_row H, gr_reach H, gr_gains H, gr_line H, gr_rows H, gr_next H, gr_held H, al_text, al_told, al_draft, al_s, al_past, al_images, al_notes, al_levels, al_row, al_reach, al_gains, al_line, al_rows, al_next, al_held, as_text, as_told, as_draft, as_s, as_past, as_images, as_notes, as_levels, as_row, as_reach, as_gains, as_line, as_rows, as_next, as_held, gi_typed, pi_typed, gi_known, pi_known, gi_kept, pi_kept, gi_noted, pi_noted, gi_at, pi_at, gd_m, nb_lit, nI_add, nb_sub, pk_mul, nb_lt, nb_le, nb_eq, nb_and, nb_or, nb_xor, nb_shl, nb_shl2, Option.bind_some, Option.some.injEq, Prod.mk.injEq, nI_pos, if_true, if_false, ite_true, ite_false, not_true_eq_false, not_false_eq_true, and_true, true_and, and_self, or_self, b10_0, b10_1, b01_0, b01_1, b10_o, b01_o, or_true, true_or, or_false, false_or, and_false, false_and, eq_self, Nat.reduceEqDiff, b_em, b_me, ly_m, Nat.reduceLT, Nat.reduceLeDiff, Nat.reduceAdd, Nat.reduceMul, Nat.reduceSub, Bool.false_eq_true, Nat.not_lt_zero, Nat.le_refl]
theorem m_L11 (H : MR r) {K : Int32 × mx_Hp → Option mx_Hp} : mx_fix (f_X12_keeps_L11 114 K) 2000 (nI 0, (130, m, r)) = K (nI 154, (130, cpy m 119 0 (fun j => m 119 (j + 22)) 154, r)) := by
  have := fix_up (F := f_X12_keeps_L11 114 K) (fun i => (nI i, (130, cpy m 119 0 (fun j => m 119 (j + 22)) i, r))) 154 (y := K (nI 154, (130, cpy m 119 0 (fun j => m 119 (j + 22)) 154, r))) (fun i hi self => ?_) (fun self => ?_) (fuel := 2000) (by omega)
  · simp only [cpy_0] at this
    exact this
  · unfold f_X12_keeps_L11
    simp (disch := omega) only [gr_text H, gr_told H, gr_draft H, gr_s H, gr_past H, gr_images H, gr_notes H, gr_levels H, gr_row H, gr_reach H, gr_gains H, gr_line H, gr_rows H, gr_next H, gr_held H, al_text, al_told, al_draft, al_s, al_past, al_images, al_notes, al_levels, al_row, al_reach, al_gains, al_line, al_rows, al_next, al_held, as_text, as_told, as_draft, as_s, as_past, as_images, as_notes, as_levels, as_row, as_reach, as_gains, as_line, as_rows, as_next, as_held, gi_typed, pi_typed, gi_known, pi_known, gi_kept, pi_kept, gi_noted, pi_noted, gi_at, pi_at, gd_m, nb_lit, nI_add, nb_sub, pk_mul, nb_lt, nb_le, nb_eq, nb_and, nb_or, nb_xor, nb_shl, nb_shl2, Option.bind_some, Option.some.injEq, Prod.mk.injEq, nI_pos, if_true, if_false, ite_true, ite_false, not_true_eq_false, not_false_eq_true, and_true, true_and, and_self, or_self, b10_0, b10_1, b01_0, b01_1, b10_o, b01_o, or_true, true_or, or_false, false_or, and_false, false_and, eq_self, Nat.reduceEqDiff, b_em, b_me, ly_m, Nat.reduceLT, Nat.reduceLeDiff, Nat.reduceAdd, Nat.reduceMul, Nat.reduceSub, Bool.false_eq_true, Nat.not_lt_zero, cpy_out]
    rw [if_neg (by omega)]
    have := @cpy_s m 119 0 i (fun j => m 119 (j + 22))
    simp only [Nat.zero_add] at this
    rw [this]
  · unfold f_X12_keeps_L11
    simp (disch := omega) only [gr_text H, gr_told H, gr_draft H, gr_s H, gr_past H, gr_images H, gr_notes H, gr_levels H, gr_row H, gr_reach H, gr_gains H, gr_line H, gr_rows H, gr_next H, gr_held H, al_text, al_told, al_draft, al_s, al_past, al_images, al_notes, al_levels, al_row, al_reach, al_gains, al_line, al_rows, al_next, al_held, as_text, as_told, as_draft, as_s, as_past, as_images, as_notes, as_levels, as_row, as_reach, as_gains, as_line, as_rows, as_next, as_held, gi_typed, pi_typed, gi_known, pi_known, gi_kept, pi_kept, gi_noted, pi_noted, gi_at, pi_at, gd_m, nb_lit, nI_add, nb_sub, pk_mul, nb_lt, nb_le, nb_eq, nb_and, nb_or, nb_xor, nb_shl, nb_shl2, Option.bind_some, Option.some.injEq, Prod.mk.injEq, nI_pos, if_true, if_false, ite_true, ite_false, not_true_eq_false, not_false_eq_true, and_true, true_and, and_self, or_self, b10_0, b10_1, b01_0, b01_1, b10_o, b01_o, or_true, true_or, or_false, false_or, and_false, false_and, eq_self, Nat.reduceEqDiff, b_em, b_me, ly_m, Nat.reduceLT, Nat.reduceLeDiff, Nat.reduceAdd, Nat.reduceMul, Nat.reduceSub, Bool.false_eq_true, Nat.not_lt_zero, Nat.le_refl]
theorem m_keeps (H : MR r) (S : SM (m 118) 0 s) (hs : sN s ≤ 12) {U : Nat × (Nat → St)} (hU : U.1 ≤ 8) (hW : ∀ i, i < U.1 → sN (U.2 i) ≤ 12) (P : m 114 6 = nI U.1 ∧ ∀ i, i < U.1 → SM (m 119) (22 * i) (U.2 i)) : ∃ m', f_X12_keeps 114 (130, m, r) = some (130, m', r) ∧ (m' 114 6 = nI (putU U s).1 ∧ ∀ i, i < (putU U s).1 → SM (m' 119) (22 * i) ((putU U s).2 i)) ∧ (∀ a, a ≠ 119 → a ≠ 114 → m' a = m a) ∧ (∀ j, j ≠ 6 → m' 114 j = m 114 j) := by
  obtain ⟨h1, h2⟩ := P
  unfold f_X12_keeps
  by_cases h8 : U.1 = 8
  · simp (disch := omega) only [gr_text H, gr_told H, gr_draft H, gr_s H, gr_past H, gr_images H, gr_notes H, gr_levels H, gr_row H, gr_reach H, gr_gains H, gr_line H, gr_rows H, gr_next H, gr_held H, al_text, al_told, al_draft, al_s, al_past, al_images, al_notes, al_levels, al_row, al_reach, al_gains, al_line, al_rows, al_next, al_held, as_text, as_told, as_draft, as_s, as_past, as_images, as_notes, as_levels, as_row, as_reach, as_gains, as_line, as_rows, as_next, as_held, gi_typed, pi_typed, gi_known, pi_known, gi_kept, pi_kept, gi_noted, pi_noted, gi_at, pi_at, gd_m, h1, h8, nb_lit, nI_add, nb_sub, pk_mul, nb_lt, nb_le, nb_eq, nb_and, nb_or, nb_xor, nb_shl, nb_shl2, Option.bind_some, Option.some.injEq, Prod.mk.injEq, nI_pos, if_true, if_false, ite_true, ite_false, not_true_eq_false, not_false_eq_true, and_true, true_and, and_self, or_self, b10_0, b10_1, b01_0, b01_1, b10_o, b01_o, or_true, true_or, or_false, false_or, and_false, false_and, eq_self, Nat.reduceEqDiff, b_em, b_me, ly_m, Nat.reduceLT, Nat.reduceLeDiff, Nat.reduceAdd, Nat.reduceMul, Nat.reduceSub, Bool.false_eq_true, Nat.not_lt_zero, m_L11 H, cpy_out]
    have e6 : (mx_up (cpy m 119 0 (fun j => m 119 (j + 22)) 154) 114 6 (nI 7)) 114 6 = nI 7 := hb_up_same
    have := @m_L51 (mx_up (cpy m 119 0 (fun j => m 119 (j + 22)) 154) 114 6 (nI 7)) r H (fun s31 => (mx_gi s31.2 114 12 6).bind fun x32 => (mx_pi s31.2 114 12 6 (x32 + nI 1)).bind fun h33 => some h33) 7 (by decide) e6
    rw [this]
    simp (disch := omega) only [gr_text H, gr_told H, gr_draft H, gr_s H, gr_past H, gr_images H, gr_notes H, gr_levels H, gr_row H, gr_reach H, gr_gains H, gr_line H, gr_rows H, gr_next H, gr_held H, al_text, al_told, al_draft, al_s, al_past, al_images, al_notes, al_levels, al_row, al_reach, al_gains, al_line, al_rows, al_next, al_held, as_text, as_told, as_draft, as_s, as_past, as_images, as_notes, as_levels, as_row, as_reach, as_gains, as_line, as_rows, as_next, as_held, gi_typed, pi_typed, gi_known, pi_known, gi_kept, pi_kept, gi_noted, pi_noted, gi_at, pi_at, gd_m, nb_lit, nI_add, nb_sub, pk_mul, nb_lt, nb_le, nb_eq, nb_and, nb_or, nb_xor, nb_shl, nb_shl2, Option.bind_some, Option.some.injEq, Prod.mk.injEq, nI_pos, if_true, if_false, ite_true, ite_false, not_true_eq_false, not_false_eq_true, and_true, true_and, and_self, or_self, b10_0, b10_1, b01_0, b01_1, b10_o, b01_o, or_true, true_or, or_false, false_or, and_false, false_and, eq_self, Nat.reduceEqDiff, b_em, b_me, ly_m, Nat.reduceLT, Nat.reduceLeDiff, Nat.reduceAdd, Nat.reduceMul, Nat.reduceSub, Bool.false_eq_true, Nat.not_lt_zero, cpy_out, hb_up_same, hb_up_ne, ne_eq]
    refine ⟨_, rfl, ⟨?_, fun i hi => ?_⟩, fun a ha hb => ?_, fun j hj => ?_⟩
    · simp only [putU, h8, if_true, hb_up_same]
    · have hi : i < 8 := by simpa [putU, h8] using hi
      simp only [putU, h8, if_true]
      by_cases h7 : i = 7
      · subst h7
        rw [if_pos rfl]
        refine S.congr hs (fun k hk => ?_)
        rw [hb_up_ne (by omega), cpy_in (by omega) (by omega), hb_up_ne (by omega), cpy_out (by omega), show 22 * 7 + k - 22 * 7 = 0 + k by omega]
      · rw [if_neg h7]
        refine (h2 (i + 1) (by omega)).congr (hW _ (by omega)) (fun k hk => ?_)
        rw [hb_up_ne (by omega), cpy_out (by omega), hb_up_ne (by omega), cpy_in (by omega) (by omega)]
        show m 119 (22 * i + k - 0 + 22) = _
        exact congrArg _ (by omega)
    · funext j
      rw [hb_up_ne (by omega), cpy_out (by omega), hb_up_ne (by omega), cpy_out (by omega)]
    · rw [hb_up_ne (by omega), cpy_out (by omega), hb_up_ne (by omega), cpy_out (by omega)]
  · simp (disch := omega) only [gr_text H, gr_told H, gr_draft H, gr_s H, gr_past H, gr_images H, gr_notes H, gr_levels H, gr_row H, gr_reach H, gr_gains H, gr_line H, gr_rows H, gr_next H, gr_held H, al_text, al_told, al_draft, al_s, al_past, al_images, al_notes, al_levels, al_row, al_reach, al_gains, al_line, al_rows, al_next, al_held, as_text, as_told, as_draft, as_s, as_past, as_images, as_notes, as_levels, as_row, as_reach, as_gains, as_line, as_rows, as_next, as_held, gi_typed, pi_typed, gi_known, pi_known, gi_kept, pi_kept, gi_noted, pi_noted, gi_at, pi_at, gd_m, h1, nb_lit, nI_add, nb_sub, pk_mul, nb_lt, nb_le, nb_eq, nb_and, nb_or, nb_xor, nb_shl, nb_shl2, Option.bind_some, Option.some.injEq, Prod.mk.injEq, nI_pos, if_true, if_false, ite_true, ite_false, not_true_eq_false, not_false_eq_true, and_true, true_and, and_self, or_self, b10_0, b10_1, b01_0, b01_1, b10_o, b01_o, or_true, true_or, or_false, false_or, and_false, false_and, eq_self, Nat.reduceEqDiff, b_em, b_me, ly_m, Nat.reduceLT, Nat.reduceLeDiff, Nat.reduceAdd, Nat.reduceMul, Nat.reduceSub, Bool.false_eq_true, Nat.not_lt_zero, h8, m_L51 H (show U.1 < 8 by omega) h1, cpy_out]
    refine ⟨_, rfl, ⟨?_, fun i hi => ?_⟩, fun a ha hb => ?_, fun j hj => ?_⟩
    · simp only [putU, h8, if_false, hb_up_same]
    · have hi : i < U.1 + 1 := by simpa [putU, h8] using hi
      simp only [putU, h8, if_false]
      by_cases h7 : i = U.1
      · subst h7
        rw [if_pos rfl]
        refine S.congr hs (fun k hk => ?_)
        rw [hb_up_ne (by omega), cpy_in (by omega) (by omega)]
        exact congrArg _ (by omega)
      · rw [if_neg h7]
        refine (h2 i (by omega)).congr (hW _ (by omega)) (fun k hk => ?_)
        rw [hb_up_ne (by omega), cpy_out (by omega)]
    · funext j
      rw [hb_up_ne (by omega), cpy_out (by omega)]
    · rw [hb_up_ne (by omega), cpy_out (by omega)]
end M4
