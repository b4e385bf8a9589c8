/-! the reference: small pieces -/
theorem b10_0 (c : Prop) [Decidable c] : ((if c then nI 1 else nI 0) = nI 0) = ¬ c := by
  by_cases h : c <;> simp [h] <;> decide
theorem b10_1 (c : Prop) [Decidable c] : ((if c then nI 1 else nI 0) = nI 1) = c := by
  by_cases h : c <;> simp [h] <;> decide
theorem b01_0 (c : Prop) [Decidable c] : ((if c then nI 0 else nI 1) = nI 0) = c := by
  by_cases h : c <;> simp [h] <;> decide
theorem b01_1 (c : Prop) [Decidable c] : ((if c then nI 0 else nI 1) = nI 1) = ¬ c := by
  by_cases h : c <;> simp [h] <;> decide
theorem b10_o (c : Prop) [Decidable c] : ((if c then nI 1 else nI 0) = nI 0 ∨ (if c then nI 1 else nI 0) = nI 1) = True := by
  by_cases h : c <;> simp [h]
theorem b01_o (c : Prop) [Decidable c] : ((if c then nI 0 else nI 1) = nI 0 ∨ (if c then nI 0 else nI 1) = nI 1) = True := by
  by_cases h : c <;> simp [h]
theorem b_em (c : Prop) : (c ∨ ¬ c) = True := eq_true (Classical.em c)
theorem b_me (c : Prop) : (¬ c ∨ c) = True := eq_true (Classical.em c).symm
theorem gd_m2 : (114 < 130 ∧ (mx_lay 114).1 = 15) = True := by simp; decide
theorem nb_shl2 {w : Nat} (hw : w < 31) : nI 1 <<< nI (w &&& 31) = nI (2 ^ w) := by
  rw [← nb_and]
  exact nb_shl hw
theorem ly_m : (mx_lay 114).1 = 15 := by decide
section M1
variable {m : Nat → Nat → Int32} {r : Nat → Nat → Option Nat} {b : Bo} {s : St} {n : Nat}
theorem to_N (T : TO (m 116) b) : m 116 0 = nI (bN b) := T.1
theorem to_M (T : TO (m 116) b) : m 116 1 = nI (bM b) := T.2.1
theorem to_C (T : TO (m 116) b) : m 116 2 = nI (bC b) := T.2.2.1
theorem to_K (T : TO (m 116) b) {w : Nat} (hw : w < bN b) : m 116 (3 + w) = nI (bK b w) := (T.2.2.2.1 w hw).1
theorem to_W (T : TO (m 116) b) {w : Nat} (hw : w < bN b) : m 116 (13 + w) = nI (bW b w) := (T.2.2.2.1 w hw).2.1
theorem to_E (T : TO (m 116) b) {w : Nat} (hw : w < bN b) : m 116 (23 + w) = nI (bE b w) := (T.2.2.2.1 w hw).2.2
theorem to_Y (T : TO (m 116) b) {i : Nat} (hi : i < 2) : m 116 (33 + i) = nI (bY b i) := T.2.2.2.2 i hi
theorem sm_W (S : SM (m 118) 0 s) {i : Nat} (hi : i < sN s) : m 118 i = nI (sW s i) := by have := S.1 i hi; rwa [Nat.zero_add] at this
theorem sm_N (S : SM (m 118) 0 s) : m 118 12 = nI (sN s) := S.2.1
theorem sm_C (S : SM (m 118) 0 s) : m 118 13 = nI (sC s) := S.2.2.1
theorem sm_T (S : SM (m 118) 0 s) : m 118 14 = sT s := S.2.2.2.1
theorem sm_D (S : SM (m 118) 0 s) {i : Nat} (hi : i < 2) : m 118 (15 + i) = sD s i := (S.2.2.2.2.1 i hi).1
theorem sm_G (S : SM (m 118) 0 s) {i : Nat} (hi : i < 2) : m 118 (17 + i) = sG s i := (S.2.2.2.2.1 i hi).2.1
theorem sm_Y (S : SM (m 118) 0 s) {i : Nat} (hi : i < 2) : m 118 (19 + i) = nI (sY s i) := (S.2.2.2.2.1 i hi).2.2
theorem sm_P (S : SM (m 118) 0 s) : m 118 21 = sP s := S.2.2.2.2.2
theorem wf_N (B : WFb b) : 1 ≤ bN b ∧ bN b ≤ 10 := B.1
theorem wf_K (B : WFb b) {w : Nat} (hw : w < bN b) : bK b w < 4 := (B.2.1 w hw).1
theorem wf_W (B : WFb b) {w : Nat} (hw : w < bN b) : bW b w < 10 := (B.2.1 w hw).2.1
theorem wf_E (B : WFb b) {w : Nat} (hw : w < bN b) : bE b w < 2 ^ bN b := (B.2.1 w hw).2.2
theorem wf_E2 (B : WFb b) {w : Nat} (hw : w < bN b) : bE b w < 1024 := lt1024 (wf_E B hw) B.1.2
theorem m_isW (H : MR r) (T : TO (m 116) b) (B : WFb b) {w : Nat} (hw : w < bN b) : f_X12_isWord 114 (nI w) (130, m, r) = some 1 := by
  have hn := wf_N B
  unfold f_X12_isWord
  simp (disch := omega) only [gr_text H, gr_told H, gr_draft H, gr_s H, gr_past H, gr_images H, gr_notes H, gr_levels H, gr_row H, gr_reach H, gr_gains H, gr_line H, gr_rows H, gr_next H, gr_held H, al_text, al_told, al_draft, al_s, al_past, al_images, al_notes, al_levels, al_row, al_reach, al_gains, al_line, al_rows, al_next, al_held, as_text, as_told, as_draft, as_s, as_past, as_images, as_notes, as_levels, as_row, as_reach, as_gains, as_line, as_rows, as_next, as_held, gi_typed, pi_typed, gi_known, pi_known, gi_kept, pi_kept, gi_noted, pi_noted, gi_at, pi_at, gd_m, mb_in, to_N T, nb_lit, nI_add, nb_sub, pk_mul, nb_lt, nb_le, nb_eq, nb_and, nb_or, nb_xor, nb_shl, nb_shl2, Option.bind_some, Option.some.injEq, Prod.mk.injEq, nI_pos, if_true, if_false, ite_true, ite_false, not_true_eq_false, not_false_eq_true, and_true, true_and, and_self, or_self, b10_0, b10_1, b01_0, b01_1, b10_o, b01_o, or_true, true_or, or_false, false_or, and_false, false_and, eq_self, Nat.reduceEqDiff, b_em, b_me, ly_m, Nat.reduceLT, Nat.reduceLeDiff, Nat.reduceAdd, Nat.reduceMul, Nat.reduceSub, Bool.false_eq_true, Nat.not_lt_zero]
  omega
theorem m_noW (H : MR r) (T : TO (m 116) b) (B : WFb b) {x : Int32} (hx : x < 0 ∨ nI (bN b) ≤ x) : f_X12_isWord 114 x (130, m, r) = some 0 := by
  have hn := wf_N B
  unfold f_X12_isWord
  simp (disch := omega) only [gr_text H, gr_told H, gr_draft H, gr_s H, gr_past H, gr_images H, gr_notes H, gr_levels H, gr_row H, gr_reach H, gr_gains H, gr_line H, gr_rows H, gr_next H, gr_held H, al_text, al_told, al_draft, al_s, al_past, al_images, al_notes, al_levels, al_row, al_reach, al_gains, al_line, al_rows, al_next, al_held, as_text, as_told, as_draft, as_s, as_past, as_images, as_notes, as_levels, as_row, as_reach, as_gains, as_line, as_rows, as_next, as_held, gi_typed, pi_typed, gi_known, pi_known, gi_kept, pi_kept, gi_noted, pi_noted, gi_at, pi_at, gd_m, mb_in, to_N T, nb_lit, nI_add, nb_sub, pk_mul, nb_lt, nb_le, nb_eq, nb_and, nb_or, nb_xor, nb_shl, nb_shl2, Option.bind_some, Option.some.injEq, Prod.mk.injEq, nI_pos, if_true, if_false, ite_true, ite_false, not_true_eq_false, not_false_eq_true, and_true, true_and, and_self, or_self, b10_0, b10_1, b01_0, b01_1, b10_o, b01_o, or_true, true_or, or_false, false_or, and_false, false_and, eq_self, Nat.reduceEqDiff, b_em, b_me, ly_m, Nat.reduceLT, Nat.reduceLeDiff, Nat.reduceAdd, Nat.reduceMul, Nat.reduceSub, Bool.false_eq_true, Nat.not_lt_zero]
  rcases hx with h | h
  · exact Or.inl h
  · refine Or.inr (Int32.lt_of_lt_of_le ?_ h)
    exact (nb_lt (by omega) (by omega)).mpr (by omega)
theorem m_last (H : MR r) (S : SM (m 118) 0 s) (h0 : 0 < sN s) (h1 : sN s ≤ 12) : f_X12_last 114 (130, m, r) = some (nI (lastW s)) := by
  unfold f_X12_last
  simp (disch := omega) only [gr_text H, gr_told H, gr_draft H, gr_s H, gr_past H, gr_images H, gr_notes H, gr_levels H, gr_row H, gr_reach H, gr_gains H, gr_line H, gr_rows H, gr_next H, gr_held H, al_text, al_told, al_draft, al_s, al_past, al_images, al_notes, al_levels, al_row, al_reach, al_gains, al_line, al_rows, al_next, al_held, as_text, as_told, as_draft, as_s, as_past, as_images, as_notes, as_levels, as_row, as_reach, as_gains, as_line, as_rows, as_next, as_held, gi_typed, pi_typed, gi_known, pi_known, gi_kept, pi_kept, gi_noted, pi_noted, gi_at, pi_at, gd_m, sm_N S, sm_W S, nb_lit, nI_add, nb_sub, pk_mul, nb_lt, nb_le, nb_eq, nb_and, nb_or, nb_xor, nb_shl, nb_shl2, Option.bind_some, Option.some.injEq, Prod.mk.injEq, nI_pos, if_true, if_false, ite_true, ite_false, not_true_eq_false, not_false_eq_true, and_true, true_and, and_self, or_self, b10_0, b10_1, b01_0, b01_1, b10_o, b01_o, or_true, true_or, or_false, false_or, and_false, false_and, eq_self, Nat.reduceEqDiff, b_em, b_me, ly_m, Nat.reduceLT, Nat.reduceLeDiff, Nat.reduceAdd, Nat.reduceMul, Nat.reduceSub, Bool.false_eq_true, Nat.not_lt_zero]
  rfl
theorem m_maySay (H : MR r) (T : TO (m 116) b) (B : WFb b) (S : SM (m 118) 0 s) (F : WFs (bN b) s) {w : Nat} (hw : w < bN b) : f_X12_maySay 114 (nI w) (130, m, r) = some (if fitsW b s w then 1 else 0) := by
  have hn := wf_N B
  have hs := F.1
  unfold f_X12_maySay
  by_cases h0 : sN s = 0
  · simp (disch := omega) only [gr_text H, gr_told H, gr_draft H, gr_s H, gr_past H, gr_images H, gr_notes H, gr_levels H, gr_row H, gr_reach H, gr_gains H, gr_line H, gr_rows H, gr_next H, gr_held H, al_text, al_told, al_draft, al_s, al_past, al_images, al_notes, al_levels, al_row, al_reach, al_gains, al_line, al_rows, al_next, al_held, as_text, as_told, as_draft, as_s, as_past, as_images, as_notes, as_levels, as_row, as_reach, as_gains, as_line, as_rows, as_next, as_held, gi_typed, pi_typed, gi_known, pi_known, gi_kept, pi_kept, gi_noted, pi_noted, gi_at, pi_at, gd_m, sm_N S, h0, nb_lit, nI_add, nb_sub, pk_mul, nb_lt, nb_le, nb_eq, nb_and, nb_or, nb_xor, nb_shl, nb_shl2, Option.bind_some, Option.some.injEq, Prod.mk.injEq, nI_pos, if_true, if_false, ite_true, ite_false, not_true_eq_false, not_false_eq_true, and_true, true_and, and_self, or_self, b10_0, b10_1, b01_0, b01_1, b10_o, b01_o, or_true, true_or, or_false, false_or, and_false, false_and, eq_self, Nat.reduceEqDiff, b_em, b_me, ly_m, Nat.reduceLT, Nat.reduceLeDiff, Nat.reduceAdd, Nat.reduceMul, Nat.reduceSub, Bool.false_eq_true, Nat.not_lt_zero, fitsW, decide_true, Bool.true_or]
  · have hl : lastW s < bN b := F.2.1 _ (by omega)
    have hE := wf_E2 B hl
    simp (disch := omega) only [gr_text H, gr_told H, gr_draft H, gr_s H, gr_past H, gr_images H, gr_notes H, gr_levels H, gr_row H, gr_reach H, gr_gains H, gr_line H, gr_rows H, gr_next H, gr_held H, al_text, al_told, al_draft, al_s, al_past, al_images, al_notes, al_levels, al_row, al_reach, al_gains, al_line, al_rows, al_next, al_held, as_text, as_told, as_draft, as_s, as_past, as_images, as_notes, as_levels, as_row, as_reach, as_gains, as_line, as_rows, as_next, as_held, gi_typed, pi_typed, gi_known, pi_known, gi_kept, pi_kept, gi_noted, pi_noted, gi_at, pi_at, gd_m, sm_N S, m_last H S, to_E T hl, mb_has, h0, nb_lit, nI_add, nb_sub, pk_mul, nb_lt, nb_le, nb_eq, nb_and, nb_or, nb_xor, nb_shl, nb_shl2, Option.bind_some, Option.some.injEq, Prod.mk.injEq, nI_pos, if_true, if_false, ite_true, ite_false, not_true_eq_false, not_false_eq_true, and_true, true_and, and_self, or_self, b10_0, b10_1, b01_0, b01_1, b10_o, b01_o, or_true, true_or, or_false, false_or, and_false, false_and, eq_self, Nat.reduceEqDiff, b_em, b_me, ly_m, Nat.reduceLT, Nat.reduceLeDiff, Nat.reduceAdd, Nat.reduceMul, Nat.reduceSub, Bool.false_eq_true, Nat.not_lt_zero, fitsW, decide_false, Bool.false_or]
    by_cases hf : (bE b (lastW s)).testBit w = true
    · simp (disch := omega) only [hf, nb_lit, nI_add, nb_sub, pk_mul, nb_lt, nb_le, nb_eq, nb_and, nb_or, nb_xor, nb_shl, nb_shl2, Option.bind_some, Option.some.injEq, Prod.mk.injEq, nI_pos, if_true, if_false, ite_true, ite_false, not_true_eq_false, not_false_eq_true, and_true, true_and, and_self, or_self, b10_0, b10_1, b01_0, b01_1, b10_o, b01_o, or_true, true_or, or_false, false_or, and_false, false_and, eq_self, Nat.reduceEqDiff, b_em, b_me, ly_m, Nat.reduceLT, Nat.reduceLeDiff, Nat.reduceAdd, Nat.reduceMul, Nat.reduceSub, Bool.false_eq_true, Nat.not_lt_zero]
    · simp (disch := omega) only [hf, nb_lit, nI_add, nb_sub, pk_mul, nb_lt, nb_le, nb_eq, nb_and, nb_or, nb_xor, nb_shl, nb_shl2, Option.bind_some, Option.some.injEq, Prod.mk.injEq, nI_pos, if_true, if_false, ite_true, ite_false, not_true_eq_false, not_false_eq_true, and_true, true_and, and_self, or_self, b10_0, b10_1, b01_0, b01_1, b10_o, b01_o, or_true, true_or, or_false, false_or, and_false, false_and, eq_self, Nat.reduceEqDiff, b_em, b_me, ly_m, Nat.reduceLT, Nat.reduceLeDiff, Nat.reduceAdd, Nat.reduceMul, Nat.reduceSub, Bool.false_eq_true, Nat.not_lt_zero]
theorem m_says (H : MR r) (S : SM (m 118) 0 s) (hs : sN s < 12) {w : Nat} : ∃ m', f_X12_says 114 (nI w) (130, m, r) = some (130, m', r) ∧ SM (m' 118) 0 (saidS s w) ∧ ∀ a, a ≠ 118 → m' a = m a := by
  unfold f_X12_says
  simp (disch := omega) only [gr_text H, gr_told H, gr_draft H, gr_s H, gr_past H, gr_images H, gr_notes H, gr_levels H, gr_row H, gr_reach H, gr_gains H, gr_line H, gr_rows H, gr_next H, gr_held H, al_text, al_told, al_draft, al_s, al_past, al_images, al_notes, al_levels, al_row, al_reach, al_gains, al_line, al_rows, al_next, al_held, as_text, as_told, as_draft, as_s, as_past, as_images, as_notes, as_levels, as_row, as_reach, as_gains, as_line, as_rows, as_next, as_held, gi_typed, pi_typed, gi_known, pi_known, gi_kept, pi_kept, gi_noted, pi_noted, gi_at, pi_at, gd_m, sm_N S, sm_T S, nb_lit, nI_add, nb_sub, pk_mul, nb_lt, nb_le, nb_eq, nb_and, nb_or, nb_xor, nb_shl, nb_shl2, Option.bind_some, Option.some.injEq, Prod.mk.injEq, nI_pos, if_true, if_false, ite_true, ite_false, not_true_eq_false, not_false_eq_true, and_true, true_and, and_self, or_self, b10_0, b10_1, b01_0, b01_1, b10_o, b01_o, or_true, true_or, or_false, false_or, and_false, false_and, eq_self, Nat.reduceEqDiff, b_em, b_me, ly_m, Nat.reduceLT, Nat.reduceLeDiff, Nat.reduceAdd, Nat.reduceMul, Nat.reduceSub, Bool.false_eq_true, Nat.not_lt_zero, hb_up_same, hb_up_ne, ne_eq]
  refine ⟨_, rfl, ?_, fun a ha => ?_⟩
  · obtain ⟨h1, h2, h3, h4, h5, h6⟩ := S
    simp only [Nat.zero_add] at h1 h2 h3 h4 h5 h6
    refine ⟨fun i hi => ?_, ?_, ?_, ?_, fun i hi => ⟨?_, ?_, ?_⟩, ?_⟩
    · have hi : i < sN s + 1 := hi
      show mx_up _ _ _ _ _ _ = nI (if i = sN s then w else sW s i)
      by_cases he : i = sN s
      · subst he
        simp (disch := omega) only [Nat.zero_add, if_true, hb_up_same, hb_up_ne, ne_eq]
      · simp (disch := omega) only [Nat.zero_add, if_neg he, hb_up_same, hb_up_ne, ne_eq]
        exact h1 i (by omega)
    · simp (disch := omega) only [Nat.zero_add, hb_up_same, hb_up_ne, ne_eq]
      rfl
    · simp (disch := omega) only [Nat.zero_add, hb_up_same, hb_up_ne, ne_eq]
      exact h3
    · simp (disch := omega) only [Nat.zero_add, hb_up_same, hb_up_ne, ne_eq]
      rfl
    · simp (disch := omega) only [Nat.zero_add, hb_up_same, hb_up_ne, ne_eq]
      exact (h5 i hi).1
    · simp (disch := omega) only [Nat.zero_add, hb_up_same, hb_up_ne, ne_eq]
      exact (h5 i hi).2.1
    · simp (disch := omega) only [Nat.zero_add, hb_up_same, hb_up_ne, ne_eq]
      exact (h5 i hi).2.2
    · simp (disch := omega) only [Nat.zero_add, hb_up_same, hb_up_ne, ne_eq]
      exact h6
  · funext j
    simp (disch := omega) only [hb_up_same, hb_up_ne, ne_eq]
end M1
