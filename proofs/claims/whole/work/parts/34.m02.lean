/-! the reference: decrees, levels, finishings -/
theorem up_up {α : Type} {m : Nat → Nat → α} {a j : Nat} {u v : α} : mx_up (mx_up m a j u) a j v = mx_up m a j v := by
  funext c i
  unfold mx_up
  split <;> simp_all
theorem up_id {α : Type} {m : Nat → Nat → α} {a j : Nat} {v : α} (h : m a j = v) : mx_up m a j v = m := by
  funext c i
  unfold mx_up
  split
  · rename_i q
    rw [q.1, q.2, h]
  · rfl
theorem fix_1 {α ρ : Type} {F : (α → Option ρ) → α → Option ρ} {f : Nat} {s : α} : mx_fix F (f + 1) s = F (mx_fix F f) s := rfl
section M2
variable {m : Nat → Nat → Int32} {r : Nat → Nat → Option Nat} {b : Bo} {s : St}
theorem wf_s (F : WFs (bN b) s) : sN s ≤ 12 := F.1
theorem wf_c (F : WFs (bN b) s) : sC s < 2 := F.2.2.2
theorem wf_y (B : WFb b) (F : WFs (bN b) s) {i : Nat} (hi : i < 2) : sY s i < 1024 := lt1024 (F.2.2.1 i hi) B.1.2
theorem wf_l (F : WFs (bN b) s) (h : 0 < sN s) : lastW s < bN b := F.2.1 _ (by omega)
theorem m_worth (H : MR r) (T : TO (m 116) b) (B : WFb b) (S : SM (m 118) 0 s) (F : WFs (bN b) s) : f_X12_worthNow 114 (130, m, r) = some (nI (sumW b (sW s) (sN s))) := by
  have hs := wf_s F
  have hn := wf_N B
  unfold f_X12_worthNow
  refine fix_up (fun i => (nI (sumW b (sW s) i), nI i)) (sN s) (fun i hi self => ?_) (fun self => ?_) (by omega)
  · have hw := F.2.1 i hi
    unfold f_X12_worthNow_L4
    simp (disch := omega) only [gr_text H, gr_told H, gr_draft H, gr_s H, gr_past H, gr_images H, gr_notes H, gr_levels H, gr_row H, gr_reach H, gr_gains H, gr_line H, gr_rows H, gr_next H, gr_held H, al_text, al_told, al_draft, al_s, al_past, al_images, al_notes, al_levels, al_row, al_reach, al_gains, al_line, al_rows, al_next, al_held, as_text, as_told, as_draft, as_s, as_past, as_images, as_notes, as_levels, as_row, as_reach, as_gains, as_line, as_rows, as_next, as_held, gi_typed, pi_typed, gi_known, pi_known, gi_kept, pi_kept, gi_noted, pi_noted, gi_at, pi_at, gd_m, sm_N S, sm_W S hi, to_W T hw, nb_lit, nI_add, nb_sub, pk_mul, nb_lt, nb_le, nb_eq, nb_and, nb_or, nb_xor, nb_shl, nb_shl2, Option.bind_some, Option.some.injEq, Prod.mk.injEq, nI_pos, if_true, if_false, ite_true, ite_false, not_true_eq_false, not_false_eq_true, and_true, true_and, and_self, or_self, b10_0, b10_1, b01_0, b01_1, b10_o, b01_o, or_true, true_or, or_false, false_or, and_false, false_and, eq_self, Nat.reduceEqDiff, b_em, b_me, ly_m, Nat.reduceLT, Nat.reduceLeDiff, Nat.reduceAdd, Nat.reduceMul, Nat.reduceSub, Bool.false_eq_true, Nat.not_lt_zero]
    rw [if_neg (by omega)]
    rfl
  · unfold f_X12_worthNow_L4
    simp (disch := omega) only [gr_text H, gr_told H, gr_draft H, gr_s H, gr_past H, gr_images H, gr_notes H, gr_levels H, gr_row H, gr_reach H, gr_gains H, gr_line H, gr_rows H, gr_next H, gr_held H, al_text, al_told, al_draft, al_s, al_past, al_images, al_notes, al_levels, al_row, al_reach, al_gains, al_line, al_rows, al_next, al_held, as_text, as_told, as_draft, as_s, as_past, as_images, as_notes, as_levels, as_row, as_reach, as_gains, as_line, as_rows, as_next, as_held, gi_typed, pi_typed, gi_known, pi_known, gi_kept, pi_kept, gi_noted, pi_noted, gi_at, pi_at, gd_m, sm_N S, nb_lit, nI_add, nb_sub, pk_mul, nb_lt, nb_le, nb_eq, nb_and, nb_or, nb_xor, nb_shl, nb_shl2, Option.bind_some, Option.some.injEq, Prod.mk.injEq, nI_pos, if_true, if_false, ite_true, ite_false, not_true_eq_false, not_false_eq_true, and_true, true_and, and_self, or_self, b10_0, b10_1, b01_0, b01_1, b10_o, b01_o, or_true, true_or, or_false, false_or, and_false, false_and, eq_self, Nat.reduceEqDiff, b_em, b_me, ly_m, Nat.reduceLT, Nat.reduceLeDiff, Nat.reduceAdd, Nat.reduceMul, Nat.reduceSub, Bool.false_eq_true, Nat.not_lt_zero]
    rw [if_pos (by omega)]
theorem m_decrees (H : MR r) (S : SM (m 118) 0 s) (hs : sN s ≤ 12) {i v : Nat} (hi : i < 2) : ∃ m', f_X12_decrees 114 (nI i) (nI v) (130, m, r) = some (130, m', r) ∧ SM (m' 118) 0 (decS s i v) ∧ ∀ a, a ≠ 118 → m' a = m a := by
  unfold f_X12_decrees
  simp (disch := omega) only [gr_text H, gr_told H, gr_draft H, gr_s H, gr_past H, gr_images H, gr_notes H, gr_levels H, gr_row H, gr_reach H, gr_gains H, gr_line H, gr_rows H, gr_next H, gr_held H, al_text, al_told, al_draft, al_s, al_past, al_images, al_notes, al_levels, al_row, al_reach, al_gains, al_line, al_rows, al_next, al_held, as_text, as_told, as_draft, as_s, as_past, as_images, as_notes, as_levels, as_row, as_reach, as_gains, as_line, as_rows, as_next, as_held, gi_typed, pi_typed, gi_known, pi_known, gi_kept, pi_kept, gi_noted, pi_noted, gi_at, pi_at, gd_m, sm_D S hi, sm_G S hi, nb_lit, nI_add, nb_sub, pk_mul, nb_lt, nb_le, nb_eq, nb_and, nb_or, nb_xor, nb_shl, nb_shl2, Option.bind_some, Option.some.injEq, Prod.mk.injEq, nI_pos, if_true, if_false, ite_true, ite_false, not_true_eq_false, not_false_eq_true, and_true, true_and, and_self, or_self, b10_0, b10_1, b01_0, b01_1, b10_o, b01_o, or_true, true_or, or_false, false_or, and_false, false_and, eq_self, Nat.reduceEqDiff, b_em, b_me, ly_m, Nat.reduceLT, Nat.reduceLeDiff, Nat.reduceAdd, Nat.reduceMul, Nat.reduceSub, Bool.false_eq_true, Nat.not_lt_zero, hb_up_same, hb_up_ne, ne_eq]
  refine ⟨_, rfl, ?_, fun a ha => ?_⟩
  · obtain ⟨h1, h2, h3, h4, h5, h6⟩ := S
    simp only [Nat.zero_add] at h1 h2 h3 h4 h5 h6
    refine ⟨fun j hj => ?_, ?_, ?_, ?_, fun j hj => ⟨?_, ?_, ?_⟩, ?_⟩
    · exact absurd hj (Nat.not_lt_zero j)
    · simp (disch := omega) only [Nat.zero_add, hb_up_same, hb_up_ne, ne_eq]
      rfl
    · simp (disch := omega) only [Nat.zero_add, hb_up_same, hb_up_ne, ne_eq]
      exact h3
    · simp (disch := omega) only [Nat.zero_add, hb_up_same, hb_up_ne, ne_eq]
      exact h4
    · show _ = if j = i then sD s j + 1 else sD s j
      by_cases he : j = i
      · subst he
        simp (disch := omega) only [Nat.zero_add, hb_up_same, hb_up_ne, ne_eq, if_true, nb_lit]
      · simp (disch := omega) only [Nat.zero_add, hb_up_same, hb_up_ne, ne_eq, if_neg he]
        exact (h5 j hj).1
    · show _ = if j = i then sG s j + nI v else sG s j
      by_cases he : j = i
      · subst he
        simp (disch := omega) only [Nat.zero_add, hb_up_same, hb_up_ne, ne_eq, if_true]
      · simp (disch := omega) only [Nat.zero_add, hb_up_same, hb_up_ne, ne_eq, if_neg he]
        exact (h5 j hj).2.1
    · simp (disch := omega) only [Nat.zero_add, hb_up_same, hb_up_ne, ne_eq]
      exact (h5 j hj).2.2
    · simp (disch := omega) only [Nat.zero_add, hb_up_same, hb_up_ne, ne_eq]
      exact h6
  · funext j
    simp (disch := omega) only [hb_up_same, hb_up_ne, ne_eq]
theorem m_mayEnd (H : MR r) (T : TO (m 116) b) (B : WFb b) (S : SM (m 118) 0 s) (F : WFs (bN b) s) : f_X12_mayEnd 114 (130, m, r) = some (if mayEnd b s then 1 else 0) := by
  have hs := wf_s F
  have hn := wf_N B
  unfold f_X12_mayEnd mayEnd
  by_cases h0 : sN s = 0
  · simp (disch := omega) only [gr_text H, gr_told H, gr_draft H, gr_s H, gr_past H, gr_images H, gr_notes H, gr_levels H, gr_row H, gr_reach H, gr_gains H, gr_line H, gr_rows H, gr_next H, gr_held H, al_text, al_told, al_draft, al_s, al_past, al_images, al_notes, al_levels, al_row, al_reach, al_gains, al_line, al_rows, al_next, al_held, as_text, as_told, as_draft, as_s, as_past, as_images, as_notes, as_levels, as_row, as_reach, as_gains, as_line, as_rows, as_next, as_held, gi_typed, pi_typed, gi_known, pi_known, gi_kept, pi_kept, gi_noted, pi_noted, gi_at, pi_at, gd_m, sm_N S, h0, nb_lit, nI_add, nb_sub, pk_mul, nb_lt, nb_le, nb_eq, nb_and, nb_or, nb_xor, nb_shl, nb_shl2, Option.bind_some, Option.some.injEq, Prod.mk.injEq, nI_pos, if_true, if_false, ite_true, ite_false, not_true_eq_false, not_false_eq_true, and_true, true_and, and_self, or_self, b10_0, b10_1, b01_0, b01_1, b10_o, b01_o, or_true, true_or, or_false, false_or, and_false, false_and, eq_self, Nat.reduceEqDiff, b_em, b_me, ly_m, Nat.reduceLT, Nat.reduceLeDiff, Nat.reduceAdd, Nat.reduceMul, Nat.reduceSub, Bool.false_eq_true, Nat.not_lt_zero, decide_false, Bool.false_and, Nat.le_refl]
  · have hl := wf_l F (by omega)
    have hK := wf_K B hl
    simp (disch := omega) only [gr_text H, gr_told H, gr_draft H, gr_s H, gr_past H, gr_images H, gr_notes H, gr_levels H, gr_row H, gr_reach H, gr_gains H, gr_line H, gr_rows H, gr_next H, gr_held H, al_text, al_told, al_draft, al_s, al_past, al_images, al_notes, al_levels, al_row, al_reach, al_gains, al_line, al_rows, al_next, al_held, as_text, as_told, as_draft, as_s, as_past, as_images, as_notes, as_levels, as_row, as_reach, as_gains, as_line, as_rows, as_next, as_held, gi_typed, pi_typed, gi_known, pi_known, gi_kept, pi_kept, gi_noted, pi_noted, gi_at, pi_at, gd_m, sm_N S, m_last H S, to_K T hl, h0, nb_lit, nI_add, nb_sub, pk_mul, nb_lt, nb_le, nb_eq, nb_and, nb_or, nb_xor, nb_shl, nb_shl2, Option.bind_some, Option.some.injEq, Prod.mk.injEq, nI_pos, if_true, if_false, ite_true, ite_false, not_true_eq_false, not_false_eq_true, and_true, true_and, and_self, or_self, b10_0, b10_1, b01_0, b01_1, b10_o, b01_o, or_true, true_or, or_false, false_or, and_false, false_and, eq_self, Nat.reduceEqDiff, b_em, b_me, ly_m, Nat.reduceLT, Nat.reduceLeDiff, Nat.reduceAdd, Nat.reduceMul, Nat.reduceSub, Bool.false_eq_true, Nat.not_lt_zero, show (sN s ≤ 0) = False from eq_false (by omega), show (0 < sN s) = True from eq_true (by omega), decide_true, Bool.true_and]
    by_cases hk : bK b (lastW s) = 2
    · simp (disch := omega) only [hk, nb_lit, nI_add, nb_sub, pk_mul, nb_lt, nb_le, nb_eq, nb_and, nb_or, nb_xor, nb_shl, nb_shl2, Option.bind_some, Option.some.injEq, Prod.mk.injEq, nI_pos, if_true, if_false, ite_true, ite_false, not_true_eq_false, not_false_eq_true, and_true, true_and, and_self, or_self, b10_0, b10_1, b01_0, b01_1, b10_o, b01_o, or_true, true_or, or_false, false_or, and_false, false_and, eq_self, Nat.reduceEqDiff, b_em, b_me, ly_m, Nat.reduceLT, Nat.reduceLeDiff, Nat.reduceAdd, Nat.reduceMul, Nat.reduceSub, Bool.false_eq_true, Nat.not_lt_zero, decide_true]
    · simp (disch := omega) only [hk, nb_lit, nI_add, nb_sub, pk_mul, nb_lt, nb_le, nb_eq, nb_and, nb_or, nb_xor, nb_shl, nb_shl2, Option.bind_some, Option.some.injEq, Prod.mk.injEq, nI_pos, if_true, if_false, ite_true, ite_false, not_true_eq_false, not_false_eq_true, and_true, true_and, and_self, or_self, b10_0, b10_1, b01_0, b01_1, b10_o, b01_o, or_true, true_or, or_false, false_or, and_false, false_and, eq_self, Nat.reduceEqDiff, b_em, b_me, ly_m, Nat.reduceLT, Nat.reduceLeDiff, Nat.reduceAdd, Nat.reduceMul, Nat.reduceSub, Bool.false_eq_true, Nat.not_lt_zero, decide_false]
theorem m_stops (H : MR r) (T : TO (m 116) b) (B : WFb b) : f_X12_stops 114 (130, m, r) = some (nI (stopsB b)) := by
  have hn := wf_N B
  unfold f_X12_stops stopsB
  refine fix_up (fun i => (nI (mk (fun w => decide (bK b w = 2)) i), nI i)) (bN b) (fun i hi self => ?_) (fun self => ?_) (by omega)
  · have hK := wf_K B hi
    unfold f_X12_stops_L4
    simp (disch := omega) only [gr_text H, gr_told H, gr_draft H, gr_s H, gr_past H, gr_images H, gr_notes H, gr_levels H, gr_row H, gr_reach H, gr_gains H, gr_line H, gr_rows H, gr_next H, gr_held H, al_text, al_told, al_draft, al_s, al_past, al_images, al_notes, al_levels, al_row, al_reach, al_gains, al_line, al_rows, al_next, al_held, as_text, as_told, as_draft, as_s, as_past, as_images, as_notes, as_levels, as_row, as_reach, as_gains, as_line, as_rows, as_next, as_held, gi_typed, pi_typed, gi_known, pi_known, gi_kept, pi_kept, gi_noted, pi_noted, gi_at, pi_at, gd_m, to_N T, to_K T hi, nb_lit, nI_add, nb_sub, pk_mul, nb_lt, nb_le, nb_eq, nb_and, nb_or, nb_xor, nb_shl, nb_shl2, Option.bind_some, Option.some.injEq, Prod.mk.injEq, nI_pos, if_true, if_false, ite_true, ite_false, not_true_eq_false, not_false_eq_true, and_true, true_and, and_self, or_self, b10_0, b10_1, b01_0, b01_1, b10_o, b01_o, or_true, true_or, or_false, false_or, and_false, false_and, eq_self, Nat.reduceEqDiff, b_em, b_me, ly_m, Nat.reduceLT, Nat.reduceLeDiff, Nat.reduceAdd, Nat.reduceMul, Nat.reduceSub, Bool.false_eq_true, Nat.not_lt_zero]
    rw [if_neg (by omega)]
    simp only [mk]
    by_cases hk : bK b i = 2
    · simp (disch := omega) only [hk, nb_lit, nI_add, nb_sub, pk_mul, nb_lt, nb_le, nb_eq, nb_and, nb_or, nb_xor, nb_shl, nb_shl2, Option.bind_some, Option.some.injEq, Prod.mk.injEq, nI_pos, if_true, if_false, ite_true, ite_false, not_true_eq_false, not_false_eq_true, and_true, true_and, and_self, or_self, b10_0, b10_1, b01_0, b01_1, b10_o, b01_o, or_true, true_or, or_false, false_or, and_false, false_and, eq_self, Nat.reduceEqDiff, b_em, b_me, ly_m, Nat.reduceLT, Nat.reduceLeDiff, Nat.reduceAdd, Nat.reduceMul, Nat.reduceSub, Bool.false_eq_true, Nat.not_lt_zero, decide_true]
    · simp (disch := omega) only [hk, nb_lit, nI_add, nb_sub, pk_mul, nb_lt, nb_le, nb_eq, nb_and, nb_or, nb_xor, nb_shl, nb_shl2, Option.bind_some, Option.some.injEq, Prod.mk.injEq, nI_pos, if_true, if_false, ite_true, ite_false, not_true_eq_false, not_false_eq_true, and_true, true_and, and_self, or_self, b10_0, b10_1, b01_0, b01_1, b10_o, b01_o, or_true, true_or, or_false, false_or, and_false, false_and, eq_self, Nat.reduceEqDiff, b_em, b_me, ly_m, Nat.reduceLT, Nat.reduceLeDiff, Nat.reduceAdd, Nat.reduceMul, Nat.reduceSub, Bool.false_eq_true, Nat.not_lt_zero, decide_false, Nat.or_zero]
  · unfold f_X12_stops_L4
    simp (disch := omega) only [gr_text H, gr_told H, gr_draft H, gr_s H, gr_past H, gr_images H, gr_notes H, gr_levels H, gr_row H, gr_reach H, gr_gains H, gr_line H, gr_rows H, gr_next H, gr_held H, al_text, al_told, al_draft, al_s, al_past, al_images, al_notes, al_levels, al_row, al_reach, al_gains, al_line, al_rows, al_next, al_held, as_text, as_told, as_draft, as_s, as_past, as_images, as_notes, as_levels, as_row, as_reach, as_gains, as_line, as_rows, as_next, as_held, gi_typed, pi_typed, gi_known, pi_known, gi_kept, pi_kept, gi_noted, pi_noted, gi_at, pi_at, gd_m, to_N T, nb_lit, nI_add, nb_sub, pk_mul, nb_lt, nb_le, nb_eq, nb_and, nb_or, nb_xor, nb_shl, nb_shl2, Option.bind_some, Option.some.injEq, Prod.mk.injEq, nI_pos, if_true, if_false, ite_true, ite_false, not_true_eq_false, not_false_eq_true, and_true, true_and, and_self, or_self, b10_0, b10_1, b01_0, b01_1, b10_o, b01_o, or_true, true_or, or_false, false_or, and_false, false_and, eq_self, Nat.reduceEqDiff, b_em, b_me, ly_m, Nat.reduceLT, Nat.reduceLeDiff, Nat.reduceAdd, Nat.reduceMul, Nat.reduceSub, Bool.false_eq_true, Nat.not_lt_zero]
    rw [if_pos (by omega)]
theorem Lv_lt (kn k : Nat) : Lv b kn k < 2 ^ bN b := by
  cases k with
  | zero => exact mk_lt _ _
  | succ k => exact mk_lt _ _
theorem Lv_2 (B : WFb b) (kn k : Nat) : Lv b kn k < 1024 := lt1024 (Lv_lt kn k) B.1.2
theorem m_levels (H : MR r) (T : TO (m 116) b) (B : WFb b) {kn : Nat} (hk : kn < 1024) : ∃ m', f_X12_levelsOf 114 (nI kn) (130, m, r) = some (130, m', r) ∧ (∀ k, k < 5 → m' 122 k = nI (Lv b kn k)) ∧ ∀ a, a ≠ 122 → m' a = m a := by
  have hn := wf_N B
  unfold f_X12_levelsOf
  simp (disch := omega) only [gr_text H, gr_told H, gr_draft H, gr_s H, gr_past H, gr_images H, gr_notes H, gr_levels H, gr_row H, gr_reach H, gr_gains H, gr_line H, gr_rows H, gr_next H, gr_held H, al_text, al_told, al_draft, al_s, al_past, al_images, al_notes, al_levels, al_row, al_reach, al_gains, al_line, al_rows, al_next, al_held, as_text, as_told, as_draft, as_s, as_past, as_images, as_notes, as_levels, as_row, as_reach, as_gains, as_line, as_rows, as_next, as_held, gi_typed, pi_typed, gi_known, pi_known, gi_kept, pi_kept, gi_noted, pi_noted, gi_at, pi_at, gd_m, m_stops H T B, nb_lit, nI_add, nb_sub, pk_mul, nb_lt, nb_le, nb_eq, nb_and, nb_or, nb_xor, nb_shl, nb_shl2, Option.bind_some, Option.some.injEq, Prod.mk.injEq, nI_pos, if_true, if_false, ite_true, ite_false, not_true_eq_false, not_false_eq_true, and_true, true_and, and_self, or_self, b10_0, b10_1, b01_0, b01_1, b10_o, b01_o, or_true, true_or, or_false, false_or, and_false, false_and, eq_self, Nat.reduceEqDiff, b_em, b_me, ly_m, Nat.reduceLT, Nat.reduceLeDiff, Nat.reduceAdd, Nat.reduceMul, Nat.reduceSub, Bool.false_eq_true, Nat.not_lt_zero]
  refine fix_rel (fun i q => ∃ m' : Nat → Nat → Int32, q = (nI (i + 1), (130, m', r)) ∧ (∀ k, k < i + 1 → m' 122 k = nI (Lv b kn k)) ∧ ∀ a, a ≠ 122 → m' a = m a) 4 (Q := fun o => ∃ m' : Nat → Nat → Int32, o = some (130, m', r) ∧ (∀ k, k < 5 → m' 122 k = nI (Lv b kn k)) ∧ ∀ a, a ≠ 122 → m' a = m a) ?_ ?_ (by omega) ?_
  · rintro i q hi ⟨m1, rfl, h1, h2⟩
    have T1 : TO (m1 116) b := by rw [h2 116 (by decide)]; exact T
    refine ⟨(nI (i + 1 + 1), (130, mx_up m1 122 (i + 1) (nI (Lv b kn (i + 1))), r)), ⟨_, rfl, fun k hk => ?_, fun a ha => ?_⟩, fun self => ?_⟩
    · by_cases he : k = i + 1
      · subst he
        simp only [hb_up_same]
      · rw [hb_up_ne (by omega)]
        exact h1 k (by omega)
    · funext j
      rw [hb_up_ne (by omega), h2 a ha]
    · unfold f_X12_levelsOf_L12
      simp (disch := omega) only [gr_text H, gr_told H, gr_draft H, gr_s H, gr_past H, gr_images H, gr_notes H, gr_levels H, gr_row H, gr_reach H, gr_gains H, gr_line H, gr_rows H, gr_next H, gr_held H, al_text, al_told, al_draft, al_s, al_past, al_images, al_notes, al_levels, al_row, al_reach, al_gains, al_line, al_rows, al_next, al_held, as_text, as_told, as_draft, as_s, as_past, as_images, as_notes, as_levels, as_row, as_reach, as_gains, as_line, as_rows, as_next, as_held, gi_typed, pi_typed, gi_known, pi_known, gi_kept, pi_kept, gi_noted, pi_noted, gi_at, pi_at, gd_m, nb_lit, nI_add, nb_sub, pk_mul, nb_lt, nb_le, nb_eq, nb_and, nb_or, nb_xor, nb_shl, nb_shl2, Option.bind_some, Option.some.injEq, Prod.mk.injEq, nI_pos, if_true, if_false, ite_true, ite_false, not_true_eq_false, not_false_eq_true, and_true, true_and, and_self, or_self, b10_0, b10_1, b01_0, b01_1, b10_o, b01_o, or_true, true_or, or_false, false_or, and_false, false_and, eq_self, Nat.reduceEqDiff, b_em, b_me, ly_m, Nat.reduceLT, Nat.reduceLeDiff, Nat.reduceAdd, Nat.reduceMul, Nat.reduceSub, Bool.false_eq_true, Nat.not_lt_zero]
      rw [if_neg (by omega)]
      refine fix_up (fun w => (nI w, (130, mx_up m1 122 (i + 1) (nI (mk (fun w => decide (bE b w &&& (kn &&& Lv b kn i) ≠ 0)) w)), r))) (bN b) (fun w hw self2 => ?_) (fun self2 => ?_) (by omega)
      · have hE := wf_E2 B hw
        have hL := Lv_2 B kn i
        have e1 : (mx_up m1 122 (i + 1) (nI (mk (fun w => decide (bE b w &&& (kn &&& Lv b kn i) ≠ 0)) w))) 116 = m1 116 := by
          funext j
          rw [hb_up_ne (by omega)]
        have T2 : TO ((mx_up m1 122 (i + 1) (nI (mk (fun w => decide (bE b w &&& (kn &&& Lv b kn i) ≠ 0)) w))) 116) b := by rw [e1]; exact T1
        unfold f_X12_levelsOf_L26
        simp (disch := omega) only [gr_text H, gr_told H, gr_draft H, gr_s H, gr_past H, gr_images H, gr_notes H, gr_levels H, gr_row H, gr_reach H, gr_gains H, gr_line H, gr_rows H, gr_next H, gr_held H, al_text, al_told, al_draft, al_s, al_past, al_images, al_notes, al_levels, al_row, al_reach, al_gains, al_line, al_rows, al_next, al_held, as_text, as_told, as_draft, as_s, as_past, as_images, as_notes, as_levels, as_row, as_reach, as_gains, as_line, as_rows, as_next, as_held, gi_typed, pi_typed, gi_known, pi_known, gi_kept, pi_kept, gi_noted, pi_noted, gi_at, pi_at, gd_m, to_N T2, to_E T2 hw, nb_lit, nI_add, nb_sub, pk_mul, nb_lt, nb_le, nb_eq, nb_and, nb_or, nb_xor, nb_shl, nb_shl2, Option.bind_some, Option.some.injEq, Prod.mk.injEq, nI_pos, if_true, if_false, ite_true, ite_false, not_true_eq_false, not_false_eq_true, and_true, true_and, and_self, or_self, b10_0, b10_1, b01_0, b01_1, b10_o, b01_o, or_true, true_or, or_false, false_or, and_false, false_and, eq_self, Nat.reduceEqDiff, b_em, b_me, ly_m, Nat.reduceLT, Nat.reduceLeDiff, Nat.reduceAdd, Nat.reduceMul, Nat.reduceSub, Bool.false_eq_true, Nat.not_lt_zero, hb_up_same, hb_up_ne, ne_eq, Nat.add_sub_cancel, h1, up_up]
        rw [if_neg (by omega)]
        have hA : bE b w &&& kn &&& Lv b kn i < 2 ^ 31 := by
          have := @Nat.and_le_right (bE b w &&& kn) (Lv b kn i)
          omega
        simp only [mk, Nat.and_assoc]
        rw [Nat.and_assoc] at hA
        by_cases hz : bE b w &&& (kn &&& Lv b kn i) = 0
        · simp (disch := omega) only [hz, nb_lit, nI_add, nb_sub, pk_mul, nb_lt, nb_le, nb_eq, nb_and, nb_or, nb_xor, nb_shl, nb_shl2, Option.bind_some, Option.some.injEq, Prod.mk.injEq, nI_pos, if_true, if_false, ite_true, ite_false, not_true_eq_false, not_false_eq_true, and_true, true_and, and_self, or_self, b10_0, b10_1, b01_0, b01_1, b10_o, b01_o, or_true, true_or, or_false, false_or, and_false, false_and, eq_self, Nat.reduceEqDiff, b_em, b_me, ly_m, Nat.reduceLT, Nat.reduceLeDiff, Nat.reduceAdd, Nat.reduceMul, Nat.reduceSub, Bool.false_eq_true, Nat.not_lt_zero, decide_false, Nat.or_zero]
        · simp (disch := omega) only [hz, nb_lit, nI_add, nb_sub, pk_mul, nb_lt, nb_le, nb_eq, nb_and, nb_or, nb_xor, nb_shl, nb_shl2, Option.bind_some, Option.some.injEq, Prod.mk.injEq, nI_pos, if_true, if_false, ite_true, ite_false, not_true_eq_false, not_false_eq_true, and_true, true_and, and_self, or_self, b10_0, b10_1, b01_0, b01_1, b10_o, b01_o, or_true, true_or, or_false, false_or, and_false, false_and, eq_self, Nat.reduceEqDiff, b_em, b_me, ly_m, Nat.reduceLT, Nat.reduceLeDiff, Nat.reduceAdd, Nat.reduceMul, Nat.reduceSub, Bool.false_eq_true, Nat.not_lt_zero, decide_true]
      · have e1 : (mx_up m1 122 (i + 1) (nI (mk (fun w => decide (bE b w &&& (kn &&& Lv b kn i) ≠ 0)) (bN b)))) 116 = m1 116 := by
          funext j
          rw [hb_up_ne (by omega)]
        have T2 : TO ((mx_up m1 122 (i + 1) (nI (mk (fun w => decide (bE b w &&& (kn &&& Lv b kn i) ≠ 0)) (bN b)))) 116) b := by rw [e1]; exact T1
        unfold f_X12_levelsOf_L26
        simp (disch := omega) only [gr_text H, gr_told H, gr_draft H, gr_s H, gr_past H, gr_images H, gr_notes H, gr_levels H, gr_row H, gr_reach H, gr_gains H, gr_line H, gr_rows H, gr_next H, gr_held H, al_text, al_told, al_draft, al_s, al_past, al_images, al_notes, al_levels, al_row, al_reach, al_gains, al_line, al_rows, al_next, al_held, as_text, as_told, as_draft, as_s, as_past, as_images, as_notes, as_levels, as_row, as_reach, as_gains, as_line, as_rows, as_next, as_held, gi_typed, pi_typed, gi_known, pi_known, gi_kept, pi_kept, gi_noted, pi_noted, gi_at, pi_at, gd_m, to_N T2, nb_lit, nI_add, nb_sub, pk_mul, nb_lt, nb_le, nb_eq, nb_and, nb_or, nb_xor, nb_shl, nb_shl2, Option.bind_some, Option.some.injEq, Prod.mk.injEq, nI_pos, if_true, if_false, ite_true, ite_false, not_true_eq_false, not_false_eq_true, and_true, true_and, and_self, or_self, b10_0, b10_1, b01_0, b01_1, b10_o, b01_o, or_true, true_or, or_false, false_or, and_false, false_and, eq_self, Nat.reduceEqDiff, b_em, b_me, ly_m, Nat.reduceLT, Nat.reduceLeDiff, Nat.reduceAdd, Nat.reduceMul, Nat.reduceSub, Bool.false_eq_true, Nat.not_lt_zero]
        rw [if_pos (by omega)]
        rfl
  · rintro q ⟨m1, rfl, h1, h2⟩ self
    unfold f_X12_levelsOf_L12
    simp (disch := omega) only [gr_text H, gr_told H, gr_draft H, gr_s H, gr_past H, gr_images H, gr_notes H, gr_levels H, gr_row H, gr_reach H, gr_gains H, gr_line H, gr_rows H, gr_next H, gr_held H, al_text, al_told, al_draft, al_s, al_past, al_images, al_notes, al_levels, al_row, al_reach, al_gains, al_line, al_rows, al_next, al_held, as_text, as_told, as_draft, as_s, as_past, as_images, as_notes, as_levels, as_row, as_reach, as_gains, as_line, as_rows, as_next, as_held, gi_typed, pi_typed, gi_known, pi_known, gi_kept, pi_kept, gi_noted, pi_noted, gi_at, pi_at, gd_m, nb_lit, nI_add, nb_sub, pk_mul, nb_lt, nb_le, nb_eq, nb_and, nb_or, nb_xor, nb_shl, nb_shl2, Option.bind_some, Option.some.injEq, Prod.mk.injEq, nI_pos, if_true, if_false, ite_true, ite_false, not_true_eq_false, not_false_eq_true, and_true, true_and, and_self, or_self, b10_0, b10_1, b01_0, b01_1, b10_o, b01_o, or_true, true_or, or_false, false_or, and_false, false_and, eq_self, Nat.reduceEqDiff, b_em, b_me, ly_m, Nat.reduceLT, Nat.reduceLeDiff, Nat.reduceAdd, Nat.reduceMul, Nat.reduceSub, Bool.false_eq_true, Nat.not_lt_zero]
    exact ⟨m1, rfl, h1, h2⟩
  · refine ⟨_, rfl, fun k hk => ?_, fun a ha => ?_⟩
    · have : k = 0 := by omega
      subst this
      simp only [hb_up_same]
      rfl
    · funext j
      rw [hb_up_ne (by omega)]
end M2
