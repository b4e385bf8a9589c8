/-! the reference: finishings, what is kept -/
theorem fmany_le {b : Bo} {kn w : Nat} (B : WFb b) : fmany b kn w ≤ 4 ∧ fmany b kn w ≤ bM b := by
  have := B.2.2.1
  unfold fmany
  repeat' split
  all_goals omega
theorem fmany_bit {b : Bo} {kn w : Nat} (h : 0 < fmany b kn w) : (Lv b kn (fmany b kn w)).testBit w = true := by
  unfold fmany at h ⊢
  by_cases h0 : bK b w = 1
  · rw [if_pos h0] at h; omega
  · rw [if_neg h0] at h ⊢
    split at h
    · rename_i h1; rw [if_pos h1]; exact h1
    · rename_i h1
      rw [if_neg h1]
      split at h
      · rename_i h2; rw [if_pos h2]; exact h2.2
      · rename_i h2
        rw [if_neg h2]
        split at h
        · rename_i h3; rw [if_pos h3]; exact h3.2
        · rename_i h3
          rw [if_neg h3]
          split at h
          · rename_i h4; rw [if_pos h4]; exact h4.2
          · omega
theorem Lv_next {b : Bo} (B : WFb b) {kn k w : Nat} (h : (Lv b kn (k + 1)).testBit w = true) : w < bN b ∧ fnext b kn k w < bN b ∧ (bE b w &&& (kn &&& Lv b kn k)).testBit (fnext b kn k w) = true := by
  have h1 : (mk (fun w => decide (bE b w &&& (kn &&& Lv b kn k) ≠ 0)) (bN b)).testBit w = true := h
  rw [mk_bit] at h1
  simp only [Bool.and_eq_true, decide_eq_true_eq] at h1
  obtain ⟨hw, h2⟩ := h1
  obtain ⟨i, hi, h3⟩ := (ne0_bit (n := bN b) (and_lt (wf_E B hw))).mp h2
  exact ⟨hw, fst_lt hi h3⟩
/-- along a finishing of k words behind w: the word ahead of place i -/
def ffrom (b : Bo) (kn k w : Nat) : Nat → Nat
  | 0 => w
  | i + 1 => fword b kn k w i
theorem fword_next {b : Bo} {kn k w i : Nat} : fword b kn k w i = fnext b kn (k - 1 - i) (ffrom b kn k w i) := by
  cases i with
  | zero => rfl
  | succ i => rfl
theorem ffrom_bit {b : Bo} (B : WFb b) {kn k w : Nat} (h : (Lv b kn k).testBit w = true) : ∀ i, i ≤ k → (Lv b kn (k - i)).testBit (ffrom b kn k w i) = true := by
  intro i
  induction i with
  | zero => intro _; exact h
  | succ i ih =>
    intro hi
    have h1 := ih (by omega)
    rw [show k - i = k - (i + 1) + 1 by omega] at h1
    obtain ⟨_, h2, h3⟩ := Lv_next B h1
    show (Lv b kn (k - (i + 1))).testBit (fword b kn k w i) = true
    rw [fword_next, show k - 1 - i = k - (i + 1) by omega]
    simp only [Nat.testBit_and, Bool.and_eq_true] at h3
    exact h3.2.2
theorem Lv_bitlt {b : Bo} {kn k w : Nat} (h : (Lv b kn k).testBit w = true) : w < bN b := by
  apply Decidable.byContradiction
  intro hn
  rw [lt_bit (Lv_lt kn k) (by omega)] at h
  exact absurd h (by decide)
theorem fword_lt {b : Bo} (B : WFb b) {kn w i : Nat} (hi : i < fmany b kn w) : fword b kn (fmany b kn w) w i < bN b := by
  have h1 := ffrom_bit B (fmany_bit (by omega)) (i + 1) (show i + 1 ≤ fmany b kn w by omega)
  exact Lv_bitlt h1
section M3
variable {m : Nat → Nat → Int32} {r : Nat → Nat → Option Nat} {b : Bo} {s : St}
/-- the search for the lowest word of a set that has one -/
theorem m_low106 {l0 : Nat} {l2 l3 l5 : Int32} {S n : Nat} {h : mx_Hp} {k : Int32 → Option (Int32 × mx_Hp)} (hS : S < 2 ^ n) (hn : n ≤ 10) (h0 : fst (fun x => S.testBit x) n < n) : mx_fix (f_X12_finishes_L106 l0 l2 l3 l5 (nI S) h k) 2000 0 = k (nI (fst (fun x => S.testBit x) n)) := by
  obtain ⟨h1, h2⟩ := fst_spec (fun x => S.testBit x) n
  have h3 : S.testBit (fst (fun x => S.testBit x) n) = true := by
    rcases h1 with h1 | h1
    · omega
    · exact h1.2
  have hS2 := lt1024 hS hn
  refine fix_up (fun i => nI i) (fst (fun x => S.testBit x) n) (fun i hi self => ?_) (fun self => ?_) (by omega)
  · have h4 := (h2 i hi).2
    unfold f_X12_finishes_L106
    simp (disch := omega) only [mb_has, h4, nb_lit, nI_add, nb_sub, pk_mul, nb_lt, nb_le, nb_eq, nb_and, nb_or, nb_xor, nb_shl, nb_shl2, Option.bind_some, Option.some.injEq, Prod.mk.injEq, nI_pos, if_true, if_false, ite_true, ite_false, not_true_eq_false, not_false_eq_true, and_true, true_and, and_self, or_self, b10_0, b10_1, b01_0, b01_1, b10_o, b01_o, or_true, true_or, or_false, false_or, and_false, false_and, eq_self, Nat.reduceEqDiff, b_em, b_me, ly_m, Nat.reduceLT, Nat.reduceLeDiff, Nat.reduceAdd, Nat.reduceMul, Nat.reduceSub, Bool.false_eq_true, Nat.not_lt_zero]
  · unfold f_X12_finishes_L106
    simp (disch := omega) only [mb_has, h3, nb_lit, nI_add, nb_sub, pk_mul, nb_lt, nb_le, nb_eq, nb_and, nb_or, nb_xor, nb_shl, nb_shl2, Option.bind_some, Option.some.injEq, Prod.mk.injEq, nI_pos, if_true, if_false, ite_true, ite_false, not_true_eq_false, not_false_eq_true, and_true, true_and, and_self, or_self, b10_0, b10_1, b01_0, b01_1, b10_o, b01_o, or_true, true_or, or_false, false_or, and_false, false_and, eq_self, Nat.reduceEqDiff, b_em, b_me, ly_m, Nat.reduceLT, Nat.reduceLeDiff, Nat.reduceAdd, Nat.reduceMul, Nat.reduceSub, Bool.false_eq_true, Nat.not_lt_zero]
set_option maxHeartbeats 4000000 in
theorem m_fin (H : MR r) (T : TO (m 116) b) (B : WFb b) {kn w : Nat} (hk : kn < 1024) (hw : w < bN b) : ∃ m', f_X12_finishes 114 (nI w) (nI kn) (130, m, r) = some (nI (fmany b kn w), (130, m', r)) ∧ (∀ i, i < fmany b kn w → m' 123 i = nI (fword b kn (fmany b kn w) w i)) ∧ ∀ a, a ≠ 122 → a ≠ 123 → m' a = m a := by
  have hn := wf_N B
  have hK := wf_K B hw
  have hM := B.2.2.1
  obtain ⟨m1, e1, h1, h2⟩ := m_levels H T B hk
  have T1 : TO (m1 116) b := by rw [h2 116 (by decide)]; exact T
  have key : ∀ q : Nat, q = fmany b kn w → ∃ m', mx_fix (f_X12_finishes_L71 114 (nI kn) (nI q)) 2000 (nI w, nI 0, (130, m1, r)) = some (nI q, (130, m', r)) ∧ (∀ i, i < q → m' 123 i = nI (fword b kn q w i)) ∧ ∀ a, a ≠ 122 → a ≠ 123 → m' a = m a := by
    intro q hq
    have hq4 : q ≤ 4 := by rw [hq]; exact (fmany_le B).1
    refine fix_rel (fun i z => ∃ m' : Nat → Nat → Int32, z = (nI (ffrom b kn q w i), nI i, (130, m', r)) ∧ (∀ j, j < i → m' 123 j = nI (fword b kn q w j)) ∧ ∀ a, a ≠ 123 → m' a = m1 a) q (Q := fun o => ∃ m' : Nat → Nat → Int32, o = some (nI q, (130, m', r)) ∧ (∀ i, i < q → m' 123 i = nI (fword b kn q w i)) ∧ ∀ a, a ≠ 122 → a ≠ 123 → m' a = m a) ?_ ?_ (by omega) ⟨m1, rfl, fun j hj => absurd hj (Nat.not_lt_zero j), fun a _ => rfl⟩
    · rintro i z hi ⟨m2, rfl, h3, h4⟩
      have T2 : TO (m2 116) b := by rw [h4 116 (by decide)]; exact T1
      have hb1 := ffrom_bit B (kn := kn) (k := q) (w := w) (by subst hq; exact fmany_bit (by omega)) i (by omega)
      rw [show q - i = q - 1 - i + 1 by omega] at hb1
      obtain ⟨hf, hf2, hf3⟩ := Lv_next B hb1
      have hE := wf_E2 B hf
      have hL := Lv_2 B kn (q - 1 - i)
      refine ⟨(nI (fword b kn q w i), nI (i + 1), (130, mx_up m2 123 i (nI (fword b kn q w i)), r)), ⟨_, rfl, fun j hj => ?_, fun a ha => ?_⟩, fun self => ?_⟩
      · by_cases he : j = i
        · subst he
          simp only [hb_up_same]
        · rw [hb_up_ne (by omega)]
          exact h3 j (by omega)
      · funext j
        rw [hb_up_ne (by omega), h4 a ha]
      · unfold f_X12_finishes_L71
        have h122 : m2 122 (q - 1 - i) = nI (Lv b kn (q - 1 - i)) := by rw [h4 122 (by decide)]; exact h1 _ (by omega)
        simp (disch := omega) only [gr_text H, gr_told H, gr_draft H, gr_s H, gr_past H, gr_images H, gr_notes H, gr_levels H, gr_row H, gr_reach H, gr_gains H, gr_line H, gr_rows H, gr_next H, gr_held H, al_text, al_told, al_draft, al_s, al_past, al_images, al_notes, al_levels, al_row, al_reach, al_gains, al_line, al_rows, al_next, al_held, as_text, as_told, as_draft, as_s, as_past, as_images, as_notes, as_levels, as_row, as_reach, as_gains, as_line, as_rows, as_next, as_held, gi_typed, pi_typed, gi_known, pi_known, gi_kept, pi_kept, gi_noted, pi_noted, gi_at, pi_at, gd_m, to_E T2 hf, h122, nb_lit, nI_add, nb_sub, pk_mul, nb_lt, nb_le, nb_eq, nb_and, nb_or, nb_xor, nb_shl, nb_shl2, Option.bind_some, Option.some.injEq, Prod.mk.injEq, nI_pos, if_true, if_false, ite_true, ite_false, not_true_eq_false, not_false_eq_true, and_true, true_and, and_self, or_self, b10_0, b10_1, b01_0, b01_1, b10_o, b01_o, or_true, true_or, or_false, false_or, and_false, false_and, eq_self, Nat.reduceEqDiff, b_em, b_me, ly_m, Nat.reduceLT, Nat.reduceLeDiff, Nat.reduceAdd, Nat.reduceMul, Nat.reduceSub, Bool.false_eq_true, Nat.not_lt_zero]
        rw [if_neg (by omega), Nat.and_assoc]
        have := @m_low106 114 (nI kn) (nI q) (nI i) (bE b (ffrom b kn q w i) &&& (kn &&& Lv b kn (q - 1 - i))) (bN b) (130, m2, r) (fun s31 => (mx_gr (130, m2, r) 114 12 13).bind fun x32 => (mx_as (130, m2, r) x32 (nI i) s31).bind fun h33 => self (s31, nI (i + 1), h33)) (and_lt (wf_E B hf)) hn.2 hf2
        rw [nb_lit] at this
        simp (disch := omega) only [gr_text H, gr_told H, gr_draft H, gr_s H, gr_past H, gr_images H, gr_notes H, gr_levels H, gr_row H, gr_reach H, gr_gains H, gr_line H, gr_rows H, gr_next H, gr_held H, al_text, al_told, al_draft, al_s, al_past, al_images, al_notes, al_levels, al_row, al_reach, al_gains, al_line, al_rows, al_next, al_held, as_text, as_told, as_draft, as_s, as_past, as_images, as_notes, as_levels, as_row, as_reach, as_gains, as_line, as_rows, as_next, as_held, gi_typed, pi_typed, gi_known, pi_known, gi_kept, pi_kept, gi_noted, pi_noted, gi_at, pi_at, gd_m, nb_lit, nI_add, nb_sub, pk_mul, nb_lt, nb_le, nb_eq, nb_and, nb_or, nb_xor, nb_shl, nb_shl2, Option.bind_some, Option.some.injEq, Prod.mk.injEq, nI_pos, if_true, if_false, ite_true, ite_false, not_true_eq_false, not_false_eq_true, and_true, true_and, and_self, or_self, b10_0, b10_1, b01_0, b01_1, b10_o, b01_o, or_true, true_or, or_false, false_or, and_false, false_and, eq_self, Nat.reduceEqDiff, b_em, b_me, ly_m, Nat.reduceLT, Nat.reduceLeDiff, Nat.reduceAdd, Nat.reduceMul, Nat.reduceSub, Bool.false_eq_true, Nat.not_lt_zero] at this
        rw [this, fword_next]
        rfl
    · rintro z ⟨m2, rfl, h3, h4⟩ self
      unfold f_X12_finishes_L71
      simp (disch := omega) only [gr_text H, gr_told H, gr_draft H, gr_s H, gr_past H, gr_images H, gr_notes H, gr_levels H, gr_row H, gr_reach H, gr_gains H, gr_line H, gr_rows H, gr_next H, gr_held H, al_text, al_told, al_draft, al_s, al_past, al_images, al_notes, al_levels, al_row, al_reach, al_gains, al_line, al_rows, al_next, al_held, as_text, as_told, as_draft, as_s, as_past, as_images, as_notes, as_levels, as_row, as_reach, as_gains, as_line, as_rows, as_next, as_held, gi_typed, pi_typed, gi_known, pi_known, gi_kept, pi_kept, gi_noted, pi_noted, gi_at, pi_at, gd_m, nb_lit, nI_add, nb_sub, pk_mul, nb_lt, nb_le, nb_eq, nb_and, nb_or, nb_xor, nb_shl, nb_shl2, Option.bind_some, Option.some.injEq, Prod.mk.injEq, nI_pos, if_true, if_false, ite_true, ite_false, not_true_eq_false, not_false_eq_true, and_true, true_and, and_self, or_self, b10_0, b10_1, b01_0, b01_1, b10_o, b01_o, or_true, true_or, or_false, false_or, and_false, false_and, eq_self, Nat.reduceEqDiff, b_em, b_me, ly_m, Nat.reduceLT, Nat.reduceLeDiff, Nat.reduceAdd, Nat.reduceMul, Nat.reduceSub, Bool.false_eq_true, Nat.not_lt_zero]
      rw [if_pos (Nat.le_refl q)]
      exact ⟨m2, rfl, h3, fun a ha1 ha2 => by rw [h4 a ha2, h2 a ha1]⟩
  unfold f_X12_finishes
  have hL1 := Lv_2 B kn 1
  have hL2 := Lv_2 B kn 2
  have hL3 := Lv_2 B kn 3
  have hL4 := Lv_2 B kn 4
  simp (disch := omega) only [gr_text H, gr_told H, gr_draft H, gr_s H, gr_past H, gr_images H, gr_notes H, gr_levels H, gr_row H, gr_reach H, gr_gains H, gr_line H, gr_rows H, gr_next H, gr_held H, al_text, al_told, al_draft, al_s, al_past, al_images, al_notes, al_levels, al_row, al_reach, al_gains, al_line, al_rows, al_next, al_held, as_text, as_told, as_draft, as_s, as_past, as_images, as_notes, as_levels, as_row, as_reach, as_gains, as_line, as_rows, as_next, as_held, gi_typed, pi_typed, gi_known, pi_known, gi_kept, pi_kept, gi_noted, pi_noted, gi_at, pi_at, gd_m, e1, to_M T1, nb_lit, nI_add, nb_sub, pk_mul, nb_lt, nb_le, nb_eq, nb_and, nb_or, nb_xor, nb_shl, nb_shl2, Option.bind_some, Option.some.injEq, Prod.mk.injEq, nI_pos, if_true, if_false, ite_true, ite_false, not_true_eq_false, not_false_eq_true, and_true, true_and, and_self, or_self, b10_0, b10_1, b01_0, b01_1, b10_o, b01_o, or_true, true_or, or_false, false_or, and_false, false_and, eq_self, Nat.reduceEqDiff, b_em, b_me, ly_m, Nat.reduceLT, Nat.reduceLeDiff, Nat.reduceAdd, Nat.reduceMul, Nat.reduceSub, Bool.false_eq_true, Nat.not_lt_zero]
  have step : ∀ {K : Int32 × Int32 → Option (Int32 × mx_Hp)} {f : Nat} {c : Int32} {k : Nat}, 1 ≤ k → k ≤ 4 → mx_fix (f_X12_finishes_L15 114 (nI w) (nI kn) (130, m1, r) K) (f + 1) (c, nI k) = mx_fix (f_X12_finishes_L15 114 (nI w) (nI kn) (130, m1, r) K) f ((if (Lv b kn k).testBit w = true then nI k else c), nI (k - 1)) := by
    intro K f c k hk1 hk4
    have hL := Lv_2 B kn k
    rw [fix_1, f_X12_finishes_L15]
    have em : nI k + (-nI 1) = nI (k - 1) := by
      have := pk_m1 (k - 1)
      rw [show k - 1 + 1 = k by omega] at this
      exact this
    simp (disch := omega) only [gr_text H, gr_told H, gr_draft H, gr_s H, gr_past H, gr_images H, gr_notes H, gr_levels H, gr_row H, gr_reach H, gr_gains H, gr_line H, gr_rows H, gr_next H, gr_held H, al_text, al_told, al_draft, al_s, al_past, al_images, al_notes, al_levels, al_row, al_reach, al_gains, al_line, al_rows, al_next, al_held, as_text, as_told, as_draft, as_s, as_past, as_images, as_notes, as_levels, as_row, as_reach, as_gains, as_line, as_rows, as_next, as_held, gi_typed, pi_typed, gi_known, pi_known, gi_kept, pi_kept, gi_noted, pi_noted, gi_at, pi_at, gd_m, h1 k (by omega), mb_has, nb_lit, nI_add, nb_sub, pk_mul, nb_lt, nb_le, nb_eq, nb_and, nb_or, nb_xor, nb_shl, nb_shl2, Option.bind_some, Option.some.injEq, Prod.mk.injEq, nI_pos, if_true, if_false, ite_true, ite_false, not_true_eq_false, not_false_eq_true, and_true, true_and, and_self, or_self, b10_0, b10_1, b01_0, b01_1, b10_o, b01_o, or_true, true_or, or_false, false_or, and_false, false_and, eq_self, Nat.reduceEqDiff, b_em, b_me, ly_m, Nat.reduceLT, Nat.reduceLeDiff, Nat.reduceAdd, Nat.reduceMul, Nat.reduceSub, Bool.false_eq_true, Nat.not_lt_zero, em]
    rw [if_neg (by omega)]
    by_cases ht : (Lv b kn k).testBit w = true
    · simp (disch := omega) only [ht, nb_lit, nI_add, nb_sub, pk_mul, nb_lt, nb_le, nb_eq, nb_and, nb_or, nb_xor, nb_shl, nb_shl2, Option.bind_some, Option.some.injEq, Prod.mk.injEq, nI_pos, if_true, if_false, ite_true, ite_false, not_true_eq_false, not_false_eq_true, and_true, true_and, and_self, or_self, b10_0, b10_1, b01_0, b01_1, b10_o, b01_o, or_true, true_or, or_false, false_or, and_false, false_and, eq_self, Nat.reduceEqDiff, b_em, b_me, ly_m, Nat.reduceLT, Nat.reduceLeDiff, Nat.reduceAdd, Nat.reduceMul, Nat.reduceSub, Bool.false_eq_true, Nat.not_lt_zero]
    · simp (disch := omega) only [ht, nb_lit, nI_add, nb_sub, pk_mul, nb_lt, nb_le, nb_eq, nb_and, nb_or, nb_xor, nb_shl, nb_shl2, Option.bind_some, Option.some.injEq, Prod.mk.injEq, nI_pos, if_true, if_false, ite_true, ite_false, not_true_eq_false, not_false_eq_true, and_true, true_and, and_self, or_self, b10_0, b10_1, b01_0, b01_1, b10_o, b01_o, or_true, true_or, or_false, false_or, and_false, false_and, eq_self, Nat.reduceEqDiff, b_em, b_me, ly_m, Nat.reduceLT, Nat.reduceLeDiff, Nat.reduceAdd, Nat.reduceMul, Nat.reduceSub, Bool.false_eq_true, Nat.not_lt_zero]
  have stop : ∀ {K : Int32 × Int32 → Option (Int32 × mx_Hp)} {f : Nat} {c : Int32}, mx_fix (f_X12_finishes_L15 114 (nI w) (nI kn) (130, m1, r) K) (f + 1) (c, nI 0) = K (c, nI 0) := by
    intro K f c
    rw [fix_1, f_X12_finishes_L15]
    simp (disch := omega) only [nb_lit, nI_add, nb_sub, pk_mul, nb_lt, nb_le, nb_eq, nb_and, nb_or, nb_xor, nb_shl, nb_shl2, Option.bind_some, Option.some.injEq, Prod.mk.injEq, nI_pos, if_true, if_false, ite_true, ite_false, not_true_eq_false, not_false_eq_true, and_true, true_and, and_self, or_self, b10_0, b10_1, b01_0, b01_1, b10_o, b01_o, or_true, true_or, or_false, false_or, and_false, false_and, eq_self, Nat.reduceEqDiff, b_em, b_me, ly_m, Nat.reduceLT, Nat.reduceLeDiff, Nat.reduceAdd, Nat.reduceMul, Nat.reduceSub, Bool.false_eq_true, Nat.not_lt_zero, Nat.le_refl]
  have fin : ∀ c : Int32, (if bK b w = 1 then nI 0 else c) = nI (fmany b kn w) → ∃ m', (((if ¬ nI (bK b w) = nI 1 then some c else some (nI 0)).bind fun v21 => mx_fix (f_X12_finishes_L71 114 (nI kn) v21) 2000 (nI w, nI 0, (130, m1, r)))) = some (nI (fmany b kn w), (130, m', r)) ∧ (∀ i, i < fmany b kn w → m' 123 i = nI (fword b kn (fmany b kn w) w i)) ∧ ∀ a, a ≠ 122 → a ≠ 123 → m' a = m a := by
    intro c hc
    by_cases hk1 : bK b w = 1
    · have hz : fmany b kn w = 0 := by unfold fmany; rw [if_pos hk1]
      simp (disch := omega) only [hk1, nb_lit, nI_add, nb_sub, pk_mul, nb_lt, nb_le, nb_eq, nb_and, nb_or, nb_xor, nb_shl, nb_shl2, Option.bind_some, Option.some.injEq, Prod.mk.injEq, nI_pos, if_true, if_false, ite_true, ite_false, not_true_eq_false, not_false_eq_true, and_true, true_and, and_self, or_self, b10_0, b10_1, b01_0, b01_1, b10_o, b01_o, or_true, true_or, or_false, false_or, and_false, false_and, eq_self, Nat.reduceEqDiff, b_em, b_me, ly_m, Nat.reduceLT, Nat.reduceLeDiff, Nat.reduceAdd, Nat.reduceMul, Nat.reduceSub, Bool.false_eq_true, Nat.not_lt_zero]
      rw [hz]
      exact key 0 hz.symm
    · rw [if_neg hk1] at hc
      simp (disch := omega) only [hk1, nb_lit, nI_add, nb_sub, pk_mul, nb_lt, nb_le, nb_eq, nb_and, nb_or, nb_xor, nb_shl, nb_shl2, Option.bind_some, Option.some.injEq, Prod.mk.injEq, nI_pos, if_true, if_false, ite_true, ite_false, not_true_eq_false, not_false_eq_true, and_true, true_and, and_self, or_self, b10_0, b10_1, b01_0, b01_1, b10_o, b01_o, or_true, true_or, or_false, false_or, and_false, false_and, eq_self, Nat.reduceEqDiff, b_em, b_me, ly_m, Nat.reduceLT, Nat.reduceLeDiff, Nat.reduceAdd, Nat.reduceMul, Nat.reduceSub, Bool.false_eq_true, Nat.not_lt_zero]
      rw [hc]
      exact key _ rfl
  simp (disch := omega) only [to_K T1 hw]
  have hM4 : bM b = 1 ∨ bM b = 2 ∨ bM b = 3 ∨ bM b = 4 := by omega
  have e2000 : (2000 : Nat) = 1995 + 1 + 1 + 1 + 1 + 1 := rfl
  rw [e2000]
  rcases hM4 with hM4 | hM4 | hM4 | hM4
  · rw [hM4, step (by omega) (by omega), stop]
    exact fin _ (by
                   unfold fmany
                   rw [hM4]
                   simp only [show ¬ 2 ≤ 1 by decide, show ¬ 3 ≤ 1 by decide, show ¬ 4 ≤ 1 by decide, false_and, if_false]
                   repeat' split
                   all_goals first | rfl | contradiction)
  · rw [hM4, step (by omega) (by omega), step (by omega) (by omega), stop]
    exact fin _ (by
                   unfold fmany
                   rw [hM4]
                   simp only [show ¬ 3 ≤ 2 by decide, show ¬ 4 ≤ 2 by decide, false_and, if_false, Nat.le_refl, true_and]
                   repeat' split
                   all_goals first | rfl | contradiction)
  · rw [hM4, step (by omega) (by omega), step (by omega) (by omega), step (by omega) (by omega), stop]
    exact fin _ (by
                   unfold fmany
                   rw [hM4]
                   simp only [show ¬ 4 ≤ 3 by decide, show 2 ≤ 3 by decide, false_and, if_false, Nat.le_refl, true_and]
                   repeat' split
                   all_goals first | rfl | contradiction)
  · rw [hM4, step (by omega) (by omega), step (by omega) (by omega), step (by omega) (by omega), step (by omega) (by omega), stop]
    exact fin _ (by
                   unfold fmany
                   rw [hM4]
                   simp only [show 2 ≤ 4 by decide, show 3 ≤ 4 by decide, Nat.le_refl, true_and]
                   repeat' split
                   all_goals first | rfl | contradiction)
end M3
