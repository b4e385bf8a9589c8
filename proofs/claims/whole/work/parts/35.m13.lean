/-! ways: the reference -/
def sumN (f : Nat → Nat) : Nat → Nat
  | 0 => 0
  | n + 1 => sumN f n + f n
def fwN (b : Bo) (D first : Nat) : Nat → Nat → Nat
  | 0, x => if x = first then 1 else 0
  | k + 1, y => sumN (fun x => if (bE b x).testBit y = true then (if D.testBit x = true then 0 else fwN b D first k x) else 0) (bN b)
def dW (b : Bo) (s : St) (what first : Nat) : Nat := if what = 0 then 0 else dF b s first
def endW (b : Bo) (D n first : Nat) : Nat := sumN (fun x => if bK b x = 2 then fwN b D first (n - 1) x else 0) (bN b)
def waysN (b : Bo) (s : St) (n what : Nat) : Nat := sumN (fun first => endW b (dW b s what first) n first) (bN b)
def v_ways (A : Ab) (x y : Int32) : Int32 := if (x < 1 ∨ 8 < x) ∨ (y < 0 ∨ 1 < y) then -1 else nI (waysN (aB A) (aS A) x.toNatClampNeg y.toNatClampNeg)
theorem cpy_ne {m : Nat → Nat → Int32} {d o i a : Nat} {f : Nat → Int32} (h : a ≠ d) : cpy m d o f i a = m a := by
  funext j
  exact cpy_out (Or.inl h)
theorem cpy_s0 {m : Nat → Nat → Int32} {d i : Nat} {f : Nat → Int32} : mx_up (cpy m d 0 f i) d i (f i) = cpy m d 0 f (i + 1) := by
  have := @cpy_s m d 0 i f
  rw [Nat.zero_add] at this
  exact this
theorem up_ne {α : Type} {m : Nat → Nat → α} {a c j : Nat} {v : α} (h : c ≠ a) : mx_up m a j v c = m c := by
  funext i
  exact hb_up_ne (Or.inl h)
section M13
variable {m : Nat → Nat → Int32} {r : Nat → Nat → Option Nat} {b : Bo} {s : St} {A : Ab} {D first : Nat}
theorem m_w56 (H : MR r) (T : TO (m 116) b) (B : WFb b) {l1 l2 l3 l5 : Int32} {K : Int32 × mx_Hp → Option (Int32 × mx_Hp)} (hf : first < bN b) : mx_fix (f_X12_ways_L56 114 l1 l2 l3 (nI first) l5 K) 2000 (nI 0, (130, m, r)) = K (nI (bN b), (130, cpy m 127 0 (fun x => nI (fwN b D first 0 x)) (bN b), r)) := by
  have hn := wf_N B
  have := fix_up (F := f_X12_ways_L56 114 l1 l2 l3 (nI first) l5 K) (fun i => (nI i, (130, cpy m 127 0 (fun x => nI (fwN b D first 0 x)) i, r))) (bN b) (y := K (nI (bN b), (130, cpy m 127 0 (fun x => nI (fwN b D first 0 x)) (bN b), r))) (fun i hi self => ?_) (fun self => ?_) (fuel := 2000) (by omega)
  · simp only [cpy_0] at this
    exact this
  · have T2 : TO ((cpy m 127 0 (fun x => nI (fwN b D first 0 x)) i) 116) b := by rw [cpy_ne (by decide)]; exact T
    unfold f_X12_ways_L56
    have hv : ((if ¬ nI i = nI first then some (nI 0) else some (nI 1)) : Option Int32) = some ((fun x => nI (fwN b D first 0 x)) i) := by
      by_cases he : i = first
      · simp (disch := omega) only [he, fwN, nb_lit, nI_add, nb_sub, pk_mul, nb_lt, nb_le, nb_eq, nb_and, nb_or, nb_xor, nb_shl, nb_shl2, Option.bind_some, Option.some.injEq, Prod.mk.injEq, nI_pos, if_true, if_false, ite_true, ite_false, not_true_eq_false, not_false_eq_true, and_true, true_and, and_self, or_self, b10_0, b10_1, b01_0, b01_1, b10_o, b01_o, or_true, true_or, or_false, false_or, and_false, false_and, eq_self, Nat.reduceEqDiff, b_em, b_me, ly_m, Nat.reduceLT, Nat.reduceLeDiff, Nat.reduceAdd, Nat.reduceMul, Nat.reduceSub, Bool.false_eq_true, Nat.not_lt_zero]
      · simp (disch := omega) only [he, fwN, nb_lit, nI_add, nb_sub, pk_mul, nb_lt, nb_le, nb_eq, nb_and, nb_or, nb_xor, nb_shl, nb_shl2, Option.bind_some, Option.some.injEq, Prod.mk.injEq, nI_pos, if_true, if_false, ite_true, ite_false, not_true_eq_false, not_false_eq_true, and_true, true_and, and_self, or_self, b10_0, b10_1, b01_0, b01_1, b10_o, b01_o, or_true, true_or, or_false, false_or, and_false, false_and, eq_self, Nat.reduceEqDiff, b_em, b_me, ly_m, Nat.reduceLT, Nat.reduceLeDiff, Nat.reduceAdd, Nat.reduceMul, Nat.reduceSub, Bool.false_eq_true, Nat.not_lt_zero]
    simp (disch := omega) only [gr_text H, gr_told H, gr_draft H, gr_s H, gr_past H, gr_images H, gr_notes H, gr_levels H, gr_row H, gr_reach H, gr_gains H, gr_line H, gr_rows H, gr_next H, gr_held H, al_text, al_told, al_draft, al_s, al_past, al_images, al_notes, al_levels, al_row, al_reach, al_gains, al_line, al_rows, al_next, al_held, as_text, as_told, as_draft, as_s, as_past, as_images, as_notes, as_levels, as_row, as_reach, as_gains, as_line, as_rows, as_next, as_held, gi_typed, pi_typed, gi_known, pi_known, gi_kept, pi_kept, gi_noted, pi_noted, gi_at, pi_at, gd_m, to_N T2, nb_lit, Option.bind_some, nb_le]
    rw [if_neg (by omega), hv]
    simp (disch := omega) only [gr_text H, gr_told H, gr_draft H, gr_s H, gr_past H, gr_images H, gr_notes H, gr_levels H, gr_row H, gr_reach H, gr_gains H, gr_line H, gr_rows H, gr_next H, gr_held H, al_text, al_told, al_draft, al_s, al_past, al_images, al_notes, al_levels, al_row, al_reach, al_gains, al_line, al_rows, al_next, al_held, as_text, as_told, as_draft, as_s, as_past, as_images, as_notes, as_levels, as_row, as_reach, as_gains, as_line, as_rows, as_next, as_held, gi_typed, pi_typed, gi_known, pi_known, gi_kept, pi_kept, gi_noted, pi_noted, gi_at, pi_at, gd_m, Option.bind_some, cpy_s0 (f := fun x => nI (fwN b D first 0 x)), nI_add]
  · have T2 : TO ((cpy m 127 0 (fun x => nI (fwN b D first 0 x)) (bN b)) 116) b := by rw [cpy_ne (by decide)]; exact T
    unfold f_X12_ways_L56
    simp (disch := omega) only [gr_text H, gr_told H, gr_draft H, gr_s H, gr_past H, gr_images H, gr_notes H, gr_levels H, gr_row H, gr_reach H, gr_gains H, gr_line H, gr_rows H, gr_next H, gr_held H, al_text, al_told, al_draft, al_s, al_past, al_images, al_notes, al_levels, al_row, al_reach, al_gains, al_line, al_rows, al_next, al_held, as_text, as_told, as_draft, as_s, as_past, as_images, as_notes, as_levels, as_row, as_reach, as_gains, as_line, as_rows, as_next, as_held, gi_typed, pi_typed, gi_known, pi_known, gi_kept, pi_kept, gi_noted, pi_noted, gi_at, pi_at, gd_m, to_N T2, nb_lit, nI_add, nb_sub, pk_mul, nb_lt, nb_le, nb_eq, nb_and, nb_or, nb_xor, nb_shl, nb_shl2, Option.bind_some, Option.some.injEq, Prod.mk.injEq, nI_pos, if_true, if_false, ite_true, ite_false, not_true_eq_false, not_false_eq_true, and_true, true_and, and_self, or_self, b10_0, b10_1, b01_0, b01_1, b10_o, b01_o, or_true, true_or, or_false, false_or, and_false, false_and, eq_self, Nat.reduceEqDiff, b_em, b_me, ly_m, Nat.reduceLT, Nat.reduceLeDiff, Nat.reduceAdd, Nat.reduceMul, Nat.reduceSub, Bool.false_eq_true, Nat.not_lt_zero]
    rw [if_pos (by omega)]
theorem m_w126 (H : MR r) (T : TO (m 116) b) (B : WFb b) (hD : D < 1024) {l1 l2 l3 l4 l6 : Int32} {K : Int32 × mx_Hp → Option (Int32 × mx_Hp)} {k y : Nat} (hy : y < bN b) (h127 : ∀ x, x < bN b → m 127 x = nI (fwN b D first k x)) : mx_fix (f_X12_ways_L126 114 l1 l2 l3 l4 (nI D) l6 (nI y) K) 2000 (nI 0, (130, mx_up m 128 y (nI 0), r)) = K (nI (bN b), (130, mx_up m 128 y (nI (fwN b D first (k + 1) y)), r)) := by
  have hn := wf_N B
  refine fix_up (F := f_X12_ways_L126 114 l1 l2 l3 l4 (nI D) l6 (nI y) K) (fun i => (nI i, (130, mx_up m 128 y (nI (sumN (fun x => if (bE b x).testBit y = true then (if D.testBit x = true then 0 else fwN b D first k x) else 0) i)), r))) (bN b) (fun i hi self => ?_) (fun self => ?_) (by omega)
  · have T2 : ∀ v : Int32, TO ((mx_up m 128 y v) 116) b := by intro v; rw [up_ne (by decide)]; exact T
    have hE := wf_E2 B hi
    unfold f_X12_ways_L126
    simp (disch := omega) only [gr_text H, gr_told H, gr_draft H, gr_s H, gr_past H, gr_images H, gr_notes H, gr_levels H, gr_row H, gr_reach H, gr_gains H, gr_line H, gr_rows H, gr_next H, gr_held H, al_text, al_told, al_draft, al_s, al_past, al_images, al_notes, al_levels, al_row, al_reach, al_gains, al_line, al_rows, al_next, al_held, as_text, as_told, as_draft, as_s, as_past, as_images, as_notes, as_levels, as_row, as_reach, as_gains, as_line, as_rows, as_next, as_held, gi_typed, pi_typed, gi_known, pi_known, gi_kept, pi_kept, gi_noted, pi_noted, gi_at, pi_at, gd_m, to_N (T2 _), to_E (T2 _) hi, mb_has, nb_lit, nI_add, nb_sub, pk_mul, nb_lt, nb_le, nb_eq, nb_and, nb_or, nb_xor, nb_shl, nb_shl2, Option.bind_some, Option.some.injEq, Prod.mk.injEq, nI_pos, if_true, if_false, ite_true, ite_false, not_true_eq_false, not_false_eq_true, and_true, true_and, and_self, or_self, b10_0, b10_1, b01_0, b01_1, b10_o, b01_o, or_true, true_or, or_false, false_or, and_false, false_and, eq_self, Nat.reduceEqDiff, b_em, b_me, ly_m, Nat.reduceLT, Nat.reduceLeDiff, Nat.reduceAdd, Nat.reduceMul, Nat.reduceSub, Bool.false_eq_true, Nat.not_lt_zero, hb_up_same, hb_up_ne, ne_eq, h127 i hi]
    rw [if_neg (by omega)]
    simp only [sumN]
    by_cases d1 : (bE b i).testBit y = true
    · by_cases d2 : D.testBit i = true
      · simp (disch := omega) only [d1, d2, gr_text H, gr_told H, gr_draft H, gr_s H, gr_past H, gr_images H, gr_notes H, gr_levels H, gr_row H, gr_reach H, gr_gains H, gr_line H, gr_rows H, gr_next H, gr_held H, al_text, al_told, al_draft, al_s, al_past, al_images, al_notes, al_levels, al_row, al_reach, al_gains, al_line, al_rows, al_next, al_held, as_text, as_told, as_draft, as_s, as_past, as_images, as_notes, as_levels, as_row, as_reach, as_gains, as_line, as_rows, as_next, as_held, gi_typed, pi_typed, gi_known, pi_known, gi_kept, pi_kept, gi_noted, pi_noted, gi_at, pi_at, gd_m, nb_lit, nI_add, nb_sub, pk_mul, nb_lt, nb_le, nb_eq, nb_and, nb_or, nb_xor, nb_shl, nb_shl2, Option.bind_some, Option.some.injEq, Prod.mk.injEq, nI_pos, if_true, if_false, ite_true, ite_false, not_true_eq_false, not_false_eq_true, and_true, true_and, and_self, or_self, b10_0, b10_1, b01_0, b01_1, b10_o, b01_o, or_true, true_or, or_false, false_or, and_false, false_and, eq_self, Nat.reduceEqDiff, b_em, b_me, ly_m, Nat.reduceLT, Nat.reduceLeDiff, Nat.reduceAdd, Nat.reduceMul, Nat.reduceSub, Bool.false_eq_true, Nat.not_lt_zero, hb_up_same, hb_up_ne, ne_eq, up_up]
      · simp (disch := omega) only [d1, d2, gr_text H, gr_told H, gr_draft H, gr_s H, gr_past H, gr_images H, gr_notes H, gr_levels H, gr_row H, gr_reach H, gr_gains H, gr_line H, gr_rows H, gr_next H, gr_held H, al_text, al_told, al_draft, al_s, al_past, al_images, al_notes, al_levels, al_row, al_reach, al_gains, al_line, al_rows, al_next, al_held, as_text, as_told, as_draft, as_s, as_past, as_images, as_notes, as_levels, as_row, as_reach, as_gains, as_line, as_rows, as_next, as_held, gi_typed, pi_typed, gi_known, pi_known, gi_kept, pi_kept, gi_noted, pi_noted, gi_at, pi_at, gd_m, nb_lit, nI_add, nb_sub, pk_mul, nb_lt, nb_le, nb_eq, nb_and, nb_or, nb_xor, nb_shl, nb_shl2, Option.bind_some, Option.some.injEq, Prod.mk.injEq, nI_pos, if_true, if_false, ite_true, ite_false, not_true_eq_false, not_false_eq_true, and_true, true_and, and_self, or_self, b10_0, b10_1, b01_0, b01_1, b10_o, b01_o, or_true, true_or, or_false, false_or, and_false, false_and, eq_self, Nat.reduceEqDiff, b_em, b_me, ly_m, Nat.reduceLT, Nat.reduceLeDiff, Nat.reduceAdd, Nat.reduceMul, Nat.reduceSub, Bool.false_eq_true, Nat.not_lt_zero, hb_up_same, hb_up_ne, ne_eq, up_up]
    · simp (disch := omega) only [d1, gr_text H, gr_told H, gr_draft H, gr_s H, gr_past H, gr_images H, gr_notes H, gr_levels H, gr_row H, gr_reach H, gr_gains H, gr_line H, gr_rows H, gr_next H, gr_held H, al_text, al_told, al_draft, al_s, al_past, al_images, al_notes, al_levels, al_row, al_reach, al_gains, al_line, al_rows, al_next, al_held, as_text, as_told, as_draft, as_s, as_past, as_images, as_notes, as_levels, as_row, as_reach, as_gains, as_line, as_rows, as_next, as_held, gi_typed, pi_typed, gi_known, pi_known, gi_kept, pi_kept, gi_noted, pi_noted, gi_at, pi_at, gd_m, nb_lit, nI_add, nb_sub, pk_mul, nb_lt, nb_le, nb_eq, nb_and, nb_or, nb_xor, nb_shl, nb_shl2, Option.bind_some, Option.some.injEq, Prod.mk.injEq, nI_pos, if_true, if_false, ite_true, ite_false, not_true_eq_false, not_false_eq_true, and_true, true_and, and_self, or_self, b10_0, b10_1, b01_0, b01_1, b10_o, b01_o, or_true, true_or, or_false, false_or, and_false, false_and, eq_self, Nat.reduceEqDiff, b_em, b_me, ly_m, Nat.reduceLT, Nat.reduceLeDiff, Nat.reduceAdd, Nat.reduceMul, Nat.reduceSub, Bool.false_eq_true, Nat.not_lt_zero, hb_up_same, hb_up_ne, ne_eq, up_up]
  · have T2 : ∀ v : Int32, TO ((mx_up m 128 y v) 116) b := by intro v; rw [up_ne (by decide)]; exact T
    unfold f_X12_ways_L126
    simp (disch := omega) only [gr_text H, gr_told H, gr_draft H, gr_s H, gr_past H, gr_images H, gr_notes H, gr_levels H, gr_row H, gr_reach H, gr_gains H, gr_line H, gr_rows H, gr_next H, gr_held H, al_text, al_told, al_draft, al_s, al_past, al_images, al_notes, al_levels, al_row, al_reach, al_gains, al_line, al_rows, al_next, al_held, as_text, as_told, as_draft, as_s, as_past, as_images, as_notes, as_levels, as_row, as_reach, as_gains, as_line, as_rows, as_next, as_held, gi_typed, pi_typed, gi_known, pi_known, gi_kept, pi_kept, gi_noted, pi_noted, gi_at, pi_at, gd_m, to_N (T2 _), nb_lit, nI_add, nb_sub, pk_mul, nb_lt, nb_le, nb_eq, nb_and, nb_or, nb_xor, nb_shl, nb_shl2, Option.bind_some, Option.some.injEq, Prod.mk.injEq, nI_pos, if_true, if_false, ite_true, ite_false, not_true_eq_false, not_false_eq_true, and_true, true_and, and_self, or_self, b10_0, b10_1, b01_0, b01_1, b10_o, b01_o, or_true, true_or, or_false, false_or, and_false, false_and, eq_self, Nat.reduceEqDiff, b_em, b_me, ly_m, Nat.reduceLT, Nat.reduceLeDiff, Nat.reduceAdd, Nat.reduceMul, Nat.reduceSub, Bool.false_eq_true, Nat.not_lt_zero]
    rw [if_pos (by omega)]
    rfl
theorem m_w104 (H : MR r) (T : TO (m 116) b) (B : WFb b) (hD : D < 1024) {l1 l2 l3 l4 l6 : Int32} {K : Int32 × mx_Hp → Option (Int32 × mx_Hp)} {k : Nat} (h127 : ∀ x, x < bN b → m 127 x = nI (fwN b D first k x)) : mx_fix (f_X12_ways_L104 114 l1 l2 l3 l4 (nI D) l6 K) 2000 (nI 0, (130, m, r)) = K (nI (bN b), (130, cpy m 128 0 (fun y => nI (fwN b D first (k + 1) y)) (bN b), r)) := by
  have hn := wf_N B
  have := fix_up (F := f_X12_ways_L104 114 l1 l2 l3 l4 (nI D) l6 K) (fun i => (nI i, (130, cpy m 128 0 (fun y => nI (fwN b D first (k + 1) y)) i, r))) (bN b) (y := K (nI (bN b), (130, cpy m 128 0 (fun y => nI (fwN b D first (k + 1) y)) (bN b), r))) (fun i hi self => ?_) (fun self => ?_) (fuel := 2000) (by omega)
  · simp only [cpy_0] at this
    exact this
  · have T2 : TO ((cpy m 128 0 (fun y => nI (fwN b D first (k + 1) y)) i) 116) b := by rw [cpy_ne (by decide)]; exact T
    unfold f_X12_ways_L104
    simp (disch := omega) only [gr_text H, gr_told H, gr_draft H, gr_s H, gr_past H, gr_images H, gr_notes H, gr_levels H, gr_row H, gr_reach H, gr_gains H, gr_line H, gr_rows H, gr_next H, gr_held H, al_text, al_told, al_draft, al_s, al_past, al_images, al_notes, al_levels, al_row, al_reach, al_gains, al_line, al_rows, al_next, al_held, as_text, as_told, as_draft, as_s, as_past, as_images, as_notes, as_levels, as_row, as_reach, as_gains, as_line, as_rows, as_next, as_held, gi_typed, pi_typed, gi_known, pi_known, gi_kept, pi_kept, gi_noted, pi_noted, gi_at, pi_at, gd_m, to_N T2, nb_lit, Option.bind_some, nb_le]
    rw [if_neg (by omega)]
    rw [m_w126 (first := first) (k := k) H T2 B hD hi (fun x hx => by rw [cpy_ne (by decide)]; exact h127 x hx)]
    simp only [cpy_s0 (f := fun y => nI (fwN b D first (k + 1) y)), nI_add]
  · have T2 : TO ((cpy m 128 0 (fun y => nI (fwN b D first (k + 1) y)) (bN b)) 116) b := by rw [cpy_ne (by decide)]; exact T
    unfold f_X12_ways_L104
    simp (disch := omega) only [gr_text H, gr_told H, gr_draft H, gr_s H, gr_past H, gr_images H, gr_notes H, gr_levels H, gr_row H, gr_reach H, gr_gains H, gr_line H, gr_rows H, gr_next H, gr_held H, al_text, al_told, al_draft, al_s, al_past, al_images, al_notes, al_levels, al_row, al_reach, al_gains, al_line, al_rows, al_next, al_held, as_text, as_told, as_draft, as_s, as_past, as_images, as_notes, as_levels, as_row, as_reach, as_gains, as_line, as_rows, as_next, as_held, gi_typed, pi_typed, gi_known, pi_known, gi_kept, pi_kept, gi_noted, pi_noted, gi_at, pi_at, gd_m, to_N T2, nb_lit, nI_add, nb_sub, pk_mul, nb_lt, nb_le, nb_eq, nb_and, nb_or, nb_xor, nb_shl, nb_shl2, Option.bind_some, Option.some.injEq, Prod.mk.injEq, nI_pos, if_true, if_false, ite_true, ite_false, not_true_eq_false, not_false_eq_true, and_true, true_and, and_self, or_self, b10_0, b10_1, b01_0, b01_1, b10_o, b01_o, or_true, true_or, or_false, false_or, and_false, false_and, eq_self, Nat.reduceEqDiff, b_em, b_me, ly_m, Nat.reduceLT, Nat.reduceLeDiff, Nat.reduceAdd, Nat.reduceMul, Nat.reduceSub, Bool.false_eq_true, Nat.not_lt_zero]
    rw [if_pos (by omega)]
theorem m_w201 (H : MR r) (T : TO (m 116) b) (B : WFb b) {l1 l2 l3 l4 l5 l6 : Int32} {K : Int32 × mx_Hp → Option (Int32 × mx_Hp)} : mx_fix (f_X12_ways_L201 114 l1 l2 l3 l4 l5 l6 K) 2000 (nI 0, (130, m, r)) = K (nI (bN b), (130, cpy m 127 0 (m 128) (bN b), r)) := by
  have hn := wf_N B
  have := fix_up (F := f_X12_ways_L201 114 l1 l2 l3 l4 l5 l6 K) (fun i => (nI i, (130, cpy m 127 0 (m 128) i, r))) (bN b) (y := K (nI (bN b), (130, cpy m 127 0 (m 128) (bN b), r))) (fun i hi self => ?_) (fun self => ?_) (fuel := 2000) (by omega)
  · simp only [cpy_0] at this
    exact this
  · have T2 : TO ((cpy m 127 0 (m 128) i) 116) b := by rw [cpy_ne (by decide)]; exact T
    unfold f_X12_ways_L201
    simp (disch := omega) only [gr_text H, gr_told H, gr_draft H, gr_s H, gr_past H, gr_images H, gr_notes H, gr_levels H, gr_row H, gr_reach H, gr_gains H, gr_line H, gr_rows H, gr_next H, gr_held H, al_text, al_told, al_draft, al_s, al_past, al_images, al_notes, al_levels, al_row, al_reach, al_gains, al_line, al_rows, al_next, al_held, as_text, as_told, as_draft, as_s, as_past, as_images, as_notes, as_levels, as_row, as_reach, as_gains, as_line, as_rows, as_next, as_held, gi_typed, pi_typed, gi_known, pi_known, gi_kept, pi_kept, gi_noted, pi_noted, gi_at, pi_at, gd_m, to_N T2, nb_lit, Option.bind_some, nb_le, cpy_out]
    rw [if_neg (by omega)]
    simp only [cpy_s0 (f := m 128), nI_add]
  · have T2 : TO ((cpy m 127 0 (m 128) (bN b)) 116) b := by rw [cpy_ne (by decide)]; exact T
    unfold f_X12_ways_L201
    simp (disch := omega) only [gr_text H, gr_told H, gr_draft H, gr_s H, gr_past H, gr_images H, gr_notes H, gr_levels H, gr_row H, gr_reach H, gr_gains H, gr_line H, gr_rows H, gr_next H, gr_held H, al_text, al_told, al_draft, al_s, al_past, al_images, al_notes, al_levels, al_row, al_reach, al_gains, al_line, al_rows, al_next, al_held, as_text, as_told, as_draft, as_s, as_past, as_images, as_notes, as_levels, as_row, as_reach, as_gains, as_line, as_rows, as_next, as_held, gi_typed, pi_typed, gi_known, pi_known, gi_kept, pi_kept, gi_noted, pi_noted, gi_at, pi_at, gd_m, to_N T2, nb_lit, nI_add, nb_sub, pk_mul, nb_lt, nb_le, nb_eq, nb_and, nb_or, nb_xor, nb_shl, nb_shl2, Option.bind_some, Option.some.injEq, Prod.mk.injEq, nI_pos, if_true, if_false, ite_true, ite_false, not_true_eq_false, not_false_eq_true, and_true, true_and, and_self, or_self, b10_0, b10_1, b01_0, b01_1, b10_o, b01_o, or_true, true_or, or_false, false_or, and_false, false_and, eq_self, Nat.reduceEqDiff, b_em, b_me, ly_m, Nat.reduceLT, Nat.reduceLeDiff, Nat.reduceAdd, Nat.reduceMul, Nat.reduceSub, Bool.false_eq_true, Nat.not_lt_zero]
    rw [if_pos (by omega)]
theorem m_w241 (H : MR r) (T : TO (m 116) b) (B : WFb b) {l1 l2 l4 : Int32} {K : Int32 × Int32 → Option (Int32 × mx_Hp)} {k acc : Nat} (h127 : ∀ x, x < bN b → m 127 x = nI (fwN b D first k x)) : mx_fix (f_X12_ways_L241 114 l1 l2 l4 (130, m, r) K) 2000 (nI acc, nI 0) = K (nI (acc + sumN (fun x => if bK b x = 2 then fwN b D first k x else 0) (bN b)), nI (bN b)) := by
  have hn := wf_N B
  have := fix_up (F := f_X12_ways_L241 114 l1 l2 l4 (130, m, r) K) (fun i => (nI (acc + sumN (fun x => if bK b x = 2 then fwN b D first k x else 0) i), nI i)) (bN b) (y := K (nI (acc + sumN (fun x => if bK b x = 2 then fwN b D first k x else 0) (bN b)), nI (bN b))) (fun i hi self => ?_) (fun self => ?_) (fuel := 2000) (by omega)
  · simp only [sumN, Nat.add_zero] at this
    exact this
  · have hK := wf_K B hi
    unfold f_X12_ways_L241
    simp (disch := omega) only [gr_text H, gr_told H, gr_draft H, gr_s H, gr_past H, gr_images H, gr_notes H, gr_levels H, gr_row H, gr_reach H, gr_gains H, gr_line H, gr_rows H, gr_next H, gr_held H, al_text, al_told, al_draft, al_s, al_past, al_images, al_notes, al_levels, al_row, al_reach, al_gains, al_line, al_rows, al_next, al_held, as_text, as_told, as_draft, as_s, as_past, as_images, as_notes, as_levels, as_row, as_reach, as_gains, as_line, as_rows, as_next, as_held, gi_typed, pi_typed, gi_known, pi_known, gi_kept, pi_kept, gi_noted, pi_noted, gi_at, pi_at, gd_m, to_N T, to_K T hi, h127 i hi, nb_lit, Option.bind_some, nb_le, nI_add]
    rw [if_neg (by omega)]
    simp only [sumN]
    by_cases d : bK b i = 2
    · simp (disch := omega) only [d, nb_lit, nI_add, nb_sub, pk_mul, nb_lt, nb_le, nb_eq, nb_and, nb_or, nb_xor, nb_shl, nb_shl2, Option.bind_some, Option.some.injEq, Prod.mk.injEq, nI_pos, if_true, if_false, ite_true, ite_false, not_true_eq_false, not_false_eq_true, and_true, true_and, and_self, or_self, b10_0, b10_1, b01_0, b01_1, b10_o, b01_o, or_true, true_or, or_false, false_or, and_false, false_and, eq_self, Nat.reduceEqDiff, b_em, b_me, ly_m, Nat.reduceLT, Nat.reduceLeDiff, Nat.reduceAdd, Nat.reduceMul, Nat.reduceSub, Bool.false_eq_true, Nat.not_lt_zero, Nat.add_assoc]
    · simp (disch := omega) only [d, nb_lit, nI_add, nb_sub, pk_mul, nb_lt, nb_le, nb_eq, nb_and, nb_or, nb_xor, nb_shl, nb_shl2, Option.bind_some, Option.some.injEq, Prod.mk.injEq, nI_pos, if_true, if_false, ite_true, ite_false, not_true_eq_false, not_false_eq_true, and_true, true_and, and_self, or_self, b10_0, b10_1, b01_0, b01_1, b10_o, b01_o, or_true, true_or, or_false, false_or, and_false, false_and, eq_self, Nat.reduceEqDiff, b_em, b_me, ly_m, Nat.reduceLT, Nat.reduceLeDiff, Nat.reduceAdd, Nat.reduceMul, Nat.reduceSub, Bool.false_eq_true, Nat.not_lt_zero, Nat.add_zero]
  · unfold f_X12_ways_L241
    simp (disch := omega) only [gr_text H, gr_told H, gr_draft H, gr_s H, gr_past H, gr_images H, gr_notes H, gr_levels H, gr_row H, gr_reach H, gr_gains H, gr_line H, gr_rows H, gr_next H, gr_held H, al_text, al_told, al_draft, al_s, al_past, al_images, al_notes, al_levels, al_row, al_reach, al_gains, al_line, al_rows, al_next, al_held, as_text, as_told, as_draft, as_s, as_past, as_images, as_notes, as_levels, as_row, as_reach, as_gains, as_line, as_rows, as_next, as_held, gi_typed, pi_typed, gi_known, pi_known, gi_kept, pi_kept, gi_noted, pi_noted, gi_at, pi_at, gd_m, to_N T, nb_lit, nI_add, nb_sub, pk_mul, nb_lt, nb_le, nb_eq, nb_and, nb_or, nb_xor, nb_shl, nb_shl2, Option.bind_some, Option.some.injEq, Prod.mk.injEq, nI_pos, if_true, if_false, ite_true, ite_false, not_true_eq_false, not_false_eq_true, and_true, true_and, and_self, or_self, b10_0, b10_1, b01_0, b01_1, b10_o, b01_o, or_true, true_or, or_false, false_or, and_false, false_and, eq_self, Nat.reduceEqDiff, b_em, b_me, ly_m, Nat.reduceLT, Nat.reduceLeDiff, Nat.reduceAdd, Nat.reduceMul, Nat.reduceSub, Bool.false_eq_true, Nat.not_lt_zero]
    rw [if_pos (by omega)]
theorem mc_ways (H : MR r) (R : RelM m A) (W : WFa A) (x y : Int32) : MOk (f_X12_ways 114 x y (130, m, r)) m r (v_ways A x y) A := by
  obtain ⟨r1, T, S, r4, r5, r6⟩ := id R
  have B := W.2.1
  have F := W.2.2.1
  have hn := wf_N B
  unfold f_X12_ways v_ways
  rw [mb_in, mb_in]
  by_cases hx : x < 1 ∨ 8 < x
  · rw [if_pos (Or.inl hx), if_pos hx]
    refine MOk.mk0 R ?_
    simp (disch := omega) only [nb_lit, nI_add, nb_sub, pk_mul, nb_lt, nb_le, nb_eq, nb_and, nb_or, nb_xor, nb_shl, nb_shl2, Option.bind_some, Option.some.injEq, Prod.mk.injEq, nI_pos, if_true, if_false, ite_true, ite_false, not_true_eq_false, not_false_eq_true, and_true, true_and, and_self, or_self, b10_0, b10_1, b01_0, b01_1, b10_o, b01_o, or_true, true_or, or_false, false_or, and_false, false_and, eq_self, Nat.reduceEqDiff, b_em, b_me, ly_m, Nat.reduceLT, Nat.reduceLeDiff, Nat.reduceAdd, Nat.reduceMul, Nat.reduceSub, Bool.false_eq_true, Nat.not_lt_zero]
  · by_cases hy : y < 0 ∨ 1 < y
    · rw [if_pos (Or.inr hy), if_neg hx, if_pos hy]
      refine MOk.mk0 R ?_
      simp (disch := omega) only [nb_lit, nI_add, nb_sub, pk_mul, nb_lt, nb_le, nb_eq, nb_and, nb_or, nb_xor, nb_shl, nb_shl2, Option.bind_some, Option.some.injEq, Prod.mk.injEq, nI_pos, if_true, if_false, ite_true, ite_false, not_true_eq_false, not_false_eq_true, and_true, true_and, and_self, or_self, b10_0, b10_1, b01_0, b01_1, b10_o, b01_o, or_true, true_or, or_false, false_or, and_false, false_and, eq_self, Nat.reduceEqDiff, b_em, b_me, ly_m, Nat.reduceLT, Nat.reduceLeDiff, Nat.reduceAdd, Nat.reduceMul, Nat.reduceSub, Bool.false_eq_true, Nat.not_lt_zero]
    · rw [if_neg (not_or.mpr ⟨hx, hy⟩), if_neg hx, if_neg hy]
      obtain ⟨w, hw, rfl, ew⟩ := mayor_or hy
      obtain ⟨n, hn1, hn8, rfl, en⟩ : ∃ n, 1 ≤ n ∧ n ≤ 8 ∧ x = nI n ∧ x.toNatClampNeg = n := by
        rcases nb_three x 9 (by decide) with q | q | ⟨j, hj, rfl⟩
        · exact absurd (Or.inl (Int32.lt_trans q (by decide))) hx
        · exact absurd (Or.inr (Int32.lt_of_lt_of_le (show (8 : Int32) < nI 9 by decide) q)) hx
        · refine ⟨j, ?_, by omega, rfl, nb_cl (by omega)⟩
          apply Decidable.byContradiction
          intro h0
          exact hx (Or.inl ((nb_lt (b := 1) (by omega) (by decide)).mpr (by omega)))
      rw [ew, en]
      simp (disch := omega) only [nb_lit, nI_add, nb_sub, pk_mul, nb_lt, nb_le, nb_eq, nb_and, nb_or, nb_xor, nb_shl, nb_shl2, Option.bind_some, Option.some.injEq, Prod.mk.injEq, nI_pos, if_true, if_false, ite_true, ite_false, not_true_eq_false, not_false_eq_true, and_true, true_and, and_self, or_self, b10_0, b10_1, b01_0, b01_1, b10_o, b01_o, or_true, true_or, or_false, false_or, and_false, false_and, eq_self, Nat.reduceEqDiff, b_em, b_me, ly_m, Nat.reduceLT, Nat.reduceLeDiff, Nat.reduceAdd, Nat.reduceMul, Nat.reduceSub, Bool.false_eq_true, Nat.not_lt_zero]
      generalize hbe : aB A = b at *
      generalize hse : aS A = s at *
      refine fix_relS (fun i q => ∃ m' : Nat → Nat → Int32, q = (nI (sumN (fun first => endW b (dW b s w first) n first) i), nI i, (130, m', r)) ∧ ∀ a, a ≠ 122 → a ≠ 123 → a ≠ 127 → a ≠ 128 → m' a = m a) (bN b) (Q := fun o => MOk o m r (nI (waysN b s n w)) A) ?_ ?_ (by omega) ⟨m, rfl, fun a _ _ _ _ => rfl⟩
      · rintro i q hi ⟨m1, rfl, g1⟩ self
        have T1 : TO (m1 116) b := by rw [g1 116 (by decide) (by decide) (by decide) (by decide)]; exact T
        have S1 : SM (m1 118) 0 s := by rw [g1 118 (by decide) (by decide) (by decide) (by decide)]; exact S
        have hlost : ∃ m2, ((if ¬ nI w = nI 0 then (f_X12_lost 114 (nI i) (130, m1, r)).bind (fun x9 => some (x9.1, x9.2)) else some (nI 0, (130, m1, r))) : Option (Int32 × mx_Hp)) = some (nI (dW b s w i), (130, m2, r)) ∧ ∀ a, a ≠ 122 → a ≠ 123 → m2 a = m1 a := by
          by_cases hw0 : w = 0
          · refine ⟨m1, ?_, fun a _ _ => rfl⟩
            simp (disch := omega) only [hw0, dW, nb_lit, nI_add, nb_sub, pk_mul, nb_lt, nb_le, nb_eq, nb_and, nb_or, nb_xor, nb_shl, nb_shl2, Option.bind_some, Option.some.injEq, Prod.mk.injEq, nI_pos, if_true, if_false, ite_true, ite_false, not_true_eq_false, not_false_eq_true, and_true, true_and, and_self, or_self, b10_0, b10_1, b01_0, b01_1, b10_o, b01_o, or_true, true_or, or_false, false_or, and_false, false_and, eq_self, Nat.reduceEqDiff, b_em, b_me, ly_m, Nat.reduceLT, Nat.reduceLeDiff, Nat.reduceAdd, Nat.reduceMul, Nat.reduceSub, Bool.false_eq_true, Nat.not_lt_zero]
          · obtain ⟨m2, e1, e2⟩ := m_lost H T1 B S1 F hi
            refine ⟨m2, ?_, e2⟩
            have e1' : f_X12_lost 114 (nI i) (130, m1, r) = some (nI (dF b s i), (130, m2, r)) := e1
            simp (disch := omega) only [hw0, e1', dW, nb_lit, nI_add, nb_sub, pk_mul, nb_lt, nb_le, nb_eq, nb_and, nb_or, nb_xor, nb_shl, nb_shl2, Option.bind_some, Option.some.injEq, Prod.mk.injEq, nI_pos, if_true, if_false, ite_true, ite_false, not_true_eq_false, not_false_eq_true, and_true, true_and, and_self, or_self, b10_0, b10_1, b01_0, b01_1, b10_o, b01_o, or_true, true_or, or_false, false_or, and_false, false_and, eq_self, Nat.reduceEqDiff, b_em, b_me, ly_m, Nat.reduceLT, Nat.reduceLeDiff, Nat.reduceAdd, Nat.reduceMul, Nat.reduceSub, Bool.false_eq_true, Nat.not_lt_zero]
        obtain ⟨m2, e1, e2⟩ := hlost
        have T2 : TO (m2 116) b := by rw [e2 116 (by decide) (by decide)]; exact T1
        have hD : dW b s w i < 1024 := by
          unfold dW
          split
          · decide
          · exact lostF_2 B
        generalize hDe : dW b s w i = D at *
        -- the rounds
        have key : ∀ (K : Int32 × mx_Hp → Option (Int32 × mx_Hp)), ∃ m3 : Nat → Nat → Int32, mx_fix (f_X12_ways_L95 114 (nI n) (nI w) (nI (sumN (fun first => endW b (dW b s w first) n first) i)) (nI i) (nI D) K) 2000 (nI 1, (130, cpy m2 127 0 (fun x => nI (fwN b D i 0 x)) (bN b), r)) = K (nI n, (130, m3, r)) ∧ (∀ x, x < bN b → m3 127 x = nI (fwN b D i (n - 1) x)) ∧ ∀ a, a ≠ 127 → a ≠ 128 → m3 a = m2 a := by
          intro K
          refine fix_relS (fun k q => ∃ m' : Nat → Nat → Int32, q = (nI (k + 1), (130, m', r)) ∧ (∀ x, x < bN b → m' 127 x = nI (fwN b D i k x)) ∧ ∀ a, a ≠ 127 → a ≠ 128 → m' a = m2 a) (n - 1) (Q := fun o => ∃ m3 : Nat → Nat → Int32, o = K (nI n, (130, m3, r)) ∧ (∀ x, x < bN b → m3 127 x = nI (fwN b D i (n - 1) x)) ∧ ∀ a, a ≠ 127 → a ≠ 128 → m3 a = m2 a) ?_ ?_ (by omega) ?_
          · rintro k q hk ⟨m4, rfl, k1, k2⟩ self2
            have T4 : TO (m4 116) b := by rw [k2 116 (by decide) (by decide)]; exact T2
            have T5 : TO ((cpy m4 128 0 (fun y => nI (fwN b D i (k + 1) y)) (bN b)) 116) b := by rw [cpy_ne (by decide)]; exact T4
            refine ⟨(nI (k + 1 + 1), (130, cpy (cpy m4 128 0 (fun y => nI (fwN b D i (k + 1) y)) (bN b)) 127 0 ((cpy m4 128 0 (fun y => nI (fwN b D i (k + 1) y)) (bN b)) 128) (bN b), r)), ⟨_, rfl, fun x hx => ?_, fun a ha hb => ?_⟩, ?_⟩
            · rw [cpy_in (by omega) (by omega), cpy_in (by omega) (by omega)]
              rfl
            · rw [cpy_ne ha, cpy_ne hb, k2 a ha hb]
            · unfold f_X12_ways_L95
              simp (disch := omega) only [nb_lit, nb_le]
              rw [if_neg (by omega), m_w104 (first := i) (k := k) H T4 B hD k1]
              simp only []
              rw [m_w201 H T5 B]
              simp only [nI_add]
          · rintro q ⟨m4, rfl, k1, k2⟩ self2
            unfold f_X12_ways_L95
            simp (disch := omega) only [nb_le]
            rw [if_pos (by omega), show n - 1 + 1 = n by omega]
            exact ⟨m4, rfl, k1, k2⟩
          · refine ⟨_, rfl, fun x hx => ?_, fun a ha hb => cpy_ne ha⟩
            rw [cpy_in (by omega) (by omega)]
            rfl
        obtain ⟨m3, k1, k2, k3⟩ := key (fun s92 => mx_fix (f_X12_ways_L241 114 (nI n) (nI w) (nI i) s92.2 (fun s111 => self (s111.1, nI (i + 1), s92.2))) 2000 (nI (sumN (fun first => endW b (dW b s w first) n first) i), nI 0))
        have T3 : TO (m3 116) b := by rw [k3 116 (by decide) (by decide)]; exact T2
        refine ⟨(nI (sumN (fun first => endW b (dW b s w first) n first) (i + 1)), nI (i + 1), (130, m3, r)), ⟨m3, rfl, fun a h1 h2 h3 h4 => by rw [k3 a h3 h4, e2 a h1 h2, g1 a h1 h2 h3 h4]⟩, ?_⟩
        unfold f_X12_ways_L26
        simp (disch := omega) only [gr_text H, gr_told H, gr_draft H, gr_s H, gr_past H, gr_images H, gr_notes H, gr_levels H, gr_row H, gr_reach H, gr_gains H, gr_line H, gr_rows H, gr_next H, gr_held H, al_text, al_told, al_draft, al_s, al_past, al_images, al_notes, al_levels, al_row, al_reach, al_gains, al_line, al_rows, al_next, al_held, as_text, as_told, as_draft, as_s, as_past, as_images, as_notes, as_levels, as_row, as_reach, as_gains, as_line, as_rows, as_next, as_held, gi_typed, pi_typed, gi_known, pi_known, gi_kept, pi_kept, gi_noted, pi_noted, gi_at, pi_at, gd_m, to_N T1, nb_lit, Option.bind_some, nb_le, ly_m, and_self, Nat.reduceLT, if_true, nI_add]
        rw [if_neg (by omega), e1]
        simp only [Option.bind_some]
        rw [m_w56 (D := D) H T2 B hi, k1]
        simp only []
        rw [m_w241 (D := D) (first := i) (k := n - 1) H T3 B k2]
        simp only [sumN, endW, hDe]
      · rintro q ⟨m1, rfl, g1⟩ self
        have T1 : TO (m1 116) b := by rw [g1 116 (by decide) (by decide) (by decide) (by decide)]; exact T
        unfold f_X12_ways_L26
        simp (disch := omega) only [gr_text H, gr_told H, gr_draft H, gr_s H, gr_past H, gr_images H, gr_notes H, gr_levels H, gr_row H, gr_reach H, gr_gains H, gr_line H, gr_rows H, gr_next H, gr_held H, al_text, al_told, al_draft, al_s, al_past, al_images, al_notes, al_levels, al_row, al_reach, al_gains, al_line, al_rows, al_next, al_held, as_text, as_told, as_draft, as_s, as_past, as_images, as_notes, as_levels, as_row, as_reach, as_gains, as_line, as_rows, as_next, as_held, gi_typed, pi_typed, gi_known, pi_known, gi_kept, pi_kept, gi_noted, pi_noted, gi_at, pi_at, gd_m, to_N T1, nb_lit, nI_add, nb_sub, pk_mul, nb_lt, nb_le, nb_eq, nb_and, nb_or, nb_xor, nb_shl, nb_shl2, Option.bind_some, Option.some.injEq, Prod.mk.injEq, nI_pos, if_true, if_false, ite_true, ite_false, not_true_eq_false, not_false_eq_true, and_true, true_and, and_self, or_self, b10_0, b10_1, b01_0, b01_1, b10_o, b01_o, or_true, true_or, or_false, false_or, and_false, false_and, eq_self, Nat.reduceEqDiff, b_em, b_me, ly_m, Nat.reduceLT, Nat.reduceLeDiff, Nat.reduceAdd, Nat.reduceMul, Nat.reduceSub, Bool.false_eq_true, Nat.not_lt_zero]
        rw [if_pos (by omega)]
        exact ⟨m1, rfl, R.same (fun a h1 h2 => g1 a (by omega) (by omega) (by omega) (by omega)), fun a ha => g1 a (by omega) (by omega) (by omega) (by omega)⟩
end M13
