/-! sitting: the reference -/
def wlN (b : Bo) : Nat → Nat × Nat
  | 0 => (0, 0)
  | k + 1 => ((wlN b k).1 ||| mk (fun x => decide (bE b x &&& (stopsB b ||| (wlN b k).2) ≠ 0)) (bN b), (wlN b k).2 ||| mk (fun x => decide ((bE b x &&& stopsB b) ||| nb_dif (bE b x) (wlN b k).1 = 0)) (bN b))
def sitV (b : Bo) (w : Nat) : Int32 := if (wlN b 20).1.testBit w = true then 1 else if (wlN b 20).2.testBit w = true then 2 else 0
def v_sit (A : Ab) (x : Int32) : Int32 := if x < 0 ∨ nI (bN (aB A)) ≤ x then -1 else sitV (aB A) x.toNatClampNeg
theorem nb_orn {a b c : Nat} (ha : a < 1024) : nI a &&& (nI b ||| (nI c ^^^ -nI 1)) = nI ((a &&& b) ||| nb_dif a c) := by
  have h : nI a &&& (nI b ||| (nI c ^^^ -nI 1)) = (nI a &&& nI b) ||| (nI a &&& (nI c ^^^ -nI 1)) := by
    apply Int32.toBitVec_inj.1
    apply BitVec.eq_of_getLsbD_eq
    intro i hi
    simp [Bool.and_or_distrib_left]
  rw [h, nb_andn2 ha, nb_and, nb_or]
theorem wlN_lt (b : Bo) (k : Nat) : (wlN b k).1 < 2 ^ bN b ∧ (wlN b k).2 < 2 ^ bN b := by
  induction k with
  | zero => exact ⟨Nat.two_pow_pos _, Nat.two_pow_pos _⟩
  | succ k ih => exact ⟨or_lt ih.1 (mk_lt _ _), or_lt ih.2 (mk_lt _ _)⟩
section M12
variable {m : Nat → Nat → Int32} {r : Nat → Nat → Option Nat} {b : Bo} {A : Ab}
theorem mc_sit (H : MR r) (R : RelM m A) (W : WFa A) (x : Int32) : f_X12_sitting 114 x (130, m, r) = some (v_sit A x) := by
  obtain ⟨r1, T, S, r4, r5, r6⟩ := R
  have B := W.2.1
  have hn := wf_N B
  unfold f_X12_sitting v_sit
  by_cases hx : x < 0 ∨ nI (bN (aB A)) ≤ x
  · rw [if_pos hx]
    simp (disch := omega) only [gr_text H, gr_told H, gr_draft H, gr_s H, gr_past H, gr_images H, gr_notes H, gr_levels H, gr_row H, gr_reach H, gr_gains H, gr_line H, gr_rows H, gr_next H, gr_held H, al_text, al_told, al_draft, al_s, al_past, al_images, al_notes, al_levels, al_row, al_reach, al_gains, al_line, al_rows, al_next, al_held, as_text, as_told, as_draft, as_s, as_past, as_images, as_notes, as_levels, as_row, as_reach, as_gains, as_line, as_rows, as_next, as_held, gi_typed, pi_typed, gi_known, pi_known, gi_kept, pi_kept, gi_noted, pi_noted, gi_at, pi_at, gd_m, m_noW H T B hx, nb_lit, nI_add, nb_sub, pk_mul, nb_lt, nb_le, nb_eq, nb_and, nb_or, nb_xor, nb_shl, nb_shl2, Option.bind_some, Option.some.injEq, Prod.mk.injEq, nI_pos, if_true, if_false, ite_true, ite_false, not_true_eq_false, not_false_eq_true, and_true, true_and, and_self, or_self, b10_0, b10_1, b01_0, b01_1, b10_o, b01_o, or_true, true_or, or_false, false_or, and_false, false_and, eq_self, Nat.reduceEqDiff, b_em, b_me, ly_m, Nat.reduceLT, Nat.reduceLeDiff, Nat.reduceAdd, Nat.reduceMul, Nat.reduceSub, Bool.false_eq_true, Nat.not_lt_zero]
  · rw [if_neg hx]
    obtain ⟨w, hw, rfl, e⟩ := nword B hx
    rw [e]
    simp (disch := omega) only [gr_text H, gr_told H, gr_draft H, gr_s H, gr_past H, gr_images H, gr_notes H, gr_levels H, gr_row H, gr_reach H, gr_gains H, gr_line H, gr_rows H, gr_next H, gr_held H, al_text, al_told, al_draft, al_s, al_past, al_images, al_notes, al_levels, al_row, al_reach, al_gains, al_line, al_rows, al_next, al_held, as_text, as_told, as_draft, as_s, as_past, as_images, as_notes, as_levels, as_row, as_reach, as_gains, as_line, as_rows, as_next, as_held, gi_typed, pi_typed, gi_known, pi_known, gi_kept, pi_kept, gi_noted, pi_noted, gi_at, pi_at, gd_m, m_isW H T B hw, nb_lit, nI_add, nb_sub, pk_mul, nb_lt, nb_le, nb_eq, nb_and, nb_or, nb_xor, nb_shl, nb_shl2, Option.bind_some, Option.some.injEq, Prod.mk.injEq, nI_pos, if_true, if_false, ite_true, ite_false, not_true_eq_false, not_false_eq_true, and_true, true_and, and_self, or_self, b10_0, b10_1, b01_0, b01_1, b10_o, b01_o, or_true, true_or, or_false, false_or, and_false, false_and, eq_self, Nat.reduceEqDiff, b_em, b_me, ly_m, Nat.reduceLT, Nat.reduceLeDiff, Nat.reduceAdd, Nat.reduceMul, Nat.reduceSub, Bool.false_eq_true, Nat.not_lt_zero]
    generalize aB A = b at *
    refine fix_up (fun k => (nI (wlN b k).1, nI (wlN b k).2, nI k)) 20 (fun k hk self => ?_) (fun self => ?_) (by omega)
    · obtain ⟨hW, hL⟩ := wlN_lt b k
      have hW2 := lt1024 hW hn.2
      have hL2 := lt1024 hL hn.2
      have hSt : stopsB b < 1024 := lt1024 (mk_lt _ _) hn.2
      unfold f_X12_sitting_L17
      simp (disch := omega) only [nb_lit, nI_add, nb_sub, pk_mul, nb_lt, nb_le, nb_eq, nb_and, nb_or, nb_xor, nb_shl, nb_shl2, Option.bind_some, Option.some.injEq, Prod.mk.injEq, nI_pos, if_true, if_false, ite_true, ite_false, not_true_eq_false, not_false_eq_true, and_true, true_and, and_self, or_self, b10_0, b10_1, b01_0, b01_1, b10_o, b01_o, or_true, true_or, or_false, false_or, and_false, false_and, eq_self, Nat.reduceEqDiff, b_em, b_me, ly_m, Nat.reduceLT, Nat.reduceLeDiff, Nat.reduceAdd, Nat.reduceMul, Nat.reduceSub, Bool.false_eq_true, Nat.not_lt_zero]
      rw [if_neg (by omega)]
      generalize hWe : (wlN b k).1 = Wk at *
      generalize hLe : (wlN b k).2 = Lk at *
      have hs1 : (wlN b (k + 1)).1 = Wk ||| mk (fun x => decide (bE b x &&& (stopsB b ||| Lk) ≠ 0)) (bN b) := by rw [← hWe, ← hLe]; rfl
      have hs2 : (wlN b (k + 1)).2 = Lk ||| mk (fun x => decide ((bE b x &&& stopsB b) ||| nb_dif (bE b x) Wk = 0)) (bN b) := by rw [← hWe, ← hLe]; rfl
      rw [hs1, hs2]
      have := fix_up (F := f_X12_sitting_L33 114 (nI w) (nI Wk) (nI Lk) (nI k) (130, m, r) (fun s31 => self (s31.1, s31.2.1, nI k + nI 1))) (fun x => (nI (Wk ||| mk (fun x => decide (bE b x &&& (stopsB b ||| Lk) ≠ 0)) x), nI (Lk ||| mk (fun x => decide ((bE b x &&& stopsB b) ||| nb_dif (bE b x) Wk = 0)) x), nI x)) (bN b) (y := self (nI (Wk ||| mk (fun x => decide (bE b x &&& (stopsB b ||| Lk) ≠ 0)) (bN b)), nI (Lk ||| mk (fun x => decide ((bE b x &&& stopsB b) ||| nb_dif (bE b x) Wk = 0)) (bN b)), nI k + nI 1)) (fun x hx2 self2 => ?_) (fun self2 => ?_) (fuel := 2000) (by omega)
      · simp only [mk, Nat.or_zero, nI_add] at this
        exact this
      · have hE := wf_E2 B hx2
        have c1 : bE b x &&& (stopsB b ||| Lk) < 1024 := Nat.lt_of_le_of_lt Nat.and_le_left hE
        have c2 : (bE b x &&& stopsB b) ||| nb_dif (bE b x) Wk < 1024 := Nat.or_lt_two_pow (n := 10) (Nat.lt_of_le_of_lt Nat.and_le_left hE) (nb_dif_lt hE)
        unfold f_X12_sitting_L33
        simp (disch := omega) only [gr_text H, gr_told H, gr_draft H, gr_s H, gr_past H, gr_images H, gr_notes H, gr_levels H, gr_row H, gr_reach H, gr_gains H, gr_line H, gr_rows H, gr_next H, gr_held H, al_text, al_told, al_draft, al_s, al_past, al_images, al_notes, al_levels, al_row, al_reach, al_gains, al_line, al_rows, al_next, al_held, as_text, as_told, as_draft, as_s, as_past, as_images, as_notes, as_levels, as_row, as_reach, as_gains, as_line, as_rows, as_next, as_held, gi_typed, pi_typed, gi_known, pi_known, gi_kept, pi_kept, gi_noted, pi_noted, gi_at, pi_at, gd_m, to_N T, to_E T hx2, m_stops H T B, nb_orn, nb_lit, nI_add, nb_sub, pk_mul, nb_lt, nb_le, nb_eq, nb_and, nb_or, nb_xor, nb_shl, nb_shl2, Option.bind_some, Option.some.injEq, Prod.mk.injEq, nI_pos, if_true, if_false, ite_true, ite_false, not_true_eq_false, not_false_eq_true, and_true, true_and, and_self, or_self, b10_0, b10_1, b01_0, b01_1, b10_o, b01_o, or_true, true_or, or_false, false_or, and_false, false_and, eq_self, Nat.reduceEqDiff, b_em, b_me, ly_m, Nat.reduceLT, Nat.reduceLeDiff, Nat.reduceAdd, Nat.reduceMul, Nat.reduceSub, Bool.false_eq_true, Nat.not_lt_zero]
        rw [if_neg (by omega)]
        simp only [mk]
        by_cases d1 : bE b x &&& (stopsB b ||| Lk) = 0
        · by_cases d2 : (bE b x &&& stopsB b) ||| nb_dif (bE b x) Wk = 0
          · simp (disch := omega) only [d1, d2, ne_eq, nb_lit, nI_add, nb_sub, pk_mul, nb_lt, nb_le, nb_eq, nb_and, nb_or, nb_xor, nb_shl, nb_shl2, Option.bind_some, Option.some.injEq, Prod.mk.injEq, nI_pos, if_true, if_false, ite_true, ite_false, not_true_eq_false, not_false_eq_true, and_true, true_and, and_self, or_self, b10_0, b10_1, b01_0, b01_1, b10_o, b01_o, or_true, true_or, or_false, false_or, and_false, false_and, eq_self, Nat.reduceEqDiff, b_em, b_me, ly_m, Nat.reduceLT, Nat.reduceLeDiff, Nat.reduceAdd, Nat.reduceMul, Nat.reduceSub, Bool.false_eq_true, Nat.not_lt_zero, decide_true, decide_false, Nat.or_zero, Nat.or_assoc]
          · simp (disch := omega) only [d1, d2, ne_eq, nb_lit, nI_add, nb_sub, pk_mul, nb_lt, nb_le, nb_eq, nb_and, nb_or, nb_xor, nb_shl, nb_shl2, Option.bind_some, Option.some.injEq, Prod.mk.injEq, nI_pos, if_true, if_false, ite_true, ite_false, not_true_eq_false, not_false_eq_true, and_true, true_and, and_self, or_self, b10_0, b10_1, b01_0, b01_1, b10_o, b01_o, or_true, true_or, or_false, false_or, and_false, false_and, eq_self, Nat.reduceEqDiff, b_em, b_me, ly_m, Nat.reduceLT, Nat.reduceLeDiff, Nat.reduceAdd, Nat.reduceMul, Nat.reduceSub, Bool.false_eq_true, Nat.not_lt_zero, decide_true, decide_false, Nat.or_zero, Nat.or_assoc]
        · by_cases d2 : (bE b x &&& stopsB b) ||| nb_dif (bE b x) Wk = 0
          · simp (disch := omega) only [d1, d2, ne_eq, nb_lit, nI_add, nb_sub, pk_mul, nb_lt, nb_le, nb_eq, nb_and, nb_or, nb_xor, nb_shl, nb_shl2, Option.bind_some, Option.some.injEq, Prod.mk.injEq, nI_pos, if_true, if_false, ite_true, ite_false, not_true_eq_false, not_false_eq_true, and_true, true_and, and_self, or_self, b10_0, b10_1, b01_0, b01_1, b10_o, b01_o, or_true, true_or, or_false, false_or, and_false, false_and, eq_self, Nat.reduceEqDiff, b_em, b_me, ly_m, Nat.reduceLT, Nat.reduceLeDiff, Nat.reduceAdd, Nat.reduceMul, Nat.reduceSub, Bool.false_eq_true, Nat.not_lt_zero, decide_true, decide_false, Nat.or_zero, Nat.or_assoc]
          · simp (disch := omega) only [d1, d2, ne_eq, nb_lit, nI_add, nb_sub, pk_mul, nb_lt, nb_le, nb_eq, nb_and, nb_or, nb_xor, nb_shl, nb_shl2, Option.bind_some, Option.some.injEq, Prod.mk.injEq, nI_pos, if_true, if_false, ite_true, ite_false, not_true_eq_false, not_false_eq_true, and_true, true_and, and_self, or_self, b10_0, b10_1, b01_0, b01_1, b10_o, b01_o, or_true, true_or, or_false, false_or, and_false, false_and, eq_self, Nat.reduceEqDiff, b_em, b_me, ly_m, Nat.reduceLT, Nat.reduceLeDiff, Nat.reduceAdd, Nat.reduceMul, Nat.reduceSub, Bool.false_eq_true, Nat.not_lt_zero, decide_true, decide_false, Nat.or_zero, Nat.or_assoc]
      · unfold f_X12_sitting_L33
        simp (disch := omega) only [gr_text H, gr_told H, gr_draft H, gr_s H, gr_past H, gr_images H, gr_notes H, gr_levels H, gr_row H, gr_reach H, gr_gains H, gr_line H, gr_rows H, gr_next H, gr_held H, al_text, al_told, al_draft, al_s, al_past, al_images, al_notes, al_levels, al_row, al_reach, al_gains, al_line, al_rows, al_next, al_held, as_text, as_told, as_draft, as_s, as_past, as_images, as_notes, as_levels, as_row, as_reach, as_gains, as_line, as_rows, as_next, as_held, gi_typed, pi_typed, gi_known, pi_known, gi_kept, pi_kept, gi_noted, pi_noted, gi_at, pi_at, gd_m, to_N T, nb_lit, nI_add, nb_sub, pk_mul, nb_lt, nb_le, nb_eq, nb_and, nb_or, nb_xor, nb_shl, nb_shl2, Option.bind_some, Option.some.injEq, Prod.mk.injEq, nI_pos, if_true, if_false, ite_true, ite_false, not_true_eq_false, not_false_eq_true, and_true, true_and, and_self, or_self, b10_0, b10_1, b01_0, b01_1, b10_o, b01_o, or_true, true_or, or_false, false_or, and_false, false_and, eq_self, Nat.reduceEqDiff, b_em, b_me, ly_m, Nat.reduceLT, Nat.reduceLeDiff, Nat.reduceAdd, Nat.reduceMul, Nat.reduceSub, Bool.false_eq_true, Nat.not_lt_zero]
        rw [if_pos (by omega)]
    · obtain ⟨hW, hL⟩ := wlN_lt b 20
      have hW2 := lt1024 hW hn.2
      have hL2 := lt1024 hL hn.2
      unfold f_X12_sitting_L17 sitV
      simp (disch := omega) only [mb_has, nb_lit, nI_add, nb_sub, pk_mul, nb_lt, nb_le, nb_eq, nb_and, nb_or, nb_xor, nb_shl, nb_shl2, Option.bind_some, Option.some.injEq, Prod.mk.injEq, nI_pos, if_true, if_false, ite_true, ite_false, not_true_eq_false, not_false_eq_true, and_true, true_and, and_self, or_self, b10_0, b10_1, b01_0, b01_1, b10_o, b01_o, or_true, true_or, or_false, false_or, and_false, false_and, eq_self, Nat.reduceEqDiff, b_em, b_me, ly_m, Nat.reduceLT, Nat.reduceLeDiff, Nat.reduceAdd, Nat.reduceMul, Nat.reduceSub, Bool.false_eq_true, Nat.not_lt_zero, Nat.le_refl]
      by_cases d1 : (wlN b 20).1.testBit w = true
      · simp (disch := omega) only [d1, nb_lit, nI_add, nb_sub, pk_mul, nb_lt, nb_le, nb_eq, nb_and, nb_or, nb_xor, nb_shl, nb_shl2, Option.bind_some, Option.some.injEq, Prod.mk.injEq, nI_pos, if_true, if_false, ite_true, ite_false, not_true_eq_false, not_false_eq_true, and_true, true_and, and_self, or_self, b10_0, b10_1, b01_0, b01_1, b10_o, b01_o, or_true, true_or, or_false, false_or, and_false, false_and, eq_self, Nat.reduceEqDiff, b_em, b_me, ly_m, Nat.reduceLT, Nat.reduceLeDiff, Nat.reduceAdd, Nat.reduceMul, Nat.reduceSub, Bool.false_eq_true, Nat.not_lt_zero]
      · by_cases d2 : (wlN b 20).2.testBit w = true
        · simp (disch := omega) only [d1, d2, nb_lit, nI_add, nb_sub, pk_mul, nb_lt, nb_le, nb_eq, nb_and, nb_or, nb_xor, nb_shl, nb_shl2, Option.bind_some, Option.some.injEq, Prod.mk.injEq, nI_pos, if_true, if_false, ite_true, ite_false, not_true_eq_false, not_false_eq_true, and_true, true_and, and_self, or_self, b10_0, b10_1, b01_0, b01_1, b10_o, b01_o, or_true, true_or, or_false, false_or, and_false, false_and, eq_self, Nat.reduceEqDiff, b_em, b_me, ly_m, Nat.reduceLT, Nat.reduceLeDiff, Nat.reduceAdd, Nat.reduceMul, Nat.reduceSub, Bool.false_eq_true, Nat.not_lt_zero]
        · simp (disch := omega) only [d1, d2, nb_lit, nI_add, nb_sub, pk_mul, nb_lt, nb_le, nb_eq, nb_and, nb_or, nb_xor, nb_shl, nb_shl2, Option.bind_some, Option.some.injEq, Prod.mk.injEq, nI_pos, if_true, if_false, ite_true, ite_false, not_true_eq_false, not_false_eq_true, and_true, true_and, and_self, or_self, b10_0, b10_1, b01_0, b01_1, b10_o, b01_o, or_true, true_or, or_false, false_or, and_false, false_and, eq_self, Nat.reduceEqDiff, b_em, b_me, ly_m, Nat.reduceLT, Nat.reduceLeDiff, Nat.reduceAdd, Nat.reduceMul, Nat.reduceSub, Bool.false_eq_true, Nat.not_lt_zero]
end M12
