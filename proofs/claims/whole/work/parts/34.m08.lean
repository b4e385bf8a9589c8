/-! safe: the reference -/
/-- a row that was found, as it is told -/
def tel (c : Nat) (f : Nat → Nat) (y : Int32) : Int32 := if c = 0 then -4 else if y = -1 then nI c else if nI c ≤ y then -4 else nI (f y.toNatClampNeg)
def dF (b : Bo) (s : St) (f : Nat) : Nat := lostF b (knF b s f)
def sfB (b : Bo) (s : St) (w k f : Nat) : Bool := isSf b (dF b s f) w f (k + 1)
def sfK (b : Bo) (s : St) (w : Nat) : Nat := fst (fun k => decide (fst (fun f => sfB b s w k f) (bN b) < bN b)) 10
def sfF (b : Bo) (s : St) (w : Nat) : Nat := fst (fun f => sfB b s w (sfK b s w) f) (bN b)
def sfC (b : Bo) (s : St) (w : Nat) : Nat := if sfK b s w = 10 then 0 else sfK b s w + 1
def sfR (b : Bo) (s : St) (w : Nat) (i : Nat) : Nat := (pathS b (dF b s (sfF b s w)) w (sfK b s w + 1) (sfF b s w) i).1
def v_safe (A : Ab) (x y : Int32) : Int32 := if (x < 0 ∨ nI (bN (aB A)) ≤ x) ∨ (y < -1 ∨ 9 < y) then -1 else tel (sfC (aB A) (aS A) x.toNatClampNeg) (sfR (aB A) (aS A) x.toNatClampNeg) y
section M8
variable {m : Nat → Nat → Int32} {r : Nat → Nat → Option Nat} {b : Bo} {s : St} {D w : Nat} {A : Ab}
/-- an int from -1 on that is below c, or not -/
theorem y_or {y : Int32} {c : Nat} (hc : c < 2 ^ 31) (h : ¬ y < -1) : y = -1 ∨ nI c ≤ y ∨ ∃ j, j < c ∧ y = nI j := by
  rcases nb_three y c hc with q | q | q
  · left
    rw [Int32.lt_iff_toInt_lt] at q h
    have e0 : (0 : Int32).toInt = 0 := by decide
    have e1 : (-1 : Int32).toInt = -1 := by decide
    exact Int32.toInt_inj.mp (by omega)
  · exact Or.inr (Or.inl q)
  · exact Or.inr (Or.inr q)
theorem nI_ne_m1 {j : Nat} (h : j < 2 ^ 31) : ¬ nI j = -nI 1 := by
  intro e
  have h1 := nI_toInt h
  rw [e, show (-nI 1).toInt = -1 by decide] at h1
  omega
theorem m_isSafe (H : MR r) (T : TO (m 116) b) (B : WFb b) (S : SM (m 118) 0 s) (F : WFs (bN b) s) (hw : w < bN b) {f many : Nat} (hf : f < bN b) (h1 : 1 ≤ many) (h10 : many ≤ 10) : ∃ m', f_X12_isSafe 114 (nI w) (nI f) (nI many) (130, m, r) = some ((if isSf b (dF b s f) w f many = true then nI 1 else nI 0), (130, m', r)) ∧ (isSf b (dF b s f) w f many = true → ∀ k, k < many → m' 123 k = nI (pathS b (dF b s f) w many f k).1) ∧ ∀ a, a ≠ 122 → a ≠ 123 → a ≠ 124 → m' a = m a := by
  have hn := wf_N B
  obtain ⟨m1, e1, e2⟩ := m_lost H T B S F hf
  have T1 : TO (m1 116) b := by rw [e2 116 (by decide) (by decide)]; exact T
  obtain ⟨m2, e3, e4, e5⟩ := m_reckons (D := dF b s f) H T1 B hw (lostF_2 B)
  have T2 : TO (m2 116) b := by rw [e5 116 (by decide)]; exact T1
  have hfr : ∀ a, a ≠ 122 → a ≠ 123 → a ≠ 124 → m2 a = m a := fun a ha hb hc => by rw [e5 a hc, e2 a ha hb]
  have e1' : f_X12_lost 114 (nI f) (130, m, r) = some (nI (dF b s f), (130, m1, r)) := e1
  have hv : ((if ¬ nI f = nI w then some (nI 0) else some (nI 10)) : Option Int32) = some (nI (if f = w then 10 else 0)) := by
    by_cases he : f = w
    · simp (disch := omega) only [he, nb_lit, nI_add, nb_sub, pk_mul, nb_lt, nb_le, nb_eq, nb_and, nb_or, nb_xor, nb_shl, nb_shl2, Option.bind_some, Option.some.injEq, Prod.mk.injEq, nI_pos, if_true, if_false, ite_true, ite_false, not_true_eq_false, not_false_eq_true, and_true, true_and, and_self, or_self, b10_0, b10_1, b01_0, b01_1, b10_o, b01_o, or_true, true_or, or_false, false_or, and_false, false_and, eq_self, Nat.reduceEqDiff, b_em, b_me, ly_m, Nat.reduceLT, Nat.reduceLeDiff, Nat.reduceAdd, Nat.reduceMul, Nat.reduceSub, Bool.false_eq_true, Nat.not_lt_zero]
    · simp (disch := omega) only [he, nb_lit, nI_add, nb_sub, pk_mul, nb_lt, nb_le, nb_eq, nb_and, nb_or, nb_xor, nb_shl, nb_shl2, Option.bind_some, Option.some.injEq, Prod.mk.injEq, nI_pos, if_true, if_false, ite_true, ite_false, not_true_eq_false, not_false_eq_true, and_true, true_and, and_self, or_self, b10_0, b10_1, b01_0, b01_1, b10_o, b01_o, or_true, true_or, or_false, false_or, and_false, false_and, eq_self, Nat.reduceEqDiff, b_em, b_me, ly_m, Nat.reduceLT, Nat.reduceLeDiff, Nat.reduceAdd, Nat.reduceMul, Nat.reduceSub, Bool.false_eq_true, Nat.not_lt_zero]
  have hL := late_2 (D := dF b s f) B (many - 1)
  have hR := rch_2 (D := dF b s f) (w := w) B (many - 1)
  have hx8 : m2 124 ((if f = w then 10 else 0) + many - 1) = nI (if f = w then late b (dF b s f) (many - 1) else rch b (dF b s f) w (many - 1)) := by
    by_cases he : f = w
    · rw [if_pos he, if_pos he, show 10 + many - 1 = 10 + (many - 1) by omega]
      exact (e4 (many - 1) (by omega)).2
    · rw [if_neg he, if_neg he, Nat.zero_add]
      exact (e4 (many - 1) (by omega)).1
  have hlt : (if f = w then late b (dF b s f) (many - 1) else rch b (dF b s f) w (many - 1)) < 1024 := by split <;> assumption
  have hbit : (if f = w then late b (dF b s f) (many - 1) else rch b (dF b s f) w (many - 1)).testBit f = isSf b (dF b s f) w f many := by
    unfold isSf
    split <;> rfl
  have hix : (if f = w then 10 else 0) + many - 1 < 20 := by split <;> omega
  have hix1 : 1 ≤ (if f = w then 10 else 0) + many := by omega
  unfold f_X12_isSafe
  simp (disch := omega) only [gr_text H, gr_told H, gr_draft H, gr_s H, gr_past H, gr_images H, gr_notes H, gr_levels H, gr_row H, gr_reach H, gr_gains H, gr_line H, gr_rows H, gr_next H, gr_held H, al_text, al_told, al_draft, al_s, al_past, al_images, al_notes, al_levels, al_row, al_reach, al_gains, al_line, al_rows, al_next, al_held, as_text, as_told, as_draft, as_s, as_past, as_images, as_notes, as_levels, as_row, as_reach, as_gains, as_line, as_rows, as_next, as_held, gi_typed, pi_typed, gi_known, pi_known, gi_kept, pi_kept, gi_noted, pi_noted, gi_at, pi_at, gd_m, e1', e3, nb_lit, Option.bind_some, ly_m, and_self, Nat.reduceLT, if_true]
  rw [hv]
  simp (disch := omega) only [gr_text H, gr_told H, gr_draft H, gr_s H, gr_past H, gr_images H, gr_notes H, gr_levels H, gr_row H, gr_reach H, gr_gains H, gr_line H, gr_rows H, gr_next H, gr_held H, al_text, al_told, al_draft, al_s, al_past, al_images, al_notes, al_levels, al_row, al_reach, al_gains, al_line, al_rows, al_next, al_held, as_text, as_told, as_draft, as_s, as_past, as_images, as_notes, as_levels, as_row, as_reach, as_gains, as_line, as_rows, as_next, as_held, gi_typed, pi_typed, gi_known, pi_known, gi_kept, pi_kept, gi_noted, pi_noted, gi_at, pi_at, gd_m, hx8, mb_has, hbit, nb_lit, nI_add, nb_sub, pk_mul, nb_lt, nb_le, nb_eq, nb_and, nb_or, nb_xor, nb_shl, nb_shl2, Option.bind_some, Option.some.injEq, Prod.mk.injEq, nI_pos, if_true, if_false, ite_true, ite_false, not_true_eq_false, not_false_eq_true, and_true, true_and, and_self, or_self, b10_0, b10_1, b01_0, b01_1, b10_o, b01_o, or_true, true_or, or_false, false_or, and_false, false_and, eq_self, Nat.reduceEqDiff, b_em, b_me, ly_m, Nat.reduceLT, Nat.reduceLeDiff, Nat.reduceAdd, Nat.reduceMul, Nat.reduceSub, Bool.false_eq_true, Nat.not_lt_zero]
  by_cases hsf : isSf b (dF b s f) w f many = true
  · simp only [hsf, nb_lit, nI_add, nb_sub, pk_mul, nb_lt, nb_le, nb_eq, nb_and, nb_or, nb_xor, nb_shl, nb_shl2, Option.bind_some, Option.some.injEq, Prod.mk.injEq, nI_pos, if_true, if_false, ite_true, ite_false, not_true_eq_false, not_false_eq_true, and_true, true_and, and_self, or_self, b10_0, b10_1, b01_0, b01_1, b10_o, b01_o, or_true, true_or, or_false, false_or, and_false, false_and, eq_self, Nat.reduceEqDiff, b_em, b_me, ly_m, Nat.reduceLT, Nat.reduceLeDiff, Nat.reduceAdd, Nat.reduceMul, Nat.reduceSub, Bool.false_eq_true, Nat.not_lt_zero]
    refine fix_rel (fun i z => ∃ m' : Nat → Nat → Int32, z = (nI (if (pathS b (dF b s f) w many f i).2 = true then 10 else 0), nI (pathS b (dF b s f) w many f i).1, nI (i + 1), (130, m', r)) ∧ (∀ k, k < i + 1 → m' 123 k = nI (pathS b (dF b s f) w many f k).1) ∧ ∀ a, a ≠ 123 → m' a = m2 a) (many - 1) (Q := fun o => ∃ m' : Nat → Nat → Int32, o = some (nI 1, (130, m', r)) ∧ (True → ∀ k, k < many → m' 123 k = nI (pathS b (dF b s f) w many f k).1) ∧ ∀ a, a ≠ 122 → a ≠ 123 → a ≠ 124 → m' a = m a) ?_ ?_ (by omega) ?_
    · rintro i z hi ⟨m3, rfl, g1, g2⟩
      have T3 : TO (m3 116) b := by rw [g2 116 (by decide)]; exact T2
      have hp := pathS_inv B hw hsf i (by omega)
      have hq := pInv_lt hp
      rw [show many - 1 - i = many - 1 - (i + 1) + 1 by omega] at hp
      obtain ⟨f1, f2⟩ := pInv_next B hw hp
      have hE := wf_E2 B hq
      have hLl := late_2 (D := dF b s f) B (many - 1 - (i + 1))
      have hRl := rch_2 (D := dF b s f) (w := w) B (many - 1 - (i + 1))
      have hS := nxtS_lt (D := dF b s f) (w := w) (left := many - 1 - (i + 1)) B hq
      have a1 : m3 124 (many - 1 - (i + 1)) = nI (rch b (dF b s f) w (many - 1 - (i + 1))) := by rw [g2 124 (by decide)]; exact (e4 _ (by omega)).1
      have a2 : m3 124 (10 + (many - 1 - (i + 1))) = nI (late b (dF b s f) (many - 1 - (i + 1))) := by rw [g2 124 (by decide)]; exact (e4 _ (by omega)).2
      have hpe : pathS b (dF b s f) w many f (i + 1) = (fst (fun x => (nxtS b (dF b s f) w (many - 1 - (i + 1)) (pathS b (dF b s f) w many f i)).testBit x) (bN b), (pathS b (dF b s f) w many f i).2 || decide (fst (fun x => (nxtS b (dF b s f) w (many - 1 - (i + 1)) (pathS b (dF b s f) w many f i)).testBit x) (bN b) = w)) := rfl
      generalize hpq : pathS b (dF b s f) w many f i = q at *
      generalize hle : many - 1 - (i + 1) = left at *
      generalize hy : fst (fun x => (nxtS b (dF b s f) w left q).testBit x) (bN b) = y at *
      have hlow : ∀ h : mx_Hp, f_X12_lowest (nI (nxtS b (dF b s f) w left q)) h = some (nI y) := by
        intro h
        have := m_low (h := h) hS hn.2 (by rw [hy]; exact f1)
        rw [hy] at this
        exact this
      refine ⟨(nI (if (pathS b (dF b s f) w many f (i + 1)).2 = true then 10 else 0), nI (pathS b (dF b s f) w many f (i + 1)).1, nI (i + 1 + 1), (130, mx_up m3 123 (i + 1) (nI y), r)), ⟨_, rfl, fun k hk => ?_, fun a ha => ?_⟩, fun self => ?_⟩
      · by_cases he : k = i + 1
        · subst he
          rw [hb_up_same, hpe]
        · rw [hb_up_ne (by omega)]
          exact g1 k (by omega)
      · funext j
        rw [hb_up_ne (by omega), g2 a ha]
      · unfold f_X12_isSafe_L53
        rw [hpe]
        cases h2 : q.2 with
        | true =>
          have hnx : nI (bE b q.1 &&& late b (dF b s f) left) = nI (nxtS b (dF b s f) w left q) := by unfold nxtS; rw [h2, if_pos rfl]
          simp (disch := omega) only [gr_text H, gr_told H, gr_draft H, gr_s H, gr_past H, gr_images H, gr_notes H, gr_levels H, gr_row H, gr_reach H, gr_gains H, gr_line H, gr_rows H, gr_next H, gr_held H, al_text, al_told, al_draft, al_s, al_past, al_images, al_notes, al_levels, al_row, al_reach, al_gains, al_line, al_rows, al_next, al_held, as_text, as_told, as_draft, as_s, as_past, as_images, as_notes, as_levels, as_row, as_reach, as_gains, as_line, as_rows, as_next, as_held, gi_typed, pi_typed, gi_known, pi_known, gi_kept, pi_kept, gi_noted, pi_noted, gi_at, pi_at, gd_m, to_E T3 hq, hle, a2, nb_lit, nI_add, nb_sub, pk_mul, nb_lt, nb_le, nb_eq, nb_and, nb_or, nb_xor, nb_shl, nb_shl2, Option.bind_some, Option.some.injEq, Prod.mk.injEq, nI_pos, if_true, if_false, ite_true, ite_false, not_true_eq_false, not_false_eq_true, and_true, true_and, and_self, or_self, b10_0, b10_1, b01_0, b01_1, b10_o, b01_o, or_true, true_or, or_false, false_or, and_false, false_and, eq_self, Nat.reduceEqDiff, b_em, b_me, ly_m, Nat.reduceLT, Nat.reduceLeDiff, Nat.reduceAdd, Nat.reduceMul, Nat.reduceSub, Bool.false_eq_true, Nat.not_lt_zero, hnx, hlow]
          rw [if_neg (by omega)]
          by_cases hyw : y = w
          · simp (disch := omega) only [gr_text H, gr_told H, gr_draft H, gr_s H, gr_past H, gr_images H, gr_notes H, gr_levels H, gr_row H, gr_reach H, gr_gains H, gr_line H, gr_rows H, gr_next H, gr_held H, al_text, al_told, al_draft, al_s, al_past, al_images, al_notes, al_levels, al_row, al_reach, al_gains, al_line, al_rows, al_next, al_held, as_text, as_told, as_draft, as_s, as_past, as_images, as_notes, as_levels, as_row, as_reach, as_gains, as_line, as_rows, as_next, as_held, gi_typed, pi_typed, gi_known, pi_known, gi_kept, pi_kept, gi_noted, pi_noted, gi_at, pi_at, gd_m, hyw, nb_lit, nI_add, nb_sub, pk_mul, nb_lt, nb_le, nb_eq, nb_and, nb_or, nb_xor, nb_shl, nb_shl2, Option.bind_some, Option.some.injEq, Prod.mk.injEq, nI_pos, if_true, if_false, ite_true, ite_false, not_true_eq_false, not_false_eq_true, and_true, true_and, and_self, or_self, b10_0, b10_1, b01_0, b01_1, b10_o, b01_o, or_true, true_or, or_false, false_or, and_false, false_and, eq_self, Nat.reduceEqDiff, b_em, b_me, ly_m, Nat.reduceLT, Nat.reduceLeDiff, Nat.reduceAdd, Nat.reduceMul, Nat.reduceSub, Bool.false_eq_true, Nat.not_lt_zero, Bool.true_or]
          · simp (disch := omega) only [gr_text H, gr_told H, gr_draft H, gr_s H, gr_past H, gr_images H, gr_notes H, gr_levels H, gr_row H, gr_reach H, gr_gains H, gr_line H, gr_rows H, gr_next H, gr_held H, al_text, al_told, al_draft, al_s, al_past, al_images, al_notes, al_levels, al_row, al_reach, al_gains, al_line, al_rows, al_next, al_held, as_text, as_told, as_draft, as_s, as_past, as_images, as_notes, as_levels, as_row, as_reach, as_gains, as_line, as_rows, as_next, as_held, gi_typed, pi_typed, gi_known, pi_known, gi_kept, pi_kept, gi_noted, pi_noted, gi_at, pi_at, gd_m, hyw, nb_lit, nI_add, nb_sub, pk_mul, nb_lt, nb_le, nb_eq, nb_and, nb_or, nb_xor, nb_shl, nb_shl2, Option.bind_some, Option.some.injEq, Prod.mk.injEq, nI_pos, if_true, if_false, ite_true, ite_false, not_true_eq_false, not_false_eq_true, and_true, true_and, and_self, or_self, b10_0, b10_1, b01_0, b01_1, b10_o, b01_o, or_true, true_or, or_false, false_or, and_false, false_and, eq_self, Nat.reduceEqDiff, b_em, b_me, ly_m, Nat.reduceLT, Nat.reduceLeDiff, Nat.reduceAdd, Nat.reduceMul, Nat.reduceSub, Bool.false_eq_true, Nat.not_lt_zero, Bool.true_or]
        | false =>
          have hnx : nI (bE b q.1 &&& (nb_dif (rch b (dF b s f) w left) (2 ^ w) ||| (late b (dF b s f) left &&& 2 ^ w))) = nI (nxtS b (dF b s f) w left q) := by unfold nxtS; rw [h2, if_neg (by decide)]
          simp (disch := omega) only [gr_text H, gr_told H, gr_draft H, gr_s H, gr_past H, gr_images H, gr_notes H, gr_levels H, gr_row H, gr_reach H, gr_gains H, gr_line H, gr_rows H, gr_next H, gr_held H, al_text, al_told, al_draft, al_s, al_past, al_images, al_notes, al_levels, al_row, al_reach, al_gains, al_line, al_rows, al_next, al_held, as_text, as_told, as_draft, as_s, as_past, as_images, as_notes, as_levels, as_row, as_reach, as_gains, as_line, as_rows, as_next, as_held, gi_typed, pi_typed, gi_known, pi_known, gi_kept, pi_kept, gi_noted, pi_noted, gi_at, pi_at, gd_m, to_E T3 hq, hle, a1, a2, nb_lit, nI_add, nb_sub, pk_mul, nb_lt, nb_le, nb_eq, nb_and, nb_or, nb_xor, nb_shl, nb_shl2, Option.bind_some, Option.some.injEq, Prod.mk.injEq, nI_pos, if_true, if_false, ite_true, ite_false, not_true_eq_false, not_false_eq_true, and_true, true_and, and_self, or_self, b10_0, b10_1, b01_0, b01_1, b10_o, b01_o, or_true, true_or, or_false, false_or, and_false, false_and, eq_self, Nat.reduceEqDiff, b_em, b_me, ly_m, Nat.reduceLT, Nat.reduceLeDiff, Nat.reduceAdd, Nat.reduceMul, Nat.reduceSub, Bool.false_eq_true, Nat.not_lt_zero, Nat.le_refl, nb_andn2, hnx, hlow]
          rw [if_neg (by omega)]
          by_cases hyw : y = w
          · simp (disch := omega) only [gr_text H, gr_told H, gr_draft H, gr_s H, gr_past H, gr_images H, gr_notes H, gr_levels H, gr_row H, gr_reach H, gr_gains H, gr_line H, gr_rows H, gr_next H, gr_held H, al_text, al_told, al_draft, al_s, al_past, al_images, al_notes, al_levels, al_row, al_reach, al_gains, al_line, al_rows, al_next, al_held, as_text, as_told, as_draft, as_s, as_past, as_images, as_notes, as_levels, as_row, as_reach, as_gains, as_line, as_rows, as_next, as_held, gi_typed, pi_typed, gi_known, pi_known, gi_kept, pi_kept, gi_noted, pi_noted, gi_at, pi_at, gd_m, hyw, nb_lit, nI_add, nb_sub, pk_mul, nb_lt, nb_le, nb_eq, nb_and, nb_or, nb_xor, nb_shl, nb_shl2, Option.bind_some, Option.some.injEq, Prod.mk.injEq, nI_pos, if_true, if_false, ite_true, ite_false, not_true_eq_false, not_false_eq_true, and_true, true_and, and_self, or_self, b10_0, b10_1, b01_0, b01_1, b10_o, b01_o, or_true, true_or, or_false, false_or, and_false, false_and, eq_self, Nat.reduceEqDiff, b_em, b_me, ly_m, Nat.reduceLT, Nat.reduceLeDiff, Nat.reduceAdd, Nat.reduceMul, Nat.reduceSub, Bool.false_eq_true, Nat.not_lt_zero, Bool.false_or, decide_true]
          · simp (disch := omega) only [gr_text H, gr_told H, gr_draft H, gr_s H, gr_past H, gr_images H, gr_notes H, gr_levels H, gr_row H, gr_reach H, gr_gains H, gr_line H, gr_rows H, gr_next H, gr_held H, al_text, al_told, al_draft, al_s, al_past, al_images, al_notes, al_levels, al_row, al_reach, al_gains, al_line, al_rows, al_next, al_held, as_text, as_told, as_draft, as_s, as_past, as_images, as_notes, as_levels, as_row, as_reach, as_gains, as_line, as_rows, as_next, as_held, gi_typed, pi_typed, gi_known, pi_known, gi_kept, pi_kept, gi_noted, pi_noted, gi_at, pi_at, gd_m, hyw, nb_lit, nI_add, nb_sub, pk_mul, nb_lt, nb_le, nb_eq, nb_and, nb_or, nb_xor, nb_shl, nb_shl2, Option.bind_some, Option.some.injEq, Prod.mk.injEq, nI_pos, if_true, if_false, ite_true, ite_false, not_true_eq_false, not_false_eq_true, and_true, true_and, and_self, or_self, b10_0, b10_1, b01_0, b01_1, b10_o, b01_o, or_true, true_or, or_false, false_or, and_false, false_and, eq_self, Nat.reduceEqDiff, b_em, b_me, ly_m, Nat.reduceLT, Nat.reduceLeDiff, Nat.reduceAdd, Nat.reduceMul, Nat.reduceSub, Bool.false_eq_true, Nat.not_lt_zero, Bool.false_or, decide_false]
    · rintro z ⟨m3, rfl, g1, g2⟩ self
      unfold f_X12_isSafe_L53
      simp (disch := omega) only [nb_lit, nI_add, nb_sub, pk_mul, nb_lt, nb_le, nb_eq, nb_and, nb_or, nb_xor, nb_shl, nb_shl2, Option.bind_some, Option.some.injEq, Prod.mk.injEq, nI_pos, if_true, if_false, ite_true, ite_false, not_true_eq_false, not_false_eq_true, and_true, true_and, and_self, or_self, b10_0, b10_1, b01_0, b01_1, b10_o, b01_o, or_true, true_or, or_false, false_or, and_false, false_and, eq_self, Nat.reduceEqDiff, b_em, b_me, ly_m, Nat.reduceLT, Nat.reduceLeDiff, Nat.reduceAdd, Nat.reduceMul, Nat.reduceSub, Bool.false_eq_true, Nat.not_lt_zero]
      rw [if_pos (by omega)]
      exact ⟨m3, rfl, fun _ k hk => g1 k (by omega), fun a ha hb hc => by rw [g2 a hb, hfr a ha hb hc]⟩
    · refine ⟨mx_up m2 123 0 (nI f), ?_, fun k hk => ?_, fun a ha => ?_⟩
      · simp only [pathS, Nat.zero_add, decide_eq_true_eq]
      · have : k = 0 := by omega
        subst this
        rw [hb_up_same]
        rfl
      · funext j
        rw [hb_up_ne (by omega)]
  · simp only [hsf, nb_lit, nI_add, nb_sub, pk_mul, nb_lt, nb_le, nb_eq, nb_and, nb_or, nb_xor, nb_shl, nb_shl2, Option.bind_some, Option.some.injEq, Prod.mk.injEq, nI_pos, if_true, if_false, ite_true, ite_false, not_true_eq_false, not_false_eq_true, and_true, true_and, and_self, or_self, b10_0, b10_1, b01_0, b01_1, b10_o, b01_o, or_true, true_or, or_false, false_or, and_false, false_and, eq_self, Nat.reduceEqDiff, b_em, b_me, ly_m, Nat.reduceLT, Nat.reduceLeDiff, Nat.reduceAdd, Nat.reduceMul, Nat.reduceSub, Bool.false_eq_true, Nat.not_lt_zero]
    refine ⟨mx_up m2 123 0 (nI f), ?_, fun z => absurd z (by simp), fun a ha hb hc => ?_⟩
    · rw [show (2000 : Nat) = 1999 + 1 from rfl, fix_1, f_X12_isSafe_L53]
      simp (disch := omega) only [nb_lit, nI_add, nb_sub, pk_mul, nb_lt, nb_le, nb_eq, nb_and, nb_or, nb_xor, nb_shl, nb_shl2, Option.bind_some, Option.some.injEq, Prod.mk.injEq, nI_pos, if_true, if_false, ite_true, ite_false, not_true_eq_false, not_false_eq_true, and_true, true_and, and_self, or_self, b10_0, b10_1, b01_0, b01_1, b10_o, b01_o, or_true, true_or, or_false, false_or, and_false, false_and, eq_self, Nat.reduceEqDiff, b_em, b_me, ly_m, Nat.reduceLT, Nat.reduceLeDiff, Nat.reduceAdd, Nat.reduceMul, Nat.reduceSub, Bool.false_eq_true, Nat.not_lt_zero]
      split <;> rfl
    · funext j
      rw [hb_up_ne (by omega), hfr a ha hb hc]
theorem mc_safe (H : MR r) (R : RelM m A) (W : WFa A) (x y : Int32) : MOk (f_X12_safe 114 x y (130, m, r)) m r (v_safe A x y) A := by
  obtain ⟨r1, T, S, r4, r5, r6⟩ := id R
  have B := W.2.1
  have F := W.2.2.1
  have hn := wf_N B
  unfold f_X12_safe v_safe
  rw [mb_in]
  by_cases hx : x < 0 ∨ nI (bN (aB A)) ≤ x
  · rw [if_pos (Or.inl hx)]
    refine MOk.mk0 R ?_
    simp (disch := omega) only [m_noW H T B hx, nb_lit, nI_add, nb_sub, pk_mul, nb_lt, nb_le, nb_eq, nb_and, nb_or, nb_xor, nb_shl, nb_shl2, Option.bind_some, Option.some.injEq, Prod.mk.injEq, nI_pos, if_true, if_false, ite_true, ite_false, not_true_eq_false, not_false_eq_true, and_true, true_and, and_self, or_self, b10_0, b10_1, b01_0, b01_1, b10_o, b01_o, or_true, true_or, or_false, false_or, and_false, false_and, eq_self, Nat.reduceEqDiff, b_em, b_me, ly_m, Nat.reduceLT, Nat.reduceLeDiff, Nat.reduceAdd, Nat.reduceMul, Nat.reduceSub, Bool.false_eq_true, Nat.not_lt_zero]
  · obtain ⟨w, hw, rfl, e⟩ := nword B hx
    by_cases hy : y < -1 ∨ 9 < y
    · rw [if_pos (Or.inr hy), if_pos hy]
      refine MOk.mk0 R ?_
      simp (disch := omega) only [m_isW H T B hw, nb_lit, nI_add, nb_sub, pk_mul, nb_lt, nb_le, nb_eq, nb_and, nb_or, nb_xor, nb_shl, nb_shl2, Option.bind_some, Option.some.injEq, Prod.mk.injEq, nI_pos, if_true, if_false, ite_true, ite_false, not_true_eq_false, not_false_eq_true, and_true, true_and, and_self, or_self, b10_0, b10_1, b01_0, b01_1, b10_o, b01_o, or_true, true_or, or_false, false_or, and_false, false_and, eq_self, Nat.reduceEqDiff, b_em, b_me, ly_m, Nat.reduceLT, Nat.reduceLeDiff, Nat.reduceAdd, Nat.reduceMul, Nat.reduceSub, Bool.false_eq_true, Nat.not_lt_zero]
    · rw [if_neg hy, if_neg (not_or.mpr ⟨hx, hy⟩), e]
      have hy1 : ¬ y < -1 := fun z => hy (Or.inl z)
      have hy9 : ¬ 9 < y := fun z => hy (Or.inr z)
      simp (disch := omega) only [m_isW H T B hw, nb_lit, nI_add, nb_sub, pk_mul, nb_lt, nb_le, nb_eq, nb_and, nb_or, nb_xor, nb_shl, nb_shl2, Option.bind_some, Option.some.injEq, Prod.mk.injEq, nI_pos, if_true, if_false, ite_true, ite_false, not_true_eq_false, not_false_eq_true, and_true, true_and, and_self, or_self, b10_0, b10_1, b01_0, b01_1, b10_o, b01_o, or_true, true_or, or_false, false_or, and_false, false_and, eq_self, Nat.reduceEqDiff, b_em, b_me, ly_m, Nat.reduceLT, Nat.reduceLeDiff, Nat.reduceAdd, Nat.reduceMul, Nat.reduceSub, Bool.false_eq_true, Nat.not_lt_zero]
      generalize aB A = b at *
      generalize aS A = s at *
      refine fix_findS (fun i q => ∃ m' : Nat → Nat → Int32, q = (nI (i + 1), (130, m', r)) ∧ (∀ k, k < i → ¬ fst (fun f => sfB b s w k f) (bN b) < bN b) ∧ ∀ a, a ≠ 122 → a ≠ 123 → a ≠ 124 → m' a = m a) 10 (Q := fun o => MOk o m r (tel (sfC b s w) (sfR b s w) y) A) ?_ ?_ (by omega) ⟨m, rfl, fun k hk => absurd hk (Nat.not_lt_zero k), fun a _ _ _ => rfl⟩
      · rintro i q hi ⟨m1, rfl, g1, g2⟩ self
        unfold f_X12_safe_L22
        simp (disch := omega) only [nb_lit, nI_add, nb_sub, pk_mul, nb_lt, nb_le, nb_eq, nb_and, nb_or, nb_xor, nb_shl, nb_shl2, Option.bind_some, Option.some.injEq, Prod.mk.injEq, nI_pos, if_true, if_false, ite_true, ite_false, not_true_eq_false, not_false_eq_true, and_true, true_and, and_self, or_self, b10_0, b10_1, b01_0, b01_1, b10_o, b01_o, or_true, true_or, or_false, false_or, and_false, false_and, eq_self, Nat.reduceEqDiff, b_em, b_me, ly_m, Nat.reduceLT, Nat.reduceLeDiff, Nat.reduceAdd, Nat.reduceMul, Nat.reduceSub, Bool.false_eq_true, Nat.not_lt_zero]
        rw [if_neg (by omega)]
        refine fix_findS (fun f q => ∃ m' : Nat → Nat → Int32, q = (nI f, (130, m', r)) ∧ (∀ g, g < f → sfB b s w i g = false) ∧ ∀ a, a ≠ 122 → a ≠ 123 → a ≠ 124 → m' a = m a) (bN b) (Q := fun o => (∃ s', (∃ m' : Nat → Nat → Int32, s' = (nI (i + 1 + 1), (130, m', r)) ∧ (∀ k, k < i + 1 → ¬ fst (fun f => sfB b s w k f) (bN b) < bN b) ∧ ∀ a, a ≠ 122 → a ≠ 123 → a ≠ 124 → m' a = m a) ∧ o = self s') ∨ MOk o m r (tel (sfC b s w) (sfR b s w) y) A) ?_ ?_ (by omega) ⟨m1, rfl, fun k hk => absurd hk (Nat.not_lt_zero k), g2⟩
        · rintro f q hf ⟨m2, rfl, k1, k2⟩ self2
          have T2 : TO (m2 116) b := by rw [k2 116 (by decide) (by decide) (by decide)]; exact T
          have S2 : SM (m2 118) 0 s := by rw [k2 118 (by decide) (by decide) (by decide)]; exact S
          obtain ⟨m3, j1, j2, j3⟩ := m_isSafe (many := i + 1) H T2 B S2 F hw hf (by omega) (by omega)
          have j4 : ∀ a, a ≠ 122 → a ≠ 123 → a ≠ 124 → m3 a = m a := fun a ha hb hc => by rw [j3 a ha hb hc, k2 a ha hb hc]
          unfold f_X12_safe_L31
          by_cases hsf : sfB b s w i f = true
          · right; right
            have hsf' : isSf b (dF b s f) w f (i + 1) = true := hsf
            have hF : fst (fun g => sfB b s w i g) (bN b) = f := fst_eq hf hsf k1
            have hK : sfK b s w = i := by
              unfold sfK
              refine fst_eq hi ?_ (fun k hk => ?_)
              · simp only [decide_eq_true_eq]
                rw [hF]; exact hf
              · simp only [decide_eq_false_iff_not]
                exact g1 k hk
            have hFF : sfF b s w = f := by unfold sfF; rw [hK]; exact hF
            have hC : sfC b s w = i + 1 := by unfold sfC; rw [hK, if_neg (by omega)]
            refine ⟨m3, ?_, R.same (fun a h1 h2 => j4 a (by omega) (by omega) (by omega)), fun a ha => j4 a (by omega) (by omega) (by omega)⟩
            rw [hsf'] at j1
            simp (disch := omega) only [gr_text H, gr_told H, gr_draft H, gr_s H, gr_past H, gr_images H, gr_notes H, gr_levels H, gr_row H, gr_reach H, gr_gains H, gr_line H, gr_rows H, gr_next H, gr_held H, al_text, al_told, al_draft, al_s, al_past, al_images, al_notes, al_levels, al_row, al_reach, al_gains, al_line, al_rows, al_next, al_held, as_text, as_told, as_draft, as_s, as_past, as_images, as_notes, as_levels, as_row, as_reach, as_gains, as_line, as_rows, as_next, as_held, gi_typed, pi_typed, gi_known, pi_known, gi_kept, pi_kept, gi_noted, pi_noted, gi_at, pi_at, gd_m, to_N T2, j1, nb_lit, nI_add, nb_sub, pk_mul, nb_lt, nb_le, nb_eq, nb_and, nb_or, nb_xor, nb_shl, nb_shl2, Option.bind_some, Option.some.injEq, Prod.mk.injEq, nI_pos, if_true, if_false, ite_true, ite_false, not_true_eq_false, not_false_eq_true, and_true, true_and, and_self, or_self, b10_0, b10_1, b01_0, b01_1, b10_o, b01_o, or_true, true_or, or_false, false_or, and_false, false_and, eq_self, Nat.reduceEqDiff, b_em, b_me, ly_m, Nat.reduceLT, Nat.reduceLeDiff, Nat.reduceAdd, Nat.reduceMul, Nat.reduceSub, Bool.false_eq_true, Nat.not_lt_zero]
            rw [if_neg (show ¬ bN b ≤ f by omega)]
            unfold tel
            rw [hC, if_neg (show ¬ i + 1 = 0 by omega)]
            rcases y_or (c := i + 1) (by omega) hy1 with q | q | ⟨j, hj, rfl⟩
            · subst q
              simp only [nb_lit, nI_add, nb_sub, pk_mul, nb_lt, nb_le, nb_eq, nb_and, nb_or, nb_xor, nb_shl, nb_shl2, Option.bind_some, Option.some.injEq, Prod.mk.injEq, nI_pos, if_true, if_false, ite_true, ite_false, not_true_eq_false, not_false_eq_true, and_true, true_and, and_self, or_self, b10_0, b10_1, b01_0, b01_1, b10_o, b01_o, or_true, true_or, or_false, false_or, and_false, false_and, eq_self, Nat.reduceEqDiff, b_em, b_me, ly_m, Nat.reduceLT, Nat.reduceLeDiff, Nat.reduceAdd, Nat.reduceMul, Nat.reduceSub, Bool.false_eq_true, Nat.not_lt_zero]
            · by_cases hm : y = -nI 1
              · subst hm
                simp only [nb_lit, nI_add, nb_sub, pk_mul, nb_lt, nb_le, nb_eq, nb_and, nb_or, nb_xor, nb_shl, nb_shl2, Option.bind_some, Option.some.injEq, Prod.mk.injEq, nI_pos, if_true, if_false, ite_true, ite_false, not_true_eq_false, not_false_eq_true, and_true, true_and, and_self, or_self, b10_0, b10_1, b01_0, b01_1, b10_o, b01_o, or_true, true_or, or_false, false_or, and_false, false_and, eq_self, Nat.reduceEqDiff, b_em, b_me, ly_m, Nat.reduceLT, Nat.reduceLeDiff, Nat.reduceAdd, Nat.reduceMul, Nat.reduceSub, Bool.false_eq_true, Nat.not_lt_zero]
              · simp only [hm, q, nb_lit, nI_add, nb_sub, pk_mul, nb_lt, nb_le, nb_eq, nb_and, nb_or, nb_xor, nb_shl, nb_shl2, Option.bind_some, Option.some.injEq, Prod.mk.injEq, nI_pos, if_true, if_false, ite_true, ite_false, not_true_eq_false, not_false_eq_true, and_true, true_and, and_self, or_self, b10_0, b10_1, b01_0, b01_1, b10_o, b01_o, or_true, true_or, or_false, false_or, and_false, false_and, eq_self, Nat.reduceEqDiff, b_em, b_me, ly_m, Nat.reduceLT, Nat.reduceLeDiff, Nat.reduceAdd, Nat.reduceMul, Nat.reduceSub, Bool.false_eq_true, Nat.not_lt_zero]
            · have hm := nI_ne_m1 (j := j) (by omega)
              have hp : m3 123 j = nI (sfR b s w j) := by
                unfold sfR
                rw [hFF, hK]
                exact j2 hsf' j hj
              simp (disch := omega) only [gr_text H, gr_told H, gr_draft H, gr_s H, gr_past H, gr_images H, gr_notes H, gr_levels H, gr_row H, gr_reach H, gr_gains H, gr_line H, gr_rows H, gr_next H, gr_held H, al_text, al_told, al_draft, al_s, al_past, al_images, al_notes, al_levels, al_row, al_reach, al_gains, al_line, al_rows, al_next, al_held, as_text, as_told, as_draft, as_s, as_past, as_images, as_notes, as_levels, as_row, as_reach, as_gains, as_line, as_rows, as_next, as_held, gi_typed, pi_typed, gi_known, pi_known, gi_kept, pi_kept, gi_noted, pi_noted, gi_at, pi_at, gd_m, hm, hp, nb_lit, nI_add, nb_sub, pk_mul, nb_lt, nb_le, nb_eq, nb_and, nb_or, nb_xor, nb_shl, nb_shl2, Option.bind_some, Option.some.injEq, Prod.mk.injEq, nI_pos, if_true, if_false, ite_true, ite_false, not_true_eq_false, not_false_eq_true, and_true, true_and, and_self, or_self, b10_0, b10_1, b01_0, b01_1, b10_o, b01_o, or_true, true_or, or_false, false_or, and_false, false_and, eq_self, Nat.reduceEqDiff, b_em, b_me, ly_m, Nat.reduceLT, Nat.reduceLeDiff, Nat.reduceAdd, Nat.reduceMul, Nat.reduceSub, Bool.false_eq_true, Nat.not_lt_zero, nb_cl, show (i + 1 ≤ j) = False from eq_false (by omega)]
          · left
            have hsf' : ¬ isSf b (dF b s f) w f (i + 1) = true := hsf
            refine ⟨(nI (f + 1), (130, m3, r)), ⟨m3, rfl, fun g hg => ?_, j4⟩, ?_⟩
            · by_cases he : g = f
              · subst he; simpa using hsf
              · exact k1 g (by omega)
            · rw [if_neg hsf'] at j1
              simp (disch := omega) only [gr_text H, gr_told H, gr_draft H, gr_s H, gr_past H, gr_images H, gr_notes H, gr_levels H, gr_row H, gr_reach H, gr_gains H, gr_line H, gr_rows H, gr_next H, gr_held H, al_text, al_told, al_draft, al_s, al_past, al_images, al_notes, al_levels, al_row, al_reach, al_gains, al_line, al_rows, al_next, al_held, as_text, as_told, as_draft, as_s, as_past, as_images, as_notes, as_levels, as_row, as_reach, as_gains, as_line, as_rows, as_next, as_held, gi_typed, pi_typed, gi_known, pi_known, gi_kept, pi_kept, gi_noted, pi_noted, gi_at, pi_at, gd_m, to_N T2, j1, nb_lit, nI_add, nb_sub, pk_mul, nb_lt, nb_le, nb_eq, nb_and, nb_or, nb_xor, nb_shl, nb_shl2, Option.bind_some, Option.some.injEq, Prod.mk.injEq, nI_pos, if_true, if_false, ite_true, ite_false, not_true_eq_false, not_false_eq_true, and_true, true_and, and_self, or_self, b10_0, b10_1, b01_0, b01_1, b10_o, b01_o, or_true, true_or, or_false, false_or, and_false, false_and, eq_self, Nat.reduceEqDiff, b_em, b_me, ly_m, Nat.reduceLT, Nat.reduceLeDiff, Nat.reduceAdd, Nat.reduceMul, Nat.reduceSub, Bool.false_eq_true, Nat.not_lt_zero]
              rw [if_neg (by omega)]
        · rintro q ⟨m2, rfl, k1, k2⟩ self2
          have T2 : TO (m2 116) b := by rw [k2 116 (by decide) (by decide) (by decide)]; exact T
          left
          refine ⟨(nI (i + 1 + 1), (130, m2, r)), ⟨m2, rfl, fun k hk => ?_, k2⟩, ?_⟩
          · by_cases he : k = i
            · subst he
              rw [fst_none k1]
              omega
            · exact g1 k (by omega)
          · unfold f_X12_safe_L31
            simp (disch := omega) only [gr_text H, gr_told H, gr_draft H, gr_s H, gr_past H, gr_images H, gr_notes H, gr_levels H, gr_row H, gr_reach H, gr_gains H, gr_line H, gr_rows H, gr_next H, gr_held H, al_text, al_told, al_draft, al_s, al_past, al_images, al_notes, al_levels, al_row, al_reach, al_gains, al_line, al_rows, al_next, al_held, as_text, as_told, as_draft, as_s, as_past, as_images, as_notes, as_levels, as_row, as_reach, as_gains, as_line, as_rows, as_next, as_held, gi_typed, pi_typed, gi_known, pi_known, gi_kept, pi_kept, gi_noted, pi_noted, gi_at, pi_at, gd_m, to_N T2, nb_lit, nI_add, nb_sub, pk_mul, nb_lt, nb_le, nb_eq, nb_and, nb_or, nb_xor, nb_shl, nb_shl2, Option.bind_some, Option.some.injEq, Prod.mk.injEq, nI_pos, if_true, if_false, ite_true, ite_false, not_true_eq_false, not_false_eq_true, and_true, true_and, and_self, or_self, b10_0, b10_1, b01_0, b01_1, b10_o, b01_o, or_true, true_or, or_false, false_or, and_false, false_and, eq_self, Nat.reduceEqDiff, b_em, b_me, ly_m, Nat.reduceLT, Nat.reduceLeDiff, Nat.reduceAdd, Nat.reduceMul, Nat.reduceSub, Bool.false_eq_true, Nat.not_lt_zero]
            rw [if_pos (by omega)]
      · rintro q ⟨m1, rfl, g1, g2⟩ self
        have hK : sfK b s w = 10 := by
          unfold sfK
          refine fst_none (fun k hk => ?_)
          simp only [decide_eq_false_iff_not]
          exact g1 k hk
        unfold f_X12_safe_L22
        simp (disch := omega) only [nb_lit, nI_add, nb_sub, pk_mul, nb_lt, nb_le, nb_eq, nb_and, nb_or, nb_xor, nb_shl, nb_shl2, Option.bind_some, Option.some.injEq, Prod.mk.injEq, nI_pos, if_true, if_false, ite_true, ite_false, not_true_eq_false, not_false_eq_true, and_true, true_and, and_self, or_self, b10_0, b10_1, b01_0, b01_1, b10_o, b01_o, or_true, true_or, or_false, false_or, and_false, false_and, eq_self, Nat.reduceEqDiff, b_em, b_me, ly_m, Nat.reduceLT, Nat.reduceLeDiff, Nat.reduceAdd, Nat.reduceMul, Nat.reduceSub, Bool.false_eq_true, Nat.not_lt_zero]
        refine ⟨m1, ?_, R.same (fun a h1 h2 => g2 a (by omega) (by omega) (by omega)), fun a ha => g2 a (by omega) (by omega) (by omega)⟩
        unfold tel sfC
        rw [hK]
        rfl
end M8
