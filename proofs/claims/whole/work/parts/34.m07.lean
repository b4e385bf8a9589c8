/-! safe sentences -/
def eD (b : Bo) (D x : Nat) : Nat := if D.testBit x = true then 0 else bE b x
def late (b : Bo) (D : Nat) : Nat → Nat
  | 0 => stopsB b
  | k + 1 => mk (fun x => decide (eD b D x &&& late b D k ≠ 0)) (bN b)
def rch (b : Bo) (D w : Nat) : Nat → Nat
  | 0 => 0
  | k + 1 => mk (fun x => (eD b D x &&& late b D k).testBit w || decide (nb_dif (eD b D x) (2 ^ w) &&& rch b D w k ≠ 0)) (bN b)
def nxtS (b : Bo) (D w left : Nat) (q : Nat × Bool) : Nat := if q.2 then bE b q.1 &&& late b D left else bE b q.1 &&& (nb_dif (rch b D w left) (2 ^ w) ||| (late b D left &&& 2 ^ w))
def pathS (b : Bo) (D w many first : Nat) : Nat → Nat × Bool
  | 0 => (first, decide (first = w))
  | k + 1 => (fst (fun x => (nxtS b D w (many - 1 - (k + 1)) (pathS b D w many first k)).testBit x) (bN b), (pathS b D w many first k).2 || decide (fst (fun x => (nxtS b D w (many - 1 - (k + 1)) (pathS b D w many first k)).testBit x) (bN b) = w))
def isSf (b : Bo) (D w first many : Nat) : Bool := if first = w then (late b D (many - 1)).testBit first else (rch b D w (many - 1)).testBit first
section M7
variable {m : Nat → Nat → Int32} {r : Nat → Nat → Option Nat} {b : Bo} {s : St} {D w : Nat}
theorem eD_lt (B : WFb b) {x : Nat} (hx : x < bN b) : eD b D x < 2 ^ bN b := by
  unfold eD
  split
  · exact Nat.two_pow_pos _
  · exact wf_E B hx
theorem eD_sub {x i : Nat} (h : (eD b D x).testBit i = true) : (bE b x).testBit i = true := by
  unfold eD at h
  split at h
  · simp at h
  · exact h
theorem late_lt (k : Nat) : late b D k < 2 ^ bN b := by
  cases k with
  | zero => exact mk_lt _ _
  | succ k => exact mk_lt _ _
theorem rch_lt (k : Nat) : rch b D w k < 2 ^ bN b := by
  cases k with
  | zero => exact Nat.two_pow_pos _
  | succ k => exact mk_lt _ _
theorem late_2 (B : WFb b) (k : Nat) : late b D k < 1024 := lt1024 (late_lt k) B.1.2
theorem rch_2 (B : WFb b) (k : Nat) : rch b D w k < 1024 := lt1024 (rch_lt k) B.1.2
theorem lostF_lt {kn : Nat} : lostF b kn < 2 ^ bN b := mk_lt _ _
theorem lostF_2 (B : WFb b) {kn : Nat} : lostF b kn < 1024 := lt1024 lostF_lt B.1.2
theorem nb_andn2 {a b : Nat} (ha : a < 1024) : nI a &&& (nI b ^^^ -nI 1) = nI (nb_dif a b) := nb_andn ha
theorem nxtS_lt (B : WFb b) {left : Nat} {q : Nat × Bool} (hq : q.1 < bN b) : nxtS b D w left q < 2 ^ bN b := by
  unfold nxtS
  split
  · exact and_lt (wf_E B hq)
  · exact and_lt (wf_E B hq)
theorem dif_bit {a c i : Nat} (ha : a < 1024) : (nb_dif a (2 ^ c)).testBit i = (a.testBit i && decide (i ≠ c)) := by
  rw [nb_dif_bit ha]
  by_cases h : i = c
  · subst h
    simp [Nat.testBit_two_pow_self]
  · rw [Nat.testBit_two_pow_of_ne (by omega)]
    simp [h]
/-- what holds along the way -/
def pInv (b : Bo) (D w left : Nat) (q : Nat × Bool) : Prop := (q.2 = true → (late b D left).testBit q.1 = true) ∧ (q.2 = false → q.1 ≠ w ∧ (rch b D w left).testBit q.1 = true)
theorem pInv_lt {left : Nat} {q : Nat × Bool} (h : pInv b D w left q) : q.1 < bN b := by
  apply Decidable.byContradiction
  intro hn
  cases h2 : q.2 with
  | true =>
    have := h.1 h2
    rw [lt_bit (late_lt left) (by omega)] at this
    exact absurd this (by decide)
  | false =>
    have := (h.2 h2).2
    rw [lt_bit (rch_lt left) (by omega)] at this
    exact absurd this (by decide)
theorem pInv_next (B : WFb b) (hw : w < bN b) {left : Nat} {q : Nat × Bool} (h : pInv b D w (left + 1) q) : fst (fun x => (nxtS b D w left q).testBit x) (bN b) < bN b ∧ pInv b D w left (fst (fun x => (nxtS b D w left q).testBit x) (bN b), q.2 || decide (fst (fun x => (nxtS b D w left q).testBit x) (bN b) = w)) := by
  have hq := pInv_lt h
  have hE := eD_lt (D := D) B hq
  have hE2 := lt1024 hE B.1.2
  have hL := late_2 (D := D) B left
  have hR := rch_2 (D := D) (w := w) B left
  have hne : ∃ i, i < bN b ∧ (nxtS b D w left q).testBit i = true := by
    cases h2 : q.2 with
    | true =>
      have h1 : (mk (fun x => decide (eD b D x &&& late b D left ≠ 0)) (bN b)).testBit q.1 = true := h.1 h2
      rw [mk_bit] at h1
      simp only [Bool.and_eq_true, decide_eq_true_eq] at h1
      obtain ⟨i, hi, i1, i2⟩ := (and_ne0 hE).mp h1.2
      refine ⟨i, hi, ?_⟩
      unfold nxtS
      rw [h2, if_pos rfl, Nat.testBit_and, eD_sub i1, i2]
      rfl
    | false =>
      obtain ⟨n1, n2⟩ := h.2 h2
      have h1 : (mk (fun x => (eD b D x &&& late b D left).testBit w || decide (nb_dif (eD b D x) (2 ^ w) &&& rch b D w left ≠ 0)) (bN b)).testBit q.1 = true := n2
      rw [mk_bit] at h1
      simp only [Bool.and_eq_true, Bool.or_eq_true, decide_eq_true_eq] at h1
      unfold nxtS
      rw [h2, if_neg (by decide)]
      rcases h1.2 with h3 | h3
      · rw [Nat.testBit_and, Bool.and_eq_true] at h3
        refine ⟨w, hw, ?_⟩
        rw [Nat.testBit_and, Nat.testBit_or, Nat.testBit_and, eD_sub h3.1, h3.2, Nat.testBit_two_pow_self]
        simp
      · obtain ⟨i, hi, i1, i2⟩ := (and_ne0 (n := bN b) (by unfold nb_dif; exact and_lt hE)).mp h3
        rw [dif_bit hE2] at i1
        simp only [Bool.and_eq_true, decide_eq_true_eq] at i1
        refine ⟨i, hi, ?_⟩
        rw [Nat.testBit_and, Nat.testBit_or, dif_bit hR, eD_sub i1.1, i2]
        simp [i1.2]
  obtain ⟨i, hi, hb⟩ := hne
  obtain ⟨f1, f2⟩ := fst_lt (p := fun x => (nxtS b D w left q).testBit x) hi hb
  refine ⟨f1, ?_⟩
  generalize fst (fun x => (nxtS b D w left q).testBit x) (bN b) = y at f1 f2 ⊢
  have f2 : (nxtS b D w left q).testBit y = true := f2
  unfold nxtS at f2
  cases h2 : q.2 with
  | true =>
    rw [h2, if_pos rfl, Nat.testBit_and, Bool.and_eq_true] at f2
    exact ⟨fun _ => f2.2, fun z => by simp at z⟩
  | false =>
    rw [h2, if_neg (by decide), Nat.testBit_and, Nat.testBit_or, dif_bit hR, Nat.testBit_and, Bool.and_eq_true, Bool.or_eq_true, Bool.and_eq_true, Bool.and_eq_true] at f2
    by_cases he : y = w
    · refine ⟨fun _ => ?_, fun z => by simp [he] at z⟩
      rcases f2.2 with f3 | f3
      · exact absurd f3.2 (by simp [he])
      · exact f3.1
    · refine ⟨fun z => by simp [he] at z, fun _ => ⟨he, ?_⟩⟩
      rcases f2.2 with f3 | f3
      · exact f3.1
      · rw [Nat.testBit_two_pow_of_ne (by omega)] at f3
        exact absurd f3.2 (by decide)
theorem pathS_inv (B : WFb b) (hw : w < bN b) {many first : Nat} (h : isSf b D w first many = true) : ∀ k, k < many → pInv b D w (many - 1 - k) (pathS b D w many first k) := by
  intro k
  induction k with
  | zero =>
    intro _
    unfold isSf at h
    by_cases he : first = w
    · rw [if_pos he] at h
      exact ⟨fun _ => h, fun z => by simp [pathS, he] at z⟩
    · rw [if_neg he] at h
      exact ⟨fun z => by simp [pathS, he] at z, fun _ => ⟨he, h⟩⟩
  | succ k ih =>
    intro hk
    have h1 := ih (by omega)
    rw [show many - 1 - k = many - 1 - (k + 1) + 1 by omega] at h1
    exact (pInv_next B hw h1).2
theorem m_lost (H : MR r) (T : TO (m 116) b) (B : WFb b) (S : SM (m 118) 0 s) (F : WFs (bN b) s) {f : Nat} (hf : f < bN b) : ∃ m', f_X12_lost 114 (nI f) (130, m, r) = some (nI (lostF b (knF b s f)), (130, m', r)) ∧ ∀ a, a ≠ 122 → a ≠ 123 → m' a = m a := by
  have hn := wf_N B
  unfold f_X12_lost
  simp (disch := omega) only [m_kn H T B S F hf, nb_lit, nI_add, nb_sub, pk_mul, nb_lt, nb_le, nb_eq, nb_and, nb_or, nb_xor, nb_shl, nb_shl2, Option.bind_some, Option.some.injEq, Prod.mk.injEq, nI_pos, if_true, if_false, ite_true, ite_false, not_true_eq_false, not_false_eq_true, and_true, true_and, and_self, or_self, b10_0, b10_1, b01_0, b01_1, b10_o, b01_o, or_true, true_or, or_false, false_or, and_false, false_and, eq_self, Nat.reduceEqDiff, b_em, b_me, ly_m, Nat.reduceLT, Nat.reduceLeDiff, Nat.reduceAdd, Nat.reduceMul, Nat.reduceSub, Bool.false_eq_true, Nat.not_lt_zero]
  refine fix_rel (fun i q => ∃ m' : Nat → Nat → Int32, q = (nI (mk (fun w => decide (0 < fmany b (knF b s f) w)) i), nI i, (130, m', r)) ∧ ∀ a, a ≠ 122 → a ≠ 123 → m' a = m a) (bN b) (Q := fun o => ∃ m' : Nat → Nat → Int32, o = some (nI (lostF b (knF b s f)), (130, m', r)) ∧ ∀ a, a ≠ 122 → a ≠ 123 → m' a = m a) ?_ ?_ (by omega) ⟨m, rfl, fun a _ _ => rfl⟩
  · rintro i q hi ⟨m1, rfl, h1⟩
    have T1 : TO (m1 116) b := by rw [h1 116 (by decide) (by decide)]; exact T
    obtain ⟨m2, e1, e2, e3⟩ := m_fin H T1 B (kn := knF b s f) (w := i) (knF_lt B F) hi
    have h4 := fmany_le (kn := knF b s f) (w := i) B
    refine ⟨(nI (mk (fun w => decide (0 < fmany b (knF b s f) w)) (i + 1)), nI (i + 1), (130, m2, r)), ⟨m2, rfl, fun a ha hb => by rw [e3 a ha hb, h1 a ha hb]⟩, fun self => ?_⟩
    unfold f_X12_lost_L11
    simp (disch := omega) only [gr_text H, gr_told H, gr_draft H, gr_s H, gr_past H, gr_images H, gr_notes H, gr_levels H, gr_row H, gr_reach H, gr_gains H, gr_line H, gr_rows H, gr_next H, gr_held H, al_text, al_told, al_draft, al_s, al_past, al_images, al_notes, al_levels, al_row, al_reach, al_gains, al_line, al_rows, al_next, al_held, as_text, as_told, as_draft, as_s, as_past, as_images, as_notes, as_levels, as_row, as_reach, as_gains, as_line, as_rows, as_next, as_held, gi_typed, pi_typed, gi_known, pi_known, gi_kept, pi_kept, gi_noted, pi_noted, gi_at, pi_at, gd_m, to_N T1, e1, nb_lit, nI_add, nb_sub, pk_mul, nb_lt, nb_le, nb_eq, nb_and, nb_or, nb_xor, nb_shl, nb_shl2, Option.bind_some, Option.some.injEq, Prod.mk.injEq, nI_pos, if_true, if_false, ite_true, ite_false, not_true_eq_false, not_false_eq_true, and_true, true_and, and_self, or_self, b10_0, b10_1, b01_0, b01_1, b10_o, b01_o, or_true, true_or, or_false, false_or, and_false, false_and, eq_self, Nat.reduceEqDiff, b_em, b_me, ly_m, Nat.reduceLT, Nat.reduceLeDiff, Nat.reduceAdd, Nat.reduceMul, Nat.reduceSub, Bool.false_eq_true, Nat.not_lt_zero]
    rw [if_neg (by omega)]
    simp only [mk]
    by_cases hz : 0 < fmany b (knF b s f) i
    · simp (disch := omega) only [hz, nb_lit, nI_add, nb_sub, pk_mul, nb_lt, nb_le, nb_eq, nb_and, nb_or, nb_xor, nb_shl, nb_shl2, Option.bind_some, Option.some.injEq, Prod.mk.injEq, nI_pos, if_true, if_false, ite_true, ite_false, not_true_eq_false, not_false_eq_true, and_true, true_and, and_self, or_self, b10_0, b10_1, b01_0, b01_1, b10_o, b01_o, or_true, true_or, or_false, false_or, and_false, false_and, eq_self, Nat.reduceEqDiff, b_em, b_me, ly_m, Nat.reduceLT, Nat.reduceLeDiff, Nat.reduceAdd, Nat.reduceMul, Nat.reduceSub, Bool.false_eq_true, Nat.not_lt_zero, decide_true, show (fmany b (knF b s f) i ≤ 0) = False from eq_false (by omega)]
    · simp (disch := omega) only [hz, nb_lit, nI_add, nb_sub, pk_mul, nb_lt, nb_le, nb_eq, nb_and, nb_or, nb_xor, nb_shl, nb_shl2, Option.bind_some, Option.some.injEq, Prod.mk.injEq, nI_pos, if_true, if_false, ite_true, ite_false, not_true_eq_false, not_false_eq_true, and_true, true_and, and_self, or_self, b10_0, b10_1, b01_0, b01_1, b10_o, b01_o, or_true, true_or, or_false, false_or, and_false, false_and, eq_self, Nat.reduceEqDiff, b_em, b_me, ly_m, Nat.reduceLT, Nat.reduceLeDiff, Nat.reduceAdd, Nat.reduceMul, Nat.reduceSub, Bool.false_eq_true, Nat.not_lt_zero, decide_false, show (fmany b (knF b s f) i ≤ 0) = True from eq_true (by omega), Nat.or_zero]
  · rintro q ⟨m1, rfl, h1⟩ self
    have T1 : TO (m1 116) b := by rw [h1 116 (by decide) (by decide)]; exact T
    unfold f_X12_lost_L11
    simp (disch := omega) only [gr_text H, gr_told H, gr_draft H, gr_s H, gr_past H, gr_images H, gr_notes H, gr_levels H, gr_row H, gr_reach H, gr_gains H, gr_line H, gr_rows H, gr_next H, gr_held H, al_text, al_told, al_draft, al_s, al_past, al_images, al_notes, al_levels, al_row, al_reach, al_gains, al_line, al_rows, al_next, al_held, as_text, as_told, as_draft, as_s, as_past, as_images, as_notes, as_levels, as_row, as_reach, as_gains, as_line, as_rows, as_next, as_held, gi_typed, pi_typed, gi_known, pi_known, gi_kept, pi_kept, gi_noted, pi_noted, gi_at, pi_at, gd_m, to_N T1, nb_lit, nI_add, nb_sub, pk_mul, nb_lt, nb_le, nb_eq, nb_and, nb_or, nb_xor, nb_shl, nb_shl2, Option.bind_some, Option.some.injEq, Prod.mk.injEq, nI_pos, if_true, if_false, ite_true, ite_false, not_true_eq_false, not_false_eq_true, and_true, true_and, and_self, or_self, b10_0, b10_1, b01_0, b01_1, b10_o, b01_o, or_true, true_or, or_false, false_or, and_false, false_and, eq_self, Nat.reduceEqDiff, b_em, b_me, ly_m, Nat.reduceLT, Nat.reduceLeDiff, Nat.reduceAdd, Nat.reduceMul, Nat.reduceSub, Bool.false_eq_true, Nat.not_lt_zero]
    rw [if_pos (by omega)]
    exact ⟨m1, rfl, h1⟩
theorem up_4 {α : Type} {m : Nat → Nat → α} {a p q : Nat} {u v x y : α} (h : p ≠ q) : mx_up (mx_up (mx_up (mx_up m a p u) a q v) a p x) a q y = mx_up (mx_up m a p x) a q y := by
  funext c i
  unfold mx_up
  repeat' split
  all_goals first | rfl | omega
theorem m_reckons (H : MR r) (T : TO (m 116) b) (B : WFb b) (hw : w < bN b) (hD : D < 1024) : ∃ m', f_X12_reckons 114 (nI w) (nI D) (130, m, r) = some (130, m', r) ∧ (∀ k, k < 10 → m' 124 k = nI (rch b D w k) ∧ m' 124 (10 + k) = nI (late b D k)) ∧ ∀ a, a ≠ 124 → m' a = m a := by
  have hn := wf_N B
  unfold f_X12_reckons
  have T0 : TO ((mx_up m 124 0 (nI 0)) 116) b := by
    have e : (mx_up m 124 0 (nI 0)) 116 = m 116 := by funext j; simp (disch := omega) only [hb_up_same, hb_up_ne, ne_eq]
    rw [e]; exact T
  simp (disch := omega) only [gr_text H, gr_told H, gr_draft H, gr_s H, gr_past H, gr_images H, gr_notes H, gr_levels H, gr_row H, gr_reach H, gr_gains H, gr_line H, gr_rows H, gr_next H, gr_held H, al_text, al_told, al_draft, al_s, al_past, al_images, al_notes, al_levels, al_row, al_reach, al_gains, al_line, al_rows, al_next, al_held, as_text, as_told, as_draft, as_s, as_past, as_images, as_notes, as_levels, as_row, as_reach, as_gains, as_line, as_rows, as_next, as_held, gi_typed, pi_typed, gi_known, pi_known, gi_kept, pi_kept, gi_noted, pi_noted, gi_at, pi_at, gd_m, m_stops H T0 B, nb_lit, nI_add, nb_sub, pk_mul, nb_lt, nb_le, nb_eq, nb_and, nb_or, nb_xor, nb_shl, nb_shl2, Option.bind_some, Option.some.injEq, Prod.mk.injEq, nI_pos, if_true, if_false, ite_true, ite_false, not_true_eq_false, not_false_eq_true, and_true, true_and, and_self, or_self, b10_0, b10_1, b01_0, b01_1, b10_o, b01_o, or_true, true_or, or_false, false_or, and_false, false_and, eq_self, Nat.reduceEqDiff, b_em, b_me, ly_m, Nat.reduceLT, Nat.reduceLeDiff, Nat.reduceAdd, Nat.reduceMul, Nat.reduceSub, Bool.false_eq_true, Nat.not_lt_zero]
  refine fix_relS (fun i q => ∃ m' : Nat → Nat → Int32, q = (nI (i + 1), (130, m', r)) ∧ (∀ k, k < i + 1 → m' 124 k = nI (rch b D w k) ∧ m' 124 (10 + k) = nI (late b D k)) ∧ ∀ a, a ≠ 124 → m' a = m a) 9 (Q := fun o => ∃ m' : Nat → Nat → Int32, o = some (130, m', r) ∧ (∀ k, k < 10 → m' 124 k = nI (rch b D w k) ∧ m' 124 (10 + k) = nI (late b D k)) ∧ ∀ a, a ≠ 124 → m' a = m a) ?_ ?_ (by omega) ?_
  · rintro i q hi ⟨m1, rfl, h1, h2⟩ self
    have T1 : TO (m1 116) b := by rw [h2 116 (by decide)]; exact T
    refine ⟨(nI (i + 1 + 1), (130, mx_up (mx_up m1 124 (10 + (i + 1)) (nI (late b D (i + 1)))) 124 (i + 1) (nI (rch b D w (i + 1))), r)), ⟨_, rfl, fun k hk => ?_, fun a ha => ?_⟩, ?_⟩
    · by_cases he : k = i + 1
      · subst he
        simp (disch := omega) only [hb_up_same, hb_up_ne, ne_eq]
        exact ⟨trivial, trivial⟩
      · simp (disch := omega) only [hb_up_same, hb_up_ne, ne_eq]
        exact h1 k (by omega)
    · funext j
      simp (disch := omega) only [hb_up_same, hb_up_ne, ne_eq]
      rw [h2 a ha]
    · unfold f_X12_reckons_L20
      simp (disch := omega) only [gr_text H, gr_told H, gr_draft H, gr_s H, gr_past H, gr_images H, gr_notes H, gr_levels H, gr_row H, gr_reach H, gr_gains H, gr_line H, gr_rows H, gr_next H, gr_held H, al_text, al_told, al_draft, al_s, al_past, al_images, al_notes, al_levels, al_row, al_reach, al_gains, al_line, al_rows, al_next, al_held, as_text, as_told, as_draft, as_s, as_past, as_images, as_notes, as_levels, as_row, as_reach, as_gains, as_line, as_rows, as_next, as_held, gi_typed, pi_typed, gi_known, pi_known, gi_kept, pi_kept, gi_noted, pi_noted, gi_at, pi_at, gd_m, nb_lit, nI_add, nb_sub, pk_mul, nb_lt, nb_le, nb_eq, nb_and, nb_or, nb_xor, nb_shl, nb_shl2, Option.bind_some, Option.some.injEq, Prod.mk.injEq, nI_pos, if_true, if_false, ite_true, ite_false, not_true_eq_false, not_false_eq_true, and_true, true_and, and_self, or_self, b10_0, b10_1, b01_0, b01_1, b10_o, b01_o, or_true, true_or, or_false, false_or, and_false, false_and, eq_self, Nat.reduceEqDiff, b_em, b_me, ly_m, Nat.reduceLT, Nat.reduceLeDiff, Nat.reduceAdd, Nat.reduceMul, Nat.reduceSub, Bool.false_eq_true, Nat.not_lt_zero]
      rw [if_neg (by omega)]
      have e0 : mx_up (mx_up m1 124 (i + 1) (nI 0)) 124 (10 + (i + 1)) (nI 0) = mx_up (mx_up m1 124 (10 + (i + 1)) (nI 0)) 124 (i + 1) (nI 0) := by
        funext c j
        unfold mx_up
        repeat' split
        all_goals first | rfl | omega
      rw [e0]
      refine fix_up (fun x => (nI x, (130, mx_up (mx_up m1 124 (10 + (i + 1)) (nI (mk (fun x => decide (eD b D x &&& late b D i ≠ 0)) x))) 124 (i + 1) (nI (mk (fun x => (eD b D x &&& late b D i).testBit w || decide (nb_dif (eD b D x) (2 ^ w) &&& rch b D w i ≠ 0)) x)), r))) (bN b) (fun x hx self2 => ?_) (fun self2 => ?_) (by omega)
      · have hE := lt1024 (eD_lt (D := D) B hx) hn.2
        have hE2 := wf_E2 B hx
        have hL := late_2 (D := D) B i
        have hR := rch_2 (D := D) (w := w) B i
        have e1 : ∀ u v : Int32, (mx_up (mx_up m1 124 (10 + (i + 1)) u) 124 (i + 1) v) 116 = m1 116 := by
          intro u v; funext j; simp (disch := omega) only [hb_up_same, hb_up_ne, ne_eq]
        have T2 : ∀ u v : Int32, TO ((mx_up (mx_up m1 124 (10 + (i + 1)) u) 124 (i + 1) v) 116) b := by intro u v; rw [e1]; exact T1
        have g1 : m1 124 (10 + i) = nI (late b D i) := (h1 i (by omega)).2
        have g2 : m1 124 i = nI (rch b D w i) := (h1 i (by omega)).1
        have hv : (if D.testBit x = true then nI 0 else nI (bE b x)) = nI (eD b D x) := by unfold eD; split <;> rfl
        unfold f_X12_reckons_L46
        simp (disch := omega) only [gr_text H, gr_told H, gr_draft H, gr_s H, gr_past H, gr_images H, gr_notes H, gr_levels H, gr_row H, gr_reach H, gr_gains H, gr_line H, gr_rows H, gr_next H, gr_held H, al_text, al_told, al_draft, al_s, al_past, al_images, al_notes, al_levels, al_row, al_reach, al_gains, al_line, al_rows, al_next, al_held, as_text, as_told, as_draft, as_s, as_past, as_images, as_notes, as_levels, as_row, as_reach, as_gains, as_line, as_rows, as_next, as_held, gi_typed, pi_typed, gi_known, pi_known, gi_kept, pi_kept, gi_noted, pi_noted, gi_at, pi_at, gd_m, to_N (T2 _ _), to_E (T2 _ _) hx, mb_has, nb_lit, nI_add, nb_sub, pk_mul, nb_lt, nb_le, nb_eq, nb_and, nb_or, nb_xor, nb_shl, nb_shl2, Option.bind_some, Option.some.injEq, Prod.mk.injEq, nI_pos, if_true, if_false, ite_true, ite_false, not_true_eq_false, not_false_eq_true, and_true, true_and, and_self, or_self, b10_0, b10_1, b01_0, b01_1, b10_o, b01_o, or_true, true_or, or_false, false_or, and_false, false_and, eq_self, Nat.reduceEqDiff, b_em, b_me, ly_m, Nat.reduceLT, Nat.reduceLeDiff, Nat.reduceAdd, Nat.reduceMul, Nat.reduceSub, Bool.false_eq_true, Nat.not_lt_zero, hb_up_same, hb_up_ne, ne_eq, show 10 + (i + 1) - 1 = 10 + i by omega, Nat.add_sub_cancel, g1, g2]
        rw [if_neg (by omega)]
        have hV : ((if ¬ D.testBit x = true then some (nI (bE b x)) else some (nI 0)) : Option Int32) = some (nI (eD b D x)) := by
          unfold eD
          by_cases hd : D.testBit x = true <;> simp [hd]
        have hA : eD b D x &&& late b D i < 1024 := Nat.lt_of_le_of_lt Nat.and_le_left hE
        have hB : nb_dif (eD b D x) (2 ^ w) < 1024 := nb_dif_lt hE
        have hC : nb_dif (eD b D x) (2 ^ w) &&& rch b D w i < 1024 := Nat.lt_of_le_of_lt Nat.and_le_left hB
        rw [hV]
        simp (disch := omega) only [gr_text H, gr_told H, gr_draft H, gr_s H, gr_past H, gr_images H, gr_notes H, gr_levels H, gr_row H, gr_reach H, gr_gains H, gr_line H, gr_rows H, gr_next H, gr_held H, al_text, al_told, al_draft, al_s, al_past, al_images, al_notes, al_levels, al_row, al_reach, al_gains, al_line, al_rows, al_next, al_held, as_text, as_told, as_draft, as_s, as_past, as_images, as_notes, as_levels, as_row, as_reach, as_gains, as_line, as_rows, as_next, as_held, gi_typed, pi_typed, gi_known, pi_known, gi_kept, pi_kept, gi_noted, pi_noted, gi_at, pi_at, gd_m, mb_has, nb_andn2, g2, nb_lit, nI_add, nb_sub, pk_mul, nb_lt, nb_le, nb_eq, nb_and, nb_or, nb_xor, nb_shl, nb_shl2, Option.bind_some, Option.some.injEq, Prod.mk.injEq, nI_pos, if_true, if_false, ite_true, ite_false, not_true_eq_false, not_false_eq_true, and_true, true_and, and_self, or_self, b10_0, b10_1, b01_0, b01_1, b10_o, b01_o, or_true, true_or, or_false, false_or, and_false, false_and, eq_self, Nat.reduceEqDiff, b_em, b_me, ly_m, Nat.reduceLT, Nat.reduceLeDiff, Nat.reduceAdd, Nat.reduceMul, Nat.reduceSub, Bool.false_eq_true, Nat.not_lt_zero, hb_up_same, hb_up_ne, ne_eq]
        simp only [mk]
        by_cases c1 : eD b D x &&& late b D i = 0
        · have c2 : (eD b D x &&& late b D i).testBit w = false := by rw [c1]; simp
          by_cases c3 : nb_dif (eD b D x) (2 ^ w) &&& rch b D w i = 0
          · simp (disch := omega) only [c1, c3, gr_text H, gr_told H, gr_draft H, gr_s H, gr_past H, gr_images H, gr_notes H, gr_levels H, gr_row H, gr_reach H, gr_gains H, gr_line H, gr_rows H, gr_next H, gr_held H, al_text, al_told, al_draft, al_s, al_past, al_images, al_notes, al_levels, al_row, al_reach, al_gains, al_line, al_rows, al_next, al_held, as_text, as_told, as_draft, as_s, as_past, as_images, as_notes, as_levels, as_row, as_reach, as_gains, as_line, as_rows, as_next, as_held, gi_typed, pi_typed, gi_known, pi_known, gi_kept, pi_kept, gi_noted, pi_noted, gi_at, pi_at, gd_m, nb_lit, nI_add, nb_sub, pk_mul, nb_lt, nb_le, nb_eq, nb_and, nb_or, nb_xor, nb_shl, nb_shl2, Option.bind_some, Option.some.injEq, Prod.mk.injEq, nI_pos, if_true, if_false, ite_true, ite_false, not_true_eq_false, not_false_eq_true, and_true, true_and, and_self, or_self, b10_0, b10_1, b01_0, b01_1, b10_o, b01_o, or_true, true_or, or_false, false_or, and_false, false_and, eq_self, Nat.reduceEqDiff, b_em, b_me, ly_m, Nat.reduceLT, Nat.reduceLeDiff, Nat.reduceAdd, Nat.reduceMul, Nat.reduceSub, Bool.false_eq_true, Nat.not_lt_zero, hb_up_same, hb_up_ne, ne_eq, decide_false, Nat.or_zero, up_4, Nat.zero_testBit, Bool.or_self]
          · simp (disch := omega) only [c1, c3, gr_text H, gr_told H, gr_draft H, gr_s H, gr_past H, gr_images H, gr_notes H, gr_levels H, gr_row H, gr_reach H, gr_gains H, gr_line H, gr_rows H, gr_next H, gr_held H, al_text, al_told, al_draft, al_s, al_past, al_images, al_notes, al_levels, al_row, al_reach, al_gains, al_line, al_rows, al_next, al_held, as_text, as_told, as_draft, as_s, as_past, as_images, as_notes, as_levels, as_row, as_reach, as_gains, as_line, as_rows, as_next, as_held, gi_typed, pi_typed, gi_known, pi_known, gi_kept, pi_kept, gi_noted, pi_noted, gi_at, pi_at, gd_m, nb_lit, nI_add, nb_sub, pk_mul, nb_lt, nb_le, nb_eq, nb_and, nb_or, nb_xor, nb_shl, nb_shl2, Option.bind_some, Option.some.injEq, Prod.mk.injEq, nI_pos, if_true, if_false, ite_true, ite_false, not_true_eq_false, not_false_eq_true, and_true, true_and, and_self, or_self, b10_0, b10_1, b01_0, b01_1, b10_o, b01_o, or_true, true_or, or_false, false_or, and_false, false_and, eq_self, Nat.reduceEqDiff, b_em, b_me, ly_m, Nat.reduceLT, Nat.reduceLeDiff, Nat.reduceAdd, Nat.reduceMul, Nat.reduceSub, Bool.false_eq_true, Nat.not_lt_zero, hb_up_same, hb_up_ne, ne_eq, decide_false, decide_true, Nat.or_zero, up_4, Nat.zero_testBit, Bool.false_or]
        · by_cases c2 : (eD b D x &&& late b D i).testBit w = true
          · simp (disch := omega) only [c1, c2, gr_text H, gr_told H, gr_draft H, gr_s H, gr_past H, gr_images H, gr_notes H, gr_levels H, gr_row H, gr_reach H, gr_gains H, gr_line H, gr_rows H, gr_next H, gr_held H, al_text, al_told, al_draft, al_s, al_past, al_images, al_notes, al_levels, al_row, al_reach, al_gains, al_line, al_rows, al_next, al_held, as_text, as_told, as_draft, as_s, as_past, as_images, as_notes, as_levels, as_row, as_reach, as_gains, as_line, as_rows, as_next, as_held, gi_typed, pi_typed, gi_known, pi_known, gi_kept, pi_kept, gi_noted, pi_noted, gi_at, pi_at, gd_m, nb_lit, nI_add, nb_sub, pk_mul, nb_lt, nb_le, nb_eq, nb_and, nb_or, nb_xor, nb_shl, nb_shl2, Option.bind_some, Option.some.injEq, Prod.mk.injEq, nI_pos, if_true, if_false, ite_true, ite_false, not_true_eq_false, not_false_eq_true, and_true, true_and, and_self, or_self, b10_0, b10_1, b01_0, b01_1, b10_o, b01_o, or_true, true_or, or_false, false_or, and_false, false_and, eq_self, Nat.reduceEqDiff, b_em, b_me, ly_m, Nat.reduceLT, Nat.reduceLeDiff, Nat.reduceAdd, Nat.reduceMul, Nat.reduceSub, Bool.false_eq_true, Nat.not_lt_zero, hb_up_same, hb_up_ne, ne_eq, decide_true, Nat.or_zero, up_4, Bool.true_or]
          · by_cases c3 : nb_dif (eD b D x) (2 ^ w) &&& rch b D w i = 0
            · simp (disch := omega) only [c1, c2, c3, gr_text H, gr_told H, gr_draft H, gr_s H, gr_past H, gr_images H, gr_notes H, gr_levels H, gr_row H, gr_reach H, gr_gains H, gr_line H, gr_rows H, gr_next H, gr_held H, al_text, al_told, al_draft, al_s, al_past, al_images, al_notes, al_levels, al_row, al_reach, al_gains, al_line, al_rows, al_next, al_held, as_text, as_told, as_draft, as_s, as_past, as_images, as_notes, as_levels, as_row, as_reach, as_gains, as_line, as_rows, as_next, as_held, gi_typed, pi_typed, gi_known, pi_known, gi_kept, pi_kept, gi_noted, pi_noted, gi_at, pi_at, gd_m, nb_lit, nI_add, nb_sub, pk_mul, nb_lt, nb_le, nb_eq, nb_and, nb_or, nb_xor, nb_shl, nb_shl2, Option.bind_some, Option.some.injEq, Prod.mk.injEq, nI_pos, if_true, if_false, ite_true, ite_false, not_true_eq_false, not_false_eq_true, and_true, true_and, and_self, or_self, b10_0, b10_1, b01_0, b01_1, b10_o, b01_o, or_true, true_or, or_false, false_or, and_false, false_and, eq_self, Nat.reduceEqDiff, b_em, b_me, ly_m, Nat.reduceLT, Nat.reduceLeDiff, Nat.reduceAdd, Nat.reduceMul, Nat.reduceSub, Bool.false_eq_true, Nat.not_lt_zero, hb_up_same, hb_up_ne, ne_eq, decide_false, decide_true, Nat.or_zero, up_4, Bool.false_or, Bool.or_false]
            · simp (disch := omega) only [c1, c2, c3, gr_text H, gr_told H, gr_draft H, gr_s H, gr_past H, gr_images H, gr_notes H, gr_levels H, gr_row H, gr_reach H, gr_gains H, gr_line H, gr_rows H, gr_next H, gr_held H, al_text, al_told, al_draft, al_s, al_past, al_images, al_notes, al_levels, al_row, al_reach, al_gains, al_line, al_rows, al_next, al_held, as_text, as_told, as_draft, as_s, as_past, as_images, as_notes, as_levels, as_row, as_reach, as_gains, as_line, as_rows, as_next, as_held, gi_typed, pi_typed, gi_known, pi_known, gi_kept, pi_kept, gi_noted, pi_noted, gi_at, pi_at, gd_m, nb_lit, nI_add, nb_sub, pk_mul, nb_lt, nb_le, nb_eq, nb_and, nb_or, nb_xor, nb_shl, nb_shl2, Option.bind_some, Option.some.injEq, Prod.mk.injEq, nI_pos, if_true, if_false, ite_true, ite_false, not_true_eq_false, not_false_eq_true, and_true, true_and, and_self, or_self, b10_0, b10_1, b01_0, b01_1, b10_o, b01_o, or_true, true_or, or_false, false_or, and_false, false_and, eq_self, Nat.reduceEqDiff, b_em, b_me, ly_m, Nat.reduceLT, Nat.reduceLeDiff, Nat.reduceAdd, Nat.reduceMul, Nat.reduceSub, Bool.false_eq_true, Nat.not_lt_zero, hb_up_same, hb_up_ne, ne_eq, decide_true, Nat.or_zero, up_4, Bool.or_true]
      · have e1 : ∀ u v : Int32, (mx_up (mx_up m1 124 (10 + (i + 1)) u) 124 (i + 1) v) 116 = m1 116 := by
          intro u v; funext j; simp (disch := omega) only [hb_up_same, hb_up_ne, ne_eq]
        have T2 : ∀ u v : Int32, TO ((mx_up (mx_up m1 124 (10 + (i + 1)) u) 124 (i + 1) v) 116) b := by intro u v; rw [e1]; exact T1
        unfold f_X12_reckons_L46
        simp (disch := omega) only [gr_text H, gr_told H, gr_draft H, gr_s H, gr_past H, gr_images H, gr_notes H, gr_levels H, gr_row H, gr_reach H, gr_gains H, gr_line H, gr_rows H, gr_next H, gr_held H, al_text, al_told, al_draft, al_s, al_past, al_images, al_notes, al_levels, al_row, al_reach, al_gains, al_line, al_rows, al_next, al_held, as_text, as_told, as_draft, as_s, as_past, as_images, as_notes, as_levels, as_row, as_reach, as_gains, as_line, as_rows, as_next, as_held, gi_typed, pi_typed, gi_known, pi_known, gi_kept, pi_kept, gi_noted, pi_noted, gi_at, pi_at, gd_m, to_N (T2 _ _), nb_lit, nI_add, nb_sub, pk_mul, nb_lt, nb_le, nb_eq, nb_and, nb_or, nb_xor, nb_shl, nb_shl2, Option.bind_some, Option.some.injEq, Prod.mk.injEq, nI_pos, if_true, if_false, ite_true, ite_false, not_true_eq_false, not_false_eq_true, and_true, true_and, and_self, or_self, b10_0, b10_1, b01_0, b01_1, b10_o, b01_o, or_true, true_or, or_false, false_or, and_false, false_and, eq_self, Nat.reduceEqDiff, b_em, b_me, ly_m, Nat.reduceLT, Nat.reduceLeDiff, Nat.reduceAdd, Nat.reduceMul, Nat.reduceSub, Bool.false_eq_true, Nat.not_lt_zero]
        rw [if_pos (by omega)]
        rfl
  · rintro q ⟨m1, rfl, h1, h2⟩ self
    unfold f_X12_reckons_L20
    simp (disch := omega) only [gr_text H, gr_told H, gr_draft H, gr_s H, gr_past H, gr_images H, gr_notes H, gr_levels H, gr_row H, gr_reach H, gr_gains H, gr_line H, gr_rows H, gr_next H, gr_held H, al_text, al_told, al_draft, al_s, al_past, al_images, al_notes, al_levels, al_row, al_reach, al_gains, al_line, al_rows, al_next, al_held, as_text, as_told, as_draft, as_s, as_past, as_images, as_notes, as_levels, as_row, as_reach, as_gains, as_line, as_rows, as_next, as_held, gi_typed, pi_typed, gi_known, pi_known, gi_kept, pi_kept, gi_noted, pi_noted, gi_at, pi_at, gd_m, nb_lit, nI_add, nb_sub, pk_mul, nb_lt, nb_le, nb_eq, nb_and, nb_or, nb_xor, nb_shl, nb_shl2, Option.bind_some, Option.some.injEq, Prod.mk.injEq, nI_pos, if_true, if_false, ite_true, ite_false, not_true_eq_false, not_false_eq_true, and_true, true_and, and_self, or_self, b10_0, b10_1, b01_0, b01_1, b10_o, b01_o, or_true, true_or, or_false, false_or, and_false, false_and, eq_self, Nat.reduceEqDiff, b_em, b_me, ly_m, Nat.reduceLT, Nat.reduceLeDiff, Nat.reduceAdd, Nat.reduceMul, Nat.reduceSub, Bool.false_eq_true, Nat.not_lt_zero, Nat.le_refl]
    exact ⟨m1, rfl, h1, h2⟩
  · refine ⟨_, rfl, fun k hk => ?_, fun a ha => ?_⟩
    · have : k = 0 := by omega
      subst this
      simp (disch := omega) only [hb_up_same, hb_up_ne, ne_eq, Nat.add_zero]
      exact ⟨rfl, rfl⟩
    · funext j
      simp (disch := omega) only [hb_up_same, hb_up_ne, ne_eq]
theorem m_low {S n : Nat} {h : mx_Hp} (hS : S < 2 ^ n) (hn : n ≤ 10) (h0 : fst (fun x => S.testBit x) n < n) : f_X12_lowest (nI S) h = some (nI (fst (fun x => S.testBit x) n)) := by
  obtain ⟨h1, h2⟩ := fst_spec (fun x => S.testBit x) n
  have h3 : S.testBit (fst (fun x => S.testBit x) n) = true := by
    rcases h1 with h1 | h1
    · omega
    · exact h1.2
  have hS2 := lt1024 hS hn
  unfold f_X12_lowest
  refine fix_up (fun i => nI i) (fst (fun x => S.testBit x) n) (fun i hi self => ?_) (fun self => ?_) (by omega)
  · have h4 := (h2 i hi).2
    unfold f_X12_lowest_L2
    simp (disch := omega) only [mb_has, h4, nb_lit, nI_add, nb_sub, pk_mul, nb_lt, nb_le, nb_eq, nb_and, nb_or, nb_xor, nb_shl, nb_shl2, Option.bind_some, Option.some.injEq, Prod.mk.injEq, nI_pos, if_true, if_false, ite_true, ite_false, not_true_eq_false, not_false_eq_true, and_true, true_and, and_self, or_self, b10_0, b10_1, b01_0, b01_1, b10_o, b01_o, or_true, true_or, or_false, false_or, and_false, false_and, eq_self, Nat.reduceEqDiff, b_em, b_me, ly_m, Nat.reduceLT, Nat.reduceLeDiff, Nat.reduceAdd, Nat.reduceMul, Nat.reduceSub, Bool.false_eq_true, Nat.not_lt_zero]
  · unfold f_X12_lowest_L2
    simp (disch := omega) only [mb_has, h3, nb_lit, nI_add, nb_sub, pk_mul, nb_lt, nb_le, nb_eq, nb_and, nb_or, nb_xor, nb_shl, nb_shl2, Option.bind_some, Option.some.injEq, Prod.mk.injEq, nI_pos, if_true, if_false, ite_true, ite_false, not_true_eq_false, not_false_eq_true, and_true, true_and, and_self, or_self, b10_0, b10_1, b01_0, b01_1, b10_o, b01_o, or_true, true_or, or_false, false_or, and_false, false_and, eq_self, Nat.reduceEqDiff, b_em, b_me, ly_m, Nat.reduceLT, Nat.reduceLeDiff, Nat.reduceAdd, Nat.reduceMul, Nat.reduceSub, Bool.false_eq_true, Nat.not_lt_zero]
end M7
