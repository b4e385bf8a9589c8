/-! councils: the reference -/
def drawN (z t : Nat) : Nat := (7919 * z + 6151 * t + 1) * (7919 * z + 6151 * t + 1) % 65521 / 2
def tailS (b : Bo) (s : St) (w : Nat) : St := if fitsW b s w = true ∧ sN s < 12 then saidS s w else if sN s = 0 then s else dropS s
def turnS (b : Bo) (s : St) (d : Nat) : St := if d / 64 % 3 = 0 ∧ 0 < finNow b s then passS b s else if d / 64 % 3 = 1 ∧ mayEnd b s = true then decS s (sC s) (sumW b (sW s) (sN s)) else tailS b s (d % bN b)
def couS (b : Bo) (s : St) (z : Nat) : Nat → St
  | 0 => s
  | k + 1 => turnS b (couS b s z k) (drawN z k)
def v_coun (A : Ab) (z n y : Int32) : Int32 := if (z < 0 ∨ 9999 < z) ∨ (n < 1 ∨ 60 < n) ∨ (y < 0 ∨ 2 < y) then -1 else
  if y = 0 then nI (sC (couS (aB A) (aS A) z.toNatClampNeg n.toNatClampNeg)) else if y = 1 then sD (couS (aB A) (aS A) z.toNatClampNeg n.toNatClampNeg) 0 + sD (couS (aB A) (aS A) z.toNatClampNeg n.toNatClampNeg) 1 else 500 + sG (couS (aB A) (aS A) z.toNatClampNeg n.toNatClampNeg) 0 - sG (couS (aB A) (aS A) z.toNatClampNeg n.toNatClampNeg) 1
theorem drawN_lt (z t : Nat) : drawN z t < 32768 := by
  unfold drawN
  omega
section M15
variable {m : Nat → Nat → Int32} {r : Nat → Nat → Option Nat} {b : Bo} {s : St} {A : Ab}
theorem wf_tail (F : WFs (bN b) s) {w : Nat} (hw : w < bN b) : WFs (bN b) (tailS b s w) := by
  unfold tailS
  split
  · rename_i h; exact wf_said F h.2 hw
  · split
    · exact F
    · exact wf_drop F
theorem wf_turn (B : WFb b) (F : WFs (bN b) s) {d : Nat} : WFs (bN b) (turnS b s d) := by
  unfold turnS
  split
  · exact wf_pass F
  · split
    · exact wf_dec F
    · exact wf_tail F (Nat.mod_lt _ (by have := B.1; omega))
theorem wf_cou (B : WFb b) (F : WFs (bN b) s) {z : Nat} : ∀ k, WFs (bN b) (couS b s z k) := by
  intro k
  induction k with
  | zero => exact F
  | succ k ih => exact wf_turn B ih
theorem bnd {α β : Type} {x : Option α} {v : α} {f : α → Option β} (h : x = some v) : x.bind f = f v := by rw [h]; rfl
theorem bnd_id {α : Type} (x : Option α) : (x.bind fun v => some v) = x := by cases x <;> rfl
/-- a word said, or all dropped -/
def tailX (h : mx_Hp) (w : Int32) : Option mx_Hp :=
  (f_X12_maySay 114 w h).bind fun x8 =>
  if x8 = 0 then
  (mx_gr h 114 12 4).bind fun x11 =>
  (mx_al h x11 12).bind fun x12 =>
  if x12 ≤ 0 then
  some h
  else
  if 114 < h.1 ∧ (mx_lay 114).1 = 15 then
  ((f_X12_drops 114 h).bind fun x14 =>
  some x14)
  else none
  else
  (mx_gr h 114 12 4).bind fun x16 =>
  (mx_al h x16 12).bind fun x17 =>
  if 12 ≤ x17 then
  (mx_gr h 114 12 4).bind fun x19 =>
  (mx_al h x19 12).bind fun x20 =>
  if x20 ≤ 0 then
  some h
  else
  if 114 < h.1 ∧ (mx_lay 114).1 = 15 then
  ((f_X12_drops 114 h).bind fun x22 =>
  some x22)
  else none
  else
  if 114 < h.1 ∧ (mx_lay 114).1 = 15 then
  ((f_X12_says 114 w h).bind fun x24 =>
  some x24)
  else none
theorem m_tail (H : MR r) (T : TO (m 116) b) (B : WFb b) (S : SM (m 118) 0 s) (F : WFs (bN b) s) {w : Nat} (hw : w < bN b) : ∃ m', tailX (130, m, r) (nI w) = some (130, m', r) ∧ SM (m' 118) 0 (tailS b s w) ∧ ∀ a, a ≠ 118 → a ≠ 122 → a ≠ 123 → m' a = m a := by
  have hn := wf_N B
  have hs := wf_s F
  unfold tailX
  rw [bnd (m_maySay H T B S F hw)]
  unfold tailS
  by_cases h0 : sN s = 0
  · by_cases hf : fitsW b s w = true
    · obtain ⟨m1, e1, e2, e3⟩ := m_says (w := w) H S (by omega)
      refine ⟨m1, ?_, ?_, fun a ha _ _ => e3 a ha⟩
      · simp (disch := omega) only [hf, h0, e1, gr_text H, gr_told H, gr_draft H, gr_s H, gr_past H, gr_images H, gr_notes H, gr_levels H, gr_row H, gr_reach H, gr_gains H, gr_line H, gr_rows H, gr_next H, gr_held H, al_text, al_told, al_draft, al_s, al_past, al_images, al_notes, al_levels, al_row, al_reach, al_gains, al_line, al_rows, al_next, al_held, as_text, as_told, as_draft, as_s, as_past, as_images, as_notes, as_levels, as_row, as_reach, as_gains, as_line, as_rows, as_next, as_held, gi_typed, pi_typed, gi_known, pi_known, gi_kept, pi_kept, gi_noted, pi_noted, gi_at, pi_at, gd_m, sm_N S, nb_lit, nI_add, nb_sub, pk_mul, nb_lt, nb_le, nb_eq, nb_and, nb_or, nb_xor, nb_shl, nb_shl2, Option.bind_some, Option.some.injEq, Prod.mk.injEq, nI_pos, if_true, if_false, ite_true, ite_false, not_true_eq_false, not_false_eq_true, and_true, true_and, and_self, or_self, b10_0, b10_1, b01_0, b01_1, b10_o, b01_o, or_true, true_or, or_false, false_or, and_false, false_and, eq_self, Nat.reduceEqDiff, b_em, b_me, ly_m, Nat.reduceLT, Nat.reduceLeDiff, Nat.reduceAdd, Nat.reduceMul, Nat.reduceSub, Bool.false_eq_true, Nat.not_lt_zero]
      · rw [if_pos ⟨hf, by omega⟩]; exact e2
    · refine ⟨m, ?_, ?_, fun a _ _ _ => rfl⟩
      · simp (disch := omega) only [hf, h0, gr_text H, gr_told H, gr_draft H, gr_s H, gr_past H, gr_images H, gr_notes H, gr_levels H, gr_row H, gr_reach H, gr_gains H, gr_line H, gr_rows H, gr_next H, gr_held H, al_text, al_told, al_draft, al_s, al_past, al_images, al_notes, al_levels, al_row, al_reach, al_gains, al_line, al_rows, al_next, al_held, as_text, as_told, as_draft, as_s, as_past, as_images, as_notes, as_levels, as_row, as_reach, as_gains, as_line, as_rows, as_next, as_held, gi_typed, pi_typed, gi_known, pi_known, gi_kept, pi_kept, gi_noted, pi_noted, gi_at, pi_at, gd_m, sm_N S, nb_lit, nI_add, nb_sub, pk_mul, nb_lt, nb_le, nb_eq, nb_and, nb_or, nb_xor, nb_shl, nb_shl2, Option.bind_some, Option.some.injEq, Prod.mk.injEq, nI_pos, if_true, if_false, ite_true, ite_false, not_true_eq_false, not_false_eq_true, and_true, true_and, and_self, or_self, b10_0, b10_1, b01_0, b01_1, b10_o, b01_o, or_true, true_or, or_false, false_or, and_false, false_and, eq_self, Nat.reduceEqDiff, b_em, b_me, ly_m, Nat.reduceLT, Nat.reduceLeDiff, Nat.reduceAdd, Nat.reduceMul, Nat.reduceSub, Bool.false_eq_true, Nat.not_lt_zero, Nat.le_refl]
      · rw [if_neg (fun q => hf q.1), if_pos h0]; exact S
  · obtain ⟨m2, d1, d2, d3⟩ := m_drops H S
    have hz : (sN s ≤ 0) = False := eq_false (by omega)
    by_cases hf : fitsW b s w = true
    · by_cases h12 : sN s < 12
      · obtain ⟨m1, e1, e2, e3⟩ := m_says (w := w) H S (by omega)
        refine ⟨m1, ?_, ?_, fun a ha _ _ => e3 a ha⟩
        · simp (disch := omega) only [hf, e1, gr_text H, gr_told H, gr_draft H, gr_s H, gr_past H, gr_images H, gr_notes H, gr_levels H, gr_row H, gr_reach H, gr_gains H, gr_line H, gr_rows H, gr_next H, gr_held H, al_text, al_told, al_draft, al_s, al_past, al_images, al_notes, al_levels, al_row, al_reach, al_gains, al_line, al_rows, al_next, al_held, as_text, as_told, as_draft, as_s, as_past, as_images, as_notes, as_levels, as_row, as_reach, as_gains, as_line, as_rows, as_next, as_held, gi_typed, pi_typed, gi_known, pi_known, gi_kept, pi_kept, gi_noted, pi_noted, gi_at, pi_at, gd_m, sm_N S, nb_lit, nI_add, nb_sub, pk_mul, nb_lt, nb_le, nb_eq, nb_and, nb_or, nb_xor, nb_shl, nb_shl2, Option.bind_some, Option.some.injEq, Prod.mk.injEq, nI_pos, if_true, if_false, ite_true, ite_false, not_true_eq_false, not_false_eq_true, and_true, true_and, and_self, or_self, b10_0, b10_1, b01_0, b01_1, b10_o, b01_o, or_true, true_or, or_false, false_or, and_false, false_and, eq_self, Nat.reduceEqDiff, b_em, b_me, ly_m, Nat.reduceLT, Nat.reduceLeDiff, Nat.reduceAdd, Nat.reduceMul, Nat.reduceSub, Bool.false_eq_true, Nat.not_lt_zero, show (12 ≤ sN s) = False from eq_false (by omega)]
        · rw [if_pos ⟨hf, h12⟩]; exact e2
      · refine ⟨m2, ?_, ?_, fun a ha _ _ => d3 a ha⟩
        · simp (disch := omega) only [hf, d1, hz, gr_text H, gr_told H, gr_draft H, gr_s H, gr_past H, gr_images H, gr_notes H, gr_levels H, gr_row H, gr_reach H, gr_gains H, gr_line H, gr_rows H, gr_next H, gr_held H, al_text, al_told, al_draft, al_s, al_past, al_images, al_notes, al_levels, al_row, al_reach, al_gains, al_line, al_rows, al_next, al_held, as_text, as_told, as_draft, as_s, as_past, as_images, as_notes, as_levels, as_row, as_reach, as_gains, as_line, as_rows, as_next, as_held, gi_typed, pi_typed, gi_known, pi_known, gi_kept, pi_kept, gi_noted, pi_noted, gi_at, pi_at, gd_m, sm_N S, nb_lit, nI_add, nb_sub, pk_mul, nb_lt, nb_le, nb_eq, nb_and, nb_or, nb_xor, nb_shl, nb_shl2, Option.bind_some, Option.some.injEq, Prod.mk.injEq, nI_pos, if_true, if_false, ite_true, ite_false, not_true_eq_false, not_false_eq_true, and_true, true_and, and_self, or_self, b10_0, b10_1, b01_0, b01_1, b10_o, b01_o, or_true, true_or, or_false, false_or, and_false, false_and, eq_self, Nat.reduceEqDiff, b_em, b_me, ly_m, Nat.reduceLT, Nat.reduceLeDiff, Nat.reduceAdd, Nat.reduceMul, Nat.reduceSub, Bool.false_eq_true, Nat.not_lt_zero, show (12 ≤ sN s) = True from eq_true (by omega)]
        · rw [if_neg (fun q => h12 q.2), if_neg h0]; exact d2
    · refine ⟨m2, ?_, ?_, fun a ha _ _ => d3 a ha⟩
      · simp (disch := omega) only [hf, d1, hz, gr_text H, gr_told H, gr_draft H, gr_s H, gr_past H, gr_images H, gr_notes H, gr_levels H, gr_row H, gr_reach H, gr_gains H, gr_line H, gr_rows H, gr_next H, gr_held H, al_text, al_told, al_draft, al_s, al_past, al_images, al_notes, al_levels, al_row, al_reach, al_gains, al_line, al_rows, al_next, al_held, as_text, as_told, as_draft, as_s, as_past, as_images, as_notes, as_levels, as_row, as_reach, as_gains, as_line, as_rows, as_next, as_held, gi_typed, pi_typed, gi_known, pi_known, gi_kept, pi_kept, gi_noted, pi_noted, gi_at, pi_at, gd_m, sm_N S, nb_lit, nI_add, nb_sub, pk_mul, nb_lt, nb_le, nb_eq, nb_and, nb_or, nb_xor, nb_shl, nb_shl2, Option.bind_some, Option.some.injEq, Prod.mk.injEq, nI_pos, if_true, if_false, ite_true, ite_false, not_true_eq_false, not_false_eq_true, and_true, true_and, and_self, or_self, b10_0, b10_1, b01_0, b01_1, b10_o, b01_o, or_true, true_or, or_false, false_or, and_false, false_and, eq_self, Nat.reduceEqDiff, b_em, b_me, ly_m, Nat.reduceLT, Nat.reduceLeDiff, Nat.reduceAdd, Nat.reduceMul, Nat.reduceSub, Bool.false_eq_true, Nat.not_lt_zero]
      · rw [if_neg (fun q => hf q.1), if_neg h0]; exact d2
theorem m_turn (H : MR r) (T : TO (m 116) b) (B : WFb b) (S : SM (m 118) 0 s) (F : WFs (bN b) s) {d : Nat} (hd : d < 2 ^ 30) : ∃ m', f_X12_turn 114 (nI d) (130, m, r) = some (130, m', r) ∧ SM (m' 118) 0 (turnS b s d) ∧ ∀ a, a ≠ 118 → a ≠ 122 → a ≠ 123 → m' a = m a := by
  have hn := wf_N B
  have hs := wf_s F
  have hc := wf_c F
  have hfl := finNow_le (s := s) B
  have hw : d % bN b < bN b := Nat.mod_lt _ (by omega)
  have hmd : nI d - nI d / nI (bN b) * nI (bN b) = nI (d % bN b) := pk_rem (by omega) (by omega) (by omega)
  have hhow : nI d / 64 - nI d / 64 / 3 * 3 = nI (d / 64 % 3) := by
    have : nI d / nI 64 - nI d / nI 64 / nI 3 * nI 3 = nI (d / 64 % 3) := by
      rw [pk_div (by omega) (by decide) (by decide)]
      exact pk_rem (by omega) (by decide) (by decide)
    exact this
  have hh : d / 64 % 3 = 0 ∨ d / 64 % 3 = 1 ∨ d / 64 % 3 = 2 := by omega
  have e0 : mx_al (130, m, r) 116 0 = some (nI (bN b)) := by
    rw [show (0 : Int32) = nI 0 from rfl, al_told (by decide), to_N T]
  have n0 : ¬ nI (bN b) = 0 := nI_ne0 (by omega) (by omega)
  have gd : ∀ m' : Nat → Nat → Int32, 114 < ((130, m', r) : mx_Hp).1 ∧ (mx_lay 114).1 = 15 := fun m' => ⟨by show 114 < 130; decide, ly_m⟩
  unfold f_X12_turn turnS
  rw [bnd (gr_told H), bnd e0, if_neg n0, if_neg (by decide), if_neg (by decide), bnd_id, hhow, hmd]
  generalize d / 64 % 3 = how at *
  generalize d % bN b = w at *
  obtain ⟨m1, t1, t2, t3⟩ := m_tail H T B S F hw
  rcases hh with rfl | rfl | rfl
  · obtain ⟨m2, e1, e2, e3⟩ := m_fnow H T B S F
    have T2 : TO (m2 116) b := by rw [e3 116 (by decide) (by decide)]; exact T
    have S2 : SM (m2 118) 0 s := by rw [e3 118 (by decide) (by decide)]; exact S
    rw [if_neg (show ¬ ¬ nI 0 = 0 by decide), if_pos (gd m), bnd e1]
    by_cases hf : 0 < finNow b s
    · obtain ⟨m3, j1, j2, j3⟩ := m_ends H T2 B S2 F
      refine ⟨m3, ?_, ?_, fun a h1 h2 h3 => by rw [j3 a h1 h2 h3, e3 a h2 h3]⟩
      · rw [if_neg (show ¬ nI (finNow b s) ≤ 0 from nI_nle hf (by omega)), if_pos (gd m2), bnd j1]
      · rw [if_pos ⟨rfl, hf⟩]; exact j2
    · obtain ⟨m3, j1, j2, j3⟩ := m_tail H T2 B S2 F hw
      refine ⟨m3, ?_, ?_, fun a h1 h2 h3 => by rw [j3 a h1 h2 h3, e3 a h2 h3]⟩
      · rw [if_pos (show nI (finNow b s) ≤ 0 by rw [show finNow b s = 0 by omega]; decide), if_pos (show ¬ nI 0 = 1 by decide), if_pos (gd m2)]
        exact j1
      · rw [if_neg (fun q => hf q.2), if_neg (fun q => absurd q.1 (by decide))]; exact j2
  · rw [if_pos (show ¬ nI 1 = 0 by decide), if_neg (show ¬ ¬ nI 1 = 1 by decide), if_pos (gd m), bnd (m_mayEnd H T B S F)]
    by_cases hf : mayEnd b s = true
    · obtain ⟨m3, j1, j2, j3⟩ := m_decrees (i := sC s) (v := sumW b (sW s) (sN s)) H S hs hc
      have e13 : mx_al (130, m, r) 118 13 = some (nI (sC s)) := by
        rw [show (13 : Int32) = nI 13 from rfl, al_s (by decide), sm_C S]
      refine ⟨m3, ?_, ?_, fun a h1 h2 h3 => j3 a h1⟩
      · rw [if_pos hf, if_neg (show ¬ (1 : Int32) = 0 by decide), bnd (gr_s H), bnd e13, if_pos (gd m), bnd (m_worth H T B S F), if_pos (gd m), bnd j1]
      · rw [if_neg (fun q => absurd q.1 (by decide)), if_pos ⟨rfl, hf⟩]; exact j2
    · refine ⟨m1, ?_, ?_, t3⟩
      · rw [if_neg hf, if_pos (show (0 : Int32) = 0 from rfl), if_pos (gd m)]
        exact t1
      · rw [if_neg (fun q => absurd q.1 (by decide)), if_neg (fun q => hf q.2)]; exact t2
  · rw [if_pos (show ¬ nI 2 = 0 by decide), if_pos (show ¬ nI 2 = 1 by decide), if_pos (gd m)]
    refine ⟨m1, t1, ?_, t3⟩
    rw [if_neg (fun q => absurd q.1 (by decide)), if_neg (fun q => absurd q.1 (by decide))]; exact t2
theorem m_draw {z t : Nat} (hz : z ≤ 9999) (ht : t < 60) : (((((nI 7919).toInt64 * (nI z).toInt64 + (nI 6151).toInt64 * (nI t).toInt64 + (nI 1).toInt64) * ((nI 7919).toInt64 * (nI z).toInt64 + (nI 6151).toInt64 * (nI t).toInt64 + (nI 1).toInt64)) - ((nI 7919).toInt64 * (nI z).toInt64 + (nI 6151).toInt64 * (nI t).toInt64 + (nI 1).toInt64) * ((nI 7919).toInt64 * (nI z).toInt64 + (nI 6151).toInt64 * (nI t).toInt64 + (nI 1).toInt64) / (nI 65521).toInt64 * (nI 65521).toInt64)).toInt32 / nI 2 = nI (drawN z t) := by
  rw [nI_l (show 7919 < 2 ^ 31 by decide), nI_l (show z < 2 ^ 31 by omega), nI_l (show 6151 < 2 ^ 31 by decide), nI_l (show t < 2 ^ 31 by omega), nI_l (show 1 < 2 ^ 31 by decide), nI_l (show 65521 < 2 ^ 31 by decide)]
  simp only [lN_mul, lN_add]
  have hx : 7919 * z + 6151 * t + 1 ≤ 80000000 := by omega
  have hxx : (7919 * z + 6151 * t + 1) * (7919 * z + 6151 * t + 1) ≤ 80000000 * 80000000 := Nat.mul_le_mul hx hx
  have h63 : (80000000 : Nat) * 80000000 < 2 ^ 63 := by decide
  have := pk_lRem (a := (7919 * z + 6151 * t + 1) * (7919 * z + 6151 * t + 1)) (b := 65521) (by omega) (by decide) (by decide)
  rw [this, lN_i, pk_div (by omega) (by decide) (by decide)]
  rfl
theorem mc_coun (H : MR r) (R : RelM m A) (W : WFa A) (x n y : Int32) : MOk (f_X12_council 114 x n y (130, m, r)) m r (v_coun A x n y) A := by
  obtain ⟨r1, T, S, r4, r5, r6⟩ := id R
  have B := W.2.1
  have F := W.2.2.1
  unfold f_X12_council v_coun
  rw [mb_in, mb_in, mb_in]
  by_cases hx : x < 0 ∨ 9999 < x
  · rw [if_pos (Or.inl hx), if_pos hx]
    refine MOk.mk0 R ?_
    simp (disch := omega) only [nb_lit, nI_add, nb_sub, pk_mul, nb_lt, nb_le, nb_eq, nb_and, nb_or, nb_xor, nb_shl, nb_shl2, Option.bind_some, Option.some.injEq, Prod.mk.injEq, nI_pos, if_true, if_false, ite_true, ite_false, not_true_eq_false, not_false_eq_true, and_true, true_and, and_self, or_self, b10_0, b10_1, b01_0, b01_1, b10_o, b01_o, or_true, true_or, or_false, false_or, and_false, false_and, eq_self, Nat.reduceEqDiff, b_em, b_me, ly_m, Nat.reduceLT, Nat.reduceLeDiff, Nat.reduceAdd, Nat.reduceMul, Nat.reduceSub, Bool.false_eq_true, Nat.not_lt_zero]
  · by_cases hn : n < 1 ∨ 60 < n
    · rw [if_pos (Or.inr (Or.inl hn)), if_neg hx, if_pos hn]
      refine MOk.mk0 R ?_
      simp (disch := omega) only [nb_lit, nI_add, nb_sub, pk_mul, nb_lt, nb_le, nb_eq, nb_and, nb_or, nb_xor, nb_shl, nb_shl2, Option.bind_some, Option.some.injEq, Prod.mk.injEq, nI_pos, if_true, if_false, ite_true, ite_false, not_true_eq_false, not_false_eq_true, and_true, true_and, and_self, or_self, b10_0, b10_1, b01_0, b01_1, b10_o, b01_o, or_true, true_or, or_false, false_or, and_false, false_and, eq_self, Nat.reduceEqDiff, b_em, b_me, ly_m, Nat.reduceLT, Nat.reduceLeDiff, Nat.reduceAdd, Nat.reduceMul, Nat.reduceSub, Bool.false_eq_true, Nat.not_lt_zero]
    · by_cases hy : y < 0 ∨ 2 < y
      · rw [if_pos (Or.inr (Or.inr hy)), if_neg hx, if_neg hn, if_pos hy]
        refine MOk.mk0 R ?_
        simp (disch := omega) only [nb_lit, nI_add, nb_sub, pk_mul, nb_lt, nb_le, nb_eq, nb_and, nb_or, nb_xor, nb_shl, nb_shl2, Option.bind_some, Option.some.injEq, Prod.mk.injEq, nI_pos, if_true, if_false, ite_true, ite_false, not_true_eq_false, not_false_eq_true, and_true, true_and, and_self, or_self, b10_0, b10_1, b01_0, b01_1, b10_o, b01_o, or_true, true_or, or_false, false_or, and_false, false_and, eq_self, Nat.reduceEqDiff, b_em, b_me, ly_m, Nat.reduceLT, Nat.reduceLeDiff, Nat.reduceAdd, Nat.reduceMul, Nat.reduceSub, Bool.false_eq_true, Nat.not_lt_zero]
      · rw [if_neg (not_or.mpr ⟨hx, not_or.mpr ⟨hn, hy⟩⟩), if_neg hx, if_neg hn, if_neg hy]
        obtain ⟨z, hz, rfl, ez⟩ : ∃ z, z ≤ 9999 ∧ x = nI z ∧ x.toNatClampNeg = z := by
          rcases nb_three x 10000 (by decide) with q | q | ⟨j, hj, rfl⟩
          · exact absurd (Or.inl q) hx
          · exact absurd (Or.inr (Int32.lt_of_lt_of_le (show (9999 : Int32) < nI 10000 by decide) q)) hx
          · exact ⟨j, by omega, rfl, nb_cl (by omega)⟩
        obtain ⟨c, hc60, rfl, ec⟩ : ∃ c, c ≤ 60 ∧ n = nI c ∧ n.toNatClampNeg = c := by
          rcases nb_three n 61 (by decide) with q | q | ⟨j, hj, rfl⟩
          · exact absurd (Or.inl (Int32.lt_trans q (by decide))) hn
          · exact absurd (Or.inr (Int32.lt_of_lt_of_le (show (60 : Int32) < nI 61 by decide) q)) hn
          · exact ⟨j, by omega, rfl, nb_cl (by omega)⟩
        rw [ez, ec]
        simp (disch := omega) only [nb_lit, nI_add, nb_sub, pk_mul, nb_lt, nb_le, nb_eq, nb_and, nb_or, nb_xor, nb_shl, nb_shl2, Option.bind_some, Option.some.injEq, Prod.mk.injEq, nI_pos, if_true, if_false, ite_true, ite_false, not_true_eq_false, not_false_eq_true, and_true, true_and, and_self, or_self, b10_0, b10_1, b01_0, b01_1, b10_o, b01_o, or_true, true_or, or_false, false_or, and_false, false_and, eq_self, Nat.reduceEqDiff, b_em, b_me, ly_m, Nat.reduceLT, Nat.reduceLeDiff, Nat.reduceAdd, Nat.reduceMul, Nat.reduceSub, Bool.false_eq_true, Nat.not_lt_zero]
        generalize hbe : aB A = b at *
        generalize hse : aS A = s at *
        -- what was is held
        have k35 : ∀ K : Int32 × mx_Hp → Option (Int32 × mx_Hp), mx_fix (f_X12_council_L35 114 (nI z) (nI c) y K) 2000 (nI 0, (130, m, r)) = K (nI 22, (130, cpy m 129 0 (m 118) 22, r)) := by
          intro K
          have := fix_up (F := f_X12_council_L35 114 (nI z) (nI c) y K) (fun i => (nI i, (130, cpy m 129 0 (m 118) i, r))) 22 (y := K (nI 22, (130, cpy m 129 0 (m 118) 22, r))) (fun i hi self => ?_) (fun self => ?_) (fuel := 2000) (by omega)
          · simp only [cpy_0] at this
            exact this
          · unfold f_X12_council_L35
            simp (disch := omega) only [gr_text H, gr_told H, gr_draft H, gr_s H, gr_past H, gr_images H, gr_notes H, gr_levels H, gr_row H, gr_reach H, gr_gains H, gr_line H, gr_rows H, gr_next H, gr_held H, al_text, al_told, al_draft, al_s, al_past, al_images, al_notes, al_levels, al_row, al_reach, al_gains, al_line, al_rows, al_next, al_held, as_text, as_told, as_draft, as_s, as_past, as_images, as_notes, as_levels, as_row, as_reach, as_gains, as_line, as_rows, as_next, as_held, gi_typed, pi_typed, gi_known, pi_known, gi_kept, pi_kept, gi_noted, pi_noted, gi_at, pi_at, gd_m, nb_lit, nI_add, nb_sub, pk_mul, nb_lt, nb_le, nb_eq, nb_and, nb_or, nb_xor, nb_shl, nb_shl2, Option.bind_some, Option.some.injEq, Prod.mk.injEq, nI_pos, if_true, if_false, ite_true, ite_false, not_true_eq_false, not_false_eq_true, and_true, true_and, and_self, or_self, b10_0, b10_1, b01_0, b01_1, b10_o, b01_o, or_true, true_or, or_false, false_or, and_false, false_and, eq_self, Nat.reduceEqDiff, b_em, b_me, ly_m, Nat.reduceLT, Nat.reduceLeDiff, Nat.reduceAdd, Nat.reduceMul, Nat.reduceSub, Bool.false_eq_true, Nat.not_lt_zero, cpy_out, cpy_s0 (f := m 118)]
            rw [if_neg (by omega)]
          · unfold f_X12_council_L35
            simp (disch := omega) only [gr_text H, gr_told H, gr_draft H, gr_s H, gr_past H, gr_images H, gr_notes H, gr_levels H, gr_row H, gr_reach H, gr_gains H, gr_line H, gr_rows H, gr_next H, gr_held H, al_text, al_told, al_draft, al_s, al_past, al_images, al_notes, al_levels, al_row, al_reach, al_gains, al_line, al_rows, al_next, al_held, as_text, as_told, as_draft, as_s, as_past, as_images, as_notes, as_levels, as_row, as_reach, as_gains, as_line, as_rows, as_next, as_held, gi_typed, pi_typed, gi_known, pi_known, gi_kept, pi_kept, gi_noted, pi_noted, gi_at, pi_at, gd_m, nb_lit, nI_add, nb_sub, pk_mul, nb_lt, nb_le, nb_eq, nb_and, nb_or, nb_xor, nb_shl, nb_shl2, Option.bind_some, Option.some.injEq, Prod.mk.injEq, nI_pos, if_true, if_false, ite_true, ite_false, not_true_eq_false, not_false_eq_true, and_true, true_and, and_self, or_self, b10_0, b10_1, b01_0, b01_1, b10_o, b01_o, or_true, true_or, or_false, false_or, and_false, false_and, eq_self, Nat.reduceEqDiff, b_em, b_me, ly_m, Nat.reduceLT, Nat.reduceLeDiff, Nat.reduceAdd, Nat.reduceMul, Nat.reduceSub, Bool.false_eq_true, Nat.not_lt_zero, Nat.le_refl]
        rw [k35]
        have k65 : ∀ K : Int32 × mx_Hp → Option (Int32 × mx_Hp), ∃ m', mx_fix (f_X12_council_L65 114 (nI z) (nI c) y K) 2000 (nI 0, (130, cpy m 129 0 (m 118) 22, r)) = K (nI c, (130, m', r)) ∧ SM (m' 118) 0 (couS b s z c) ∧ (∀ j, j < 22 → m' 129 j = m 118 j) ∧ ∀ a, a ≠ 118 → a ≠ 122 → a ≠ 123 → a ≠ 129 → m' a = m a := by
          intro K
          refine fix_relS (fun i q => ∃ m' : Nat → Nat → Int32, q = (nI i, (130, m', r)) ∧ SM (m' 118) 0 (couS b s z i) ∧ (∀ j, j < 22 → m' 129 j = m 118 j) ∧ ∀ a, a ≠ 118 → a ≠ 122 → a ≠ 123 → a ≠ 129 → m' a = m a) c (Q := fun o => ∃ m' : Nat → Nat → Int32, o = K (nI c, (130, m', r)) ∧ SM (m' 118) 0 (couS b s z c) ∧ (∀ j, j < 22 → m' 129 j = m 118 j) ∧ ∀ a, a ≠ 118 → a ≠ 122 → a ≠ 123 → a ≠ 129 → m' a = m a) ?_ ?_ (by omega) ?_
          · rintro i q hi ⟨m1, rfl, g1, g2, g3⟩ self
            have T1 : TO (m1 116) b := by rw [g3 116 (by decide) (by decide) (by decide) (by decide)]; exact T
            obtain ⟨m2, j1, j2, j3⟩ := m_turn (d := drawN z i) H T1 B g1 (wf_cou B F i) (by have := drawN_lt z i; omega)
            refine ⟨(nI (i + 1), (130, m2, r)), ⟨m2, rfl, j2, fun j hj => by rw [j3 129 (by decide) (by decide) (by decide)]; exact g2 j hj, fun a h1 h2 h3 h4 => by rw [j3 a h1 h2 h3, g3 a h1 h2 h3 h4]⟩, ?_⟩
            unfold f_X12_council_L65
            simp only [nb_lit]
            rw [if_neg (show ¬ nI c ≤ nI i by rw [nb_le (by omega) (by omega)]; omega), if_neg (by decide), if_neg (by decide), m_draw hz (by omega), if_pos ⟨by decide, ly_m⟩, j1]
            simp only [Option.bind_some, nI_add]
          · rintro q ⟨m1, rfl, g1, g2, g3⟩ self
            unfold f_X12_council_L65
            simp (disch := omega) only [nb_le]
            rw [if_pos (Nat.le_refl c)]
            exact ⟨m1, rfl, g1, g2, g3⟩
          · refine ⟨_, rfl, ?_, fun j hj => ?_, fun a h1 h2 h3 h4 => cpy_ne h4⟩
            · rw [cpy_ne (by decide)]; exact S
            · rw [cpy_in (by omega) (by omega)]
              rfl
        simp only []
        obtain ⟨m1, e1, e2, e3, e4⟩ := k65 (fun s28 => (if ¬ y = nI 0 then
            if ¬ y = nI 1 then
            (mx_gr s28.2 114 12 4).bind fun x31 =>
            (mx_al s28.2 x31 (nI 17)).bind fun x32 =>
            (mx_gr s28.2 114 12 4).bind fun x33 =>
            (mx_al s28.2 x33 (nI 18)).bind fun x34 =>
            some ((nI 500 + x32) - x34)
            else
            (mx_gr s28.2 114 12 4).bind fun x35 =>
            (mx_al s28.2 x35 (nI 15)).bind fun x36 =>
            (mx_gr s28.2 114 12 4).bind fun x37 =>
            (mx_al s28.2 x37 (nI 16)).bind fun x38 =>
            some (x36 + x38)
            else
            (mx_gr s28.2 114 12 4).bind fun x39 =>
            (mx_al s28.2 x39 (nI 13)).bind fun x40 =>
            some x40 : Option (Int32)).bind fun v41 =>
            mx_fix (f_X12_council_L172 114 v41) 2000 (nI 0, s28.2))
        rw [e1]
        have y0 := sm_D e2 (show 0 < 2 by decide)
        have y1 := sm_D e2 (show 1 < 2 by decide)
        have y2 := sm_G e2 (show 0 < 2 by decide)
        have y3 := sm_G e2 (show 1 < 2 by decide)
        simp only [Nat.add_zero, Nat.reduceAdd] at y0 y1 y2 y3
        have k172 : ∀ v : Int32, mx_fix (f_X12_council_L172 114 v) 2000 (nI 0, (130, m1, r)) = some (v, (130, cpy m1 118 0 (m1 129) 22, r)) := by
          intro v
          have := fix_up (F := f_X12_council_L172 114 v) (fun i => (nI i, (130, cpy m1 118 0 (m1 129) i, r))) 22 (y := some (v, (130, cpy m1 118 0 (m1 129) 22, r))) (fun i hi self => ?_) (fun self => ?_) (fuel := 2000) (by omega)
          · simp only [cpy_0] at this
            exact this
          · unfold f_X12_council_L172
            simp (disch := omega) only [gr_text H, gr_told H, gr_draft H, gr_s H, gr_past H, gr_images H, gr_notes H, gr_levels H, gr_row H, gr_reach H, gr_gains H, gr_line H, gr_rows H, gr_next H, gr_held H, al_text, al_told, al_draft, al_s, al_past, al_images, al_notes, al_levels, al_row, al_reach, al_gains, al_line, al_rows, al_next, al_held, as_text, as_told, as_draft, as_s, as_past, as_images, as_notes, as_levels, as_row, as_reach, as_gains, as_line, as_rows, as_next, as_held, gi_typed, pi_typed, gi_known, pi_known, gi_kept, pi_kept, gi_noted, pi_noted, gi_at, pi_at, gd_m, nb_lit, nI_add, nb_sub, pk_mul, nb_lt, nb_le, nb_eq, nb_and, nb_or, nb_xor, nb_shl, nb_shl2, Option.bind_some, Option.some.injEq, Prod.mk.injEq, nI_pos, if_true, if_false, ite_true, ite_false, not_true_eq_false, not_false_eq_true, and_true, true_and, and_self, or_self, b10_0, b10_1, b01_0, b01_1, b10_o, b01_o, or_true, true_or, or_false, false_or, and_false, false_and, eq_self, Nat.reduceEqDiff, b_em, b_me, ly_m, Nat.reduceLT, Nat.reduceLeDiff, Nat.reduceAdd, Nat.reduceMul, Nat.reduceSub, Bool.false_eq_true, Nat.not_lt_zero, cpy_out, cpy_s0 (f := m1 129)]
            rw [if_neg (by omega)]
          · unfold f_X12_council_L172
            simp (disch := omega) only [gr_text H, gr_told H, gr_draft H, gr_s H, gr_past H, gr_images H, gr_notes H, gr_levels H, gr_row H, gr_reach H, gr_gains H, gr_line H, gr_rows H, gr_next H, gr_held H, al_text, al_told, al_draft, al_s, al_past, al_images, al_notes, al_levels, al_row, al_reach, al_gains, al_line, al_rows, al_next, al_held, as_text, as_told, as_draft, as_s, as_past, as_images, as_notes, as_levels, as_row, as_reach, as_gains, as_line, as_rows, as_next, as_held, gi_typed, pi_typed, gi_known, pi_known, gi_kept, pi_kept, gi_noted, pi_noted, gi_at, pi_at, gd_m, nb_lit, nI_add, nb_sub, pk_mul, nb_lt, nb_le, nb_eq, nb_and, nb_or, nb_xor, nb_shl, nb_shl2, Option.bind_some, Option.some.injEq, Prod.mk.injEq, nI_pos, if_true, if_false, ite_true, ite_false, not_true_eq_false, not_false_eq_true, and_true, true_and, and_self, or_self, b10_0, b10_1, b01_0, b01_1, b10_o, b01_o, or_true, true_or, or_false, false_or, and_false, false_and, eq_self, Nat.reduceEqDiff, b_em, b_me, ly_m, Nat.reduceLT, Nat.reduceLeDiff, Nat.reduceAdd, Nat.reduceMul, Nat.reduceSub, Bool.false_eq_true, Nat.not_lt_zero, Nat.le_refl]
        refine ⟨cpy m1 118 0 (m1 129) 22, ?_, ?_, fun a ha => ?_⟩
        · by_cases d1 : y = nI 0
          · simp (disch := omega) only [gr_text H, gr_told H, gr_draft H, gr_s H, gr_past H, gr_images H, gr_notes H, gr_levels H, gr_row H, gr_reach H, gr_gains H, gr_line H, gr_rows H, gr_next H, gr_held H, al_text, al_told, al_draft, al_s, al_past, al_images, al_notes, al_levels, al_row, al_reach, al_gains, al_line, al_rows, al_next, al_held, as_text, as_told, as_draft, as_s, as_past, as_images, as_notes, as_levels, as_row, as_reach, as_gains, as_line, as_rows, as_next, as_held, gi_typed, pi_typed, gi_known, pi_known, gi_kept, pi_kept, gi_noted, pi_noted, gi_at, pi_at, gd_m, d1, sm_C e2, k172, nb_lit, nI_add, nb_sub, pk_mul, nb_lt, nb_le, nb_eq, nb_and, nb_or, nb_xor, nb_shl, nb_shl2, Option.bind_some, Option.some.injEq, Prod.mk.injEq, nI_pos, if_true, if_false, ite_true, ite_false, not_true_eq_false, not_false_eq_true, and_true, true_and, and_self, or_self, b10_0, b10_1, b01_0, b01_1, b10_o, b01_o, or_true, true_or, or_false, false_or, and_false, false_and, eq_self, Nat.reduceEqDiff, b_em, b_me, ly_m, Nat.reduceLT, Nat.reduceLeDiff, Nat.reduceAdd, Nat.reduceMul, Nat.reduceSub, Bool.false_eq_true, Nat.not_lt_zero]
          · by_cases d2 : y = nI 1
            · simp (disch := omega) only [gr_text H, gr_told H, gr_draft H, gr_s H, gr_past H, gr_images H, gr_notes H, gr_levels H, gr_row H, gr_reach H, gr_gains H, gr_line H, gr_rows H, gr_next H, gr_held H, al_text, al_told, al_draft, al_s, al_past, al_images, al_notes, al_levels, al_row, al_reach, al_gains, al_line, al_rows, al_next, al_held, as_text, as_told, as_draft, as_s, as_past, as_images, as_notes, as_levels, as_row, as_reach, as_gains, as_line, as_rows, as_next, as_held, gi_typed, pi_typed, gi_known, pi_known, gi_kept, pi_kept, gi_noted, pi_noted, gi_at, pi_at, gd_m, d2, y0, y1, k172, nb_lit, nI_add, nb_sub, pk_mul, nb_lt, nb_le, nb_eq, nb_and, nb_or, nb_xor, nb_shl, nb_shl2, Option.bind_some, Option.some.injEq, Prod.mk.injEq, nI_pos, if_true, if_false, ite_true, ite_false, not_true_eq_false, not_false_eq_true, and_true, true_and, and_self, or_self, b10_0, b10_1, b01_0, b01_1, b10_o, b01_o, or_true, true_or, or_false, false_or, and_false, false_and, eq_self, Nat.reduceEqDiff, b_em, b_me, ly_m, Nat.reduceLT, Nat.reduceLeDiff, Nat.reduceAdd, Nat.reduceMul, Nat.reduceSub, Bool.false_eq_true, Nat.not_lt_zero]
            · simp (disch := omega) only [gr_text H, gr_told H, gr_draft H, gr_s H, gr_past H, gr_images H, gr_notes H, gr_levels H, gr_row H, gr_reach H, gr_gains H, gr_line H, gr_rows H, gr_next H, gr_held H, al_text, al_told, al_draft, al_s, al_past, al_images, al_notes, al_levels, al_row, al_reach, al_gains, al_line, al_rows, al_next, al_held, as_text, as_told, as_draft, as_s, as_past, as_images, as_notes, as_levels, as_row, as_reach, as_gains, as_line, as_rows, as_next, as_held, gi_typed, pi_typed, gi_known, pi_known, gi_kept, pi_kept, gi_noted, pi_noted, gi_at, pi_at, gd_m, d1, d2, y2, y3, k172, nb_lit, nI_add, nb_sub, pk_mul, nb_lt, nb_le, nb_eq, nb_and, nb_or, nb_xor, nb_shl, nb_shl2, Option.bind_some, Option.some.injEq, Prod.mk.injEq, nI_pos, if_true, if_false, ite_true, ite_false, not_true_eq_false, not_false_eq_true, and_true, true_and, and_self, or_self, b10_0, b10_1, b01_0, b01_1, b10_o, b01_o, or_true, true_or, or_false, false_or, and_false, false_and, eq_self, Nat.reduceEqDiff, b_em, b_me, ly_m, Nat.reduceLT, Nat.reduceLeDiff, Nat.reduceAdd, Nat.reduceMul, Nat.reduceSub, Bool.false_eq_true, Nat.not_lt_zero]
        · have hh := R.act (m' := cpy m1 118 0 (m1 129) 22) (s := s) (U := aU A) ?_ ?_ ?_ ?_ ?_ ?_ ?_ ?_ ?_
          · rw [hbe] at hh
            have : A = (aX A, b, s, aU A, aK A, aO A) := by rw [← hbe, ← hse]; rfl
            rw [this]
            exact hh
          · refine S.congr F.1 (fun k hk => ?_)
            rw [cpy_in (by omega) (by omega), e3 _ (by omega)]
            congr 1
          · rw [cpy_ne (by decide), cpy_ne (by decide), e4 114 (by decide) (by decide) (by decide) (by decide), e4 119 (by decide) (by decide) (by decide) (by decide)]; exact r4
          · rw [cpy_ne (by decide), e4 _ (by decide) (by decide) (by decide) (by decide)]
          · rw [cpy_ne (by decide), e4 _ (by decide) (by decide) (by decide) (by decide)]
          · rw [cpy_ne (by decide), e4 _ (by decide) (by decide) (by decide) (by decide)]
          · rw [cpy_ne (by decide), e4 _ (by decide) (by decide) (by decide) (by decide)]
          · rw [cpy_ne (by decide), e4 _ (by decide) (by decide) (by decide) (by decide)]
          · rw [cpy_ne (by decide), e4 _ (by decide) (by decide) (by decide) (by decide)]
          · rw [cpy_ne (by decide), e4 _ (by decide) (by decide) (by decide) (by decide)]
        · rw [cpy_ne (by omega), e4 a (by omega) (by omega) (by omega) (by omega)]
end M15
