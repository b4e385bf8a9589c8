/-! the best sentence: which it is -/
/-- of those in P: the most, its length, its first word; the least length and the least word where there are more -/
def SumP (v : Nat → Nat → Int) (P : Nat → Nat → Prop) (st : Int × Nat × Nat) : Prop :=
  (st.1 = -1 ∧ st.2.1 = 0 ∧ st.2.2 = 0 ∧ ∀ l f, P l f → v l f < 0) ∨
  (0 ≤ st.1 ∧ ∃ l f, st.2.1 = l + 1 ∧ st.2.2 = f ∧ P l f ∧ v l f = st.1 ∧ ∀ l' f', P l' f' → v l' f' ≤ st.1 ∧ (v l' f' = st.1 → l < l' ∨ (l = l' ∧ f ≤ f')))
theorem SumP.down {v : Nat → Nat → Int} {P P' : Nat → Nat → Prop} {st : Int × Nat × Nat} {l f : Nat} (h : SumP v P st) (hP : ∀ a c, P a c → l < a ∨ (l = a ∧ f < c)) (hP' : ∀ a c, P' a c ↔ P a c ∨ (a = l ∧ c = f)) : SumP v P' (if v l f < 0 then st else if v l f < st.1 then st else (v l f, l + 1, f)) := by
  by_cases h0 : v l f < 0
  · rw [if_pos h0]
    rcases h with ⟨h1, h2, h3, h4⟩ | ⟨h1, a, c, h2, h3, h4, h5, h6⟩
    · refine Or.inl ⟨h1, h2, h3, fun a c hq => ?_⟩
      rcases (hP' a c).mp hq with q | ⟨rfl, rfl⟩
      · exact h4 a c q
      · exact h0
    · refine Or.inr ⟨h1, a, c, h2, h3, (hP' a c).mpr (Or.inl h4), h5, fun a' c' hq => ?_⟩
      rcases (hP' a' c').mp hq with q | ⟨rfl, rfl⟩
      · exact h6 a' c' q
      · exact ⟨by omega, fun z => by omega⟩
  · rw [if_neg h0]
    by_cases h7 : v l f < st.1
    · rw [if_pos h7]
      rcases h with ⟨h1, h2, h3, h4⟩ | ⟨h1, a, c, h2, h3, h4, h5, h6⟩
      · omega
      · refine Or.inr ⟨h1, a, c, h2, h3, (hP' a c).mpr (Or.inl h4), h5, fun a' c' hq => ?_⟩
        rcases (hP' a' c').mp hq with q | ⟨rfl, rfl⟩
        · exact h6 a' c' q
        · exact ⟨by omega, fun z => by omega⟩
    · rw [if_neg h7]
      refine Or.inr ⟨by show 0 ≤ v l f; omega, l, f, rfl, rfl, (hP' l f).mpr (Or.inr ⟨rfl, rfl⟩), rfl, fun a' c' hq => ?_⟩
      show v a' c' ≤ v l f ∧ (v a' c' = v l f → _)
      rcases (hP' a' c').mp hq with q | ⟨rfl, rfl⟩
      · have hl := hP a' c' q
        refine ⟨?_, fun _ => by omega⟩
        rcases h with ⟨h1, h2, h3, h4⟩ | ⟨h1, a, c, h2, h3, h4, h5, h6⟩
        · have := h4 a' c' q
          omega
        · have := (h6 a' c' q).1
          omega
      · exact ⟨Int.le_refl _, fun _ => Or.inr ⟨rfl, Nat.le_refl _⟩⟩
theorem SumP.up {v : Nat → Nat → Int} {P P' : Nat → Nat → Prop} {st : Int × Nat × Nat} {l f : Nat} (h : SumP v P st) (hP : ∀ a c, P a c → a < l ∨ (a = l ∧ c < f)) (hP' : ∀ a c, P' a c ↔ P a c ∨ (a = l ∧ c = f)) : SumP v P' (if v l f < 0 then st else if v l f ≤ st.1 then st else (v l f, l + 1, f)) := by
  by_cases h0 : v l f < 0
  · rw [if_pos h0]
    rcases h with ⟨h1, h2, h3, h4⟩ | ⟨h1, a, c, h2, h3, h4, h5, h6⟩
    · refine Or.inl ⟨h1, h2, h3, fun a c hq => ?_⟩
      rcases (hP' a c).mp hq with q | ⟨rfl, rfl⟩
      · exact h4 a c q
      · exact h0
    · refine Or.inr ⟨h1, a, c, h2, h3, (hP' a c).mpr (Or.inl h4), h5, fun a' c' hq => ?_⟩
      rcases (hP' a' c').mp hq with q | ⟨rfl, rfl⟩
      · exact h6 a' c' q
      · exact ⟨by omega, fun z => by omega⟩
  · rw [if_neg h0]
    by_cases h7 : v l f ≤ st.1
    · rw [if_pos h7]
      rcases h with ⟨h1, h2, h3, h4⟩ | ⟨h1, a, c, h2, h3, h4, h5, h6⟩
      · omega
      · refine Or.inr ⟨h1, a, c, h2, h3, (hP' a c).mpr (Or.inl h4), h5, fun a' c' hq => ?_⟩
        rcases (hP' a' c').mp hq with q | ⟨rfl, rfl⟩
        · exact h6 a' c' q
        · have hl := hP a c h4
          exact ⟨by omega, fun z => by omega⟩
    · rw [if_neg h7]
      refine Or.inr ⟨by show 0 ≤ v l f; omega, l, f, rfl, rfl, (hP' l f).mpr (Or.inr ⟨rfl, rfl⟩), rfl, fun a' c' hq => ?_⟩
      show v a' c' ≤ v l f ∧ (v a' c' = v l f → _)
      rcases (hP' a' c').mp hq with q | ⟨rfl, rfl⟩
      · rcases h with ⟨h1, h2, h3, h4⟩ | ⟨h1, a, c, h2, h3, h4, h5, h6⟩
        · have := h4 a' c' q
          exact ⟨by omega, fun z => by omega⟩
        · have := (h6 a' c' q).1
          exact ⟨by omega, fun z => by omega⟩
      · exact ⟨Int.le_refl _, fun _ => Or.inr ⟨rfl, Nat.le_refl _⟩⟩
theorem SumP.uniq {v : Nat → Nat → Int} {P : Nat → Nat → Prop} {st st' : Int × Nat × Nat} (h : SumP v P st) (h' : SumP v P st') : st = st' := by
  obtain ⟨a1, a2, a3⟩ := st
  obtain ⟨c1, c2, c3⟩ := st'
  rcases h with ⟨h1, h2, h3, h4⟩ | ⟨h1, l, f, h2, h3, h4, h5, h6⟩
  · rcases h' with ⟨k1, k2, k3, k4⟩ | ⟨k1, l', f', k2, k3, k4, k5, k6⟩
    · simp only at h1 h2 h3 k1 k2 k3
      rw [h1, h2, h3, k1, k2, k3]
    · have := h4 l' f' k4
      simp only at k5 k1
      omega
  · rcases h' with ⟨k1, k2, k3, k4⟩ | ⟨k1, l', f', k2, k3, k4, k5, k6⟩
    · have := k4 l f h4
      simp only at h5 h1
      omega
    · simp only at h1 h2 h3 h5 h6 k1 k2 k3 k5 k6
      have q1 := h6 l' f' k4
      have q2 := k6 l f h4
      have e : a1 = c1 := by omega
      have q3 := q1.2 (by omega)
      have q4 := q2.2 (by omega)
      rw [e, h2, h3, k2, k3, show l = l' by omega, show f = f' by omega]
theorem SumP.congr {v : Nat → Nat → Int} {P P' : Nat → Nat → Prop} {st : Int × Nat × Nat} (h : SumP v P st) (e : ∀ a c, P' a c ↔ P a c) : SumP v P' st := by
  have : P' = P := by funext a c; exact propext (e a c)
  rw [this]; exact h
theorem SumP.bd {v : Nat → Nat → Int} {P : Nat → Nat → Prop} {st : Int × Nat × Nat} (h : SumP v P st) {M : Int} (hM : ∀ l f, P l f → v l f ≤ M) (h0 : 0 ≤ M) : -1 ≤ st.1 ∧ st.1 ≤ M := by
  rcases h with ⟨h1, h2, h3, h4⟩ | ⟨h1, l, f, h2, h3, h4, h5, h6⟩
  · omega
  · have := hM l f h4
    omega
def vB (b : Bo) (s : St) (l f : Nat) : Int := gI b (dF b s f) l f + bW b f
def pathB (b : Bo) (D many f : Nat) : Nat → Nat
  | 0 => f
  | i + 1 => fst (fun y => (bE b (pathB b D many f i)).testBit y && decide (gI b D (many - 1 - (i + 1)) y + bW b y = gI b D (many - 1 - (i + 1) + 1) (pathB b D many f i))) (bN b)
def ansB (b : Bo) (s : St) (st : Int × Nat × Nat) (y : Int32) : Int32 := if st.1 < 0 then -4 else if y = -1 then iI st.1 else if y = -2 then nI st.2.1 else if nI st.2.1 ≤ y then -4 else nI (pathB b (dF b s st.2.2) st.2.1 st.2.2 y.toNatClampNeg)
section M11
variable {m : Nat → Nat → Int32} {r : Nat → Nat → Option Nat} {b : Bo} {s : St} {D w L : Nat} {A : Ab}
theorem vB_bd (B : WFb b) {l f : Nat} (hl : l < 10) (hf : f < bN b) : -9999 ≤ vB b s l f ∧ vB b s l f ≤ 100 := by
  have h1 := gI_lo (D := dF b s f) (k := l) B hf
  have h2 := gI_hi (D := dF b s f) (k := l) B (by omega) hf
  have h3 := wf_W B hf
  unfold vB
  omega
theorem gI_pos (B : WFb b) {k x : Nat} (hk : k ≤ 10) (hx : x < bN b) {c : Nat} (hc : c < 10) (h : 0 ≤ gI b D k x + c) : 0 ≤ gI b D k x := by
  have := (gI_bd (D := D) B k x hx).2
  omega
theorem pathB_inv (B : WFb b) {many f : Nat} (hm : many ≤ 10) (hf : f < bN b) (h : 0 ≤ gI b D (many - 1) f) : ∀ i, i < many → pathB b D many f i < bN b ∧ 0 ≤ gI b D (many - 1 - i) (pathB b D many f i) := by
  intro i
  induction i with
  | zero => intro _; exact ⟨hf, h⟩
  | succ i ih =>
    intro hi
    obtain ⟨h1, h2⟩ := ih (by omega)
    rw [show many - 1 - i = many - 1 - (i + 1) + 1 by omega] at h2
    obtain ⟨y, y1, y2, y3⟩ := gI_next B h1 h2
    have := fst_lt (p := fun y => (bE b (pathB b D many f i)).testBit y && decide (gI b D (many - 1 - (i + 1)) y + bW b y = gI b D (many - 1 - (i + 1) + 1) (pathB b D many f i))) (n := bN b) y1 (by simp only [y2, y3, decide_true, Bool.and_self])
    obtain ⟨f1, f2⟩ := this
    simp only [Bool.and_eq_true, decide_eq_true_eq] at f2
    refine ⟨f1, gI_pos B (by omega) f1 (wf_W B f1) ?_⟩
    have e : pathB b D many f (i + 1) = fst (fun y => (bE b (pathB b D many f i)).testBit y && decide (gI b D (many - 1 - (i + 1)) y + bW b y = gI b D (many - 1 - (i + 1) + 1) (pathB b D many f i))) (bN b) := rfl
    rw [e, f2.2]
    exact h2
theorem iI_dec {f : Nat} : nI f + -nI 1 = iI ((f : Int) - 1) := by
  show Int32.ofInt f + Int32.ofInt (-1) = _
  rw [← Int32.ofInt_add]
  rfl
theorem mc_best (H : MR r) (R : RelM m A) (W : WFa A) {n : Nat} (hn1 : 1 ≤ n) (hn10 : n ≤ 10) {y : Int32} (hy : ¬ (y < -2 ∨ 9 < y)) : ∃ st, SumP (vB (aB A) (aS A)) (fun l f => l < n ∧ f < bN (aB A)) st ∧ MOk (f_X12_best 114 (nI n) y (130, m, r)) m r (ansB (aB A) (aS A) st y) A := by
  obtain ⟨r1, T, S, r4, r5, r6⟩ := id R
  have B := W.2.1
  have F := W.2.2.1
  have hn := wf_N B
  have hb0 : ¬ (nI n < nI 1 ∨ nI 10 < nI n) := by
    rw [nb_lt (by omega) (by omega), nb_lt (by omega) (by omega)]
    omega
  have hb1 : ¬ (nI n < 1 ∨ 10 < nI n) := hb0
  unfold f_X12_best
  rw [mb_in, mb_in, if_neg hb1, if_neg hy]
  simp (disch := omega) only [nb_lit, nI_add, nb_sub, pk_mul, nb_lt, nb_le, nb_eq, nb_and, nb_or, nb_xor, nb_shl, nb_shl2, Option.bind_some, Option.some.injEq, Prod.mk.injEq, nI_pos, if_true, if_false, ite_true, ite_false, not_true_eq_false, not_false_eq_true, and_true, true_and, and_self, or_self, b10_0, b10_1, b01_0, b01_1, b10_o, b01_o, or_true, true_or, or_false, false_or, and_false, false_and, eq_self, Nat.reduceEqDiff, b_em, b_me, ly_m, Nat.reduceLT, Nat.reduceLeDiff, Nat.reduceAdd, Nat.reduceMul, Nat.reduceSub, Bool.false_eq_true, Nat.not_lt_zero]
  generalize aB A = b at *
  generalize aS A = s at *
  refine fix_relS (fun i q => ∃ (m' : Nat → Nat → Int32) (st : Int × Nat × Nat), q = (iI st.1, nI st.2.1, nI st.2.2, iI ((n : Int) - 1 - i), (130, m', r)) ∧ SumP (vB b s) (fun l f => n ≤ l + i ∧ l < n ∧ f < bN b) st ∧ ∀ a, a ≠ 122 → a ≠ 123 → a ≠ 125 → m' a = m a) n (Q := fun o => ∃ st, SumP (vB b s) (fun l f => l < n ∧ f < bN b) st ∧ MOk o m r (ansB b s st y) A) ?_ ?_ (by omega) ⟨m, (-1, 0, 0), ?_, Or.inl ⟨rfl, rfl, rfl, fun l f h => by omega⟩, fun a _ _ _ => rfl⟩
  · rintro i q hi ⟨m1, st1, rfl, g1, g2⟩ self
    have T1 : TO (m1 116) b := by rw [g2 116 (by decide) (by decide) (by decide)]; exact T
    have eL : iI ((n : Int) - 1 - i) = nI (n - 1 - i) := by
      rw [iI_n]; congr 1; omega
    rw [eL]
    unfold f_X12_best_L36
    simp (disch := omega) only [gr_text H, gr_told H, gr_draft H, gr_s H, gr_past H, gr_images H, gr_notes H, gr_levels H, gr_row H, gr_reach H, gr_gains H, gr_line H, gr_rows H, gr_next H, gr_held H, al_text, al_told, al_draft, al_s, al_past, al_images, al_notes, al_levels, al_row, al_reach, al_gains, al_line, al_rows, al_next, al_held, as_text, as_told, as_draft, as_s, as_past, as_images, as_notes, as_levels, as_row, as_reach, as_gains, as_line, as_rows, as_next, as_held, gi_typed, pi_typed, gi_known, pi_known, gi_kept, pi_kept, gi_noted, pi_noted, gi_at, pi_at, gd_m, to_N T1, nb_lit, nI_add, nb_sub, pk_mul, nb_lt, nb_le, nb_eq, nb_and, nb_or, nb_xor, nb_shl, nb_shl2, Option.bind_some, Option.some.injEq, Prod.mk.injEq, nI_pos, if_true, if_false, ite_true, ite_false, not_true_eq_false, not_false_eq_true, and_true, true_and, and_self, or_self, b10_0, b10_1, b01_0, b01_1, b10_o, b01_o, or_true, true_or, or_false, false_or, and_false, false_and, eq_self, Nat.reduceEqDiff, b_em, b_me, ly_m, Nat.reduceLT, Nat.reduceLeDiff, Nat.reduceAdd, Nat.reduceMul, Nat.reduceSub, Bool.false_eq_true, Nat.not_lt_zero]
    have e0 : nI (bN b - 1) = iI ((bN b : Int) - 1 - (0 : Nat)) := by rw [iI_n]; congr 1; omega
    rw [e0]
    refine fix_relS (fun j q => ∃ (m' : Nat → Nat → Int32) (st : Int × Nat × Nat), q = (iI st.1, nI st.2.1, nI st.2.2, iI ((bN b : Int) - 1 - j), (130, m', r)) ∧ SumP (vB b s) (fun l f => (n ≤ l + i ∧ l < n ∧ f < bN b) ∨ (l = n - 1 - i ∧ bN b ≤ f + j ∧ f < bN b)) st ∧ ∀ a, a ≠ 122 → a ≠ 123 → a ≠ 125 → m' a = m a) (bN b) (Q := fun o => ∃ s', (∃ (m' : Nat → Nat → Int32) (st : Int × Nat × Nat), s' = (iI st.1, nI st.2.1, nI st.2.2, iI ((n : Int) - 1 - (i + 1 : Nat)), (130, m', r)) ∧ SumP (vB b s) (fun l f => n ≤ l + (i + 1) ∧ l < n ∧ f < bN b) st ∧ ∀ a, a ≠ 122 → a ≠ 123 → a ≠ 125 → m' a = m a) ∧ o = self s') ?_ ?_ (by omega) ⟨m1, st1, rfl, g1.congr (fun a c => by omega), g2⟩
    · rintro j q hj ⟨m2, st2, rfl, k1, k2⟩ self2
      have T2 : TO (m2 116) b := by rw [k2 116 (by decide) (by decide) (by decide)]; exact T
      have S2 : SM (m2 118) 0 s := by rw [k2 118 (by decide) (by decide) (by decide)]; exact S
      have eF : iI ((bN b : Int) - 1 - j) = nI (bN b - 1 - j) := by
        rw [iI_n]; congr 1; omega
      have hf : bN b - 1 - j < bN b := by omega
      generalize hfd : bN b - 1 - j = f at *
      obtain ⟨m3, a1, a2⟩ := m_lost H T2 B S2 F hf
      have a1' : f_X12_lost 114 (nI f) (130, m2, r) = some (nI (dF b s f), (130, m3, r)) := a1
      have T3 : TO (m3 116) b := by rw [a2 116 (by decide) (by decide)]; exact T2
      obtain ⟨m4, c1, c2, c3⟩ := m_gains (D := dF b s f) H T3 B (lostF_2 B)
      have T4 : TO (m4 116) b := by rw [c3 116 (by decide)]; exact T3
      have hbd := vB_bd (s := s) (l := n - 1 - i) B (by omega) hf
      have hst := k1.bd (M := 100) (fun l f h => (vB_bd B (by omega) (by omega)).2) (by decide)
      have hv : iI (gI b (dF b s f) (n - 1 - i) f) + nI (bW b f) = iI (vB b s (n - 1 - i) f) := iI_add
      have hst' := k1.down (l := n - 1 - i) (f := f) (P' := fun l f' => (n ≤ l + i ∧ l < n ∧ f' < bN b) ∨ (l = n - 1 - i ∧ bN b ≤ f' + (j + 1) ∧ f' < bN b)) (fun a c h => by omega) (fun a c => by omega)
      refine ⟨_, ⟨m4, _, rfl, hst', fun a ha hb hc => by rw [c3 a hc, a2 a ha hb, k2 a ha hb hc]⟩, ?_⟩
      rw [eF]
      unfold f_X12_best_L51
      simp (disch := omega) only [gr_text H, gr_told H, gr_draft H, gr_s H, gr_past H, gr_images H, gr_notes H, gr_levels H, gr_row H, gr_reach H, gr_gains H, gr_line H, gr_rows H, gr_next H, gr_held H, al_text, al_told, al_draft, al_s, al_past, al_images, al_notes, al_levels, al_row, al_reach, al_gains, al_line, al_rows, al_next, al_held, as_text, as_told, as_draft, as_s, as_past, as_images, as_notes, as_levels, as_row, as_reach, as_gains, as_line, as_rows, as_next, as_held, gi_typed, pi_typed, gi_known, pi_known, gi_kept, pi_kept, gi_noted, pi_noted, gi_at, pi_at, gd_m, a1', c1, c2 (n - 1 - i) (by omega) f hf, to_W T4 hf, hv, nb_lit, nI_add, nb_sub, pk_mul, nb_lt, nb_le, nb_eq, nb_and, nb_or, nb_xor, nb_shl, nb_shl2, Option.bind_some, Option.some.injEq, Prod.mk.injEq, nI_pos, if_true, if_false, ite_true, ite_false, not_true_eq_false, not_false_eq_true, and_true, true_and, and_self, or_self, b10_0, b10_1, b01_0, b01_1, b10_o, b01_o, or_true, true_or, or_false, false_or, and_false, false_and, eq_self, Nat.reduceEqDiff, b_em, b_me, ly_m, Nat.reduceLT, Nat.reduceLeDiff, Nat.reduceAdd, Nat.reduceMul, Nat.reduceSub, Bool.false_eq_true, Nat.not_lt_zero, iI_dec]
      have z1 : (iI (vB b s (n - 1 - i) f) < nI 0) = (vB b s (n - 1 - i) f < 0) := propext (iI_lt (c := 0) (by omega) (by omega) (by decide) (by decide))
      have z2 : (iI (vB b s (n - 1 - i) f) < iI st2.1) = (vB b s (n - 1 - i) f < st2.1) := propext (iI_lt (by omega) (by omega) (by omega) (by omega))
      have z3 : iI ((f : Int) - 1) = iI ((bN b : Int) - 1 - (j + 1 : Nat)) := by congr 1; omega
      simp only [z1, z2, z3]
      by_cases q1 : vB b s (n - 1 - i) f < 0
      · simp only [q1, nb_lit, nI_add, nb_sub, pk_mul, nb_lt, nb_le, nb_eq, nb_and, nb_or, nb_xor, nb_shl, nb_shl2, Option.bind_some, Option.some.injEq, Prod.mk.injEq, nI_pos, if_true, if_false, ite_true, ite_false, not_true_eq_false, not_false_eq_true, and_true, true_and, and_self, or_self, b10_0, b10_1, b01_0, b01_1, b10_o, b01_o, or_true, true_or, or_false, false_or, and_false, false_and, eq_self, Nat.reduceEqDiff, b_em, b_me, ly_m, Nat.reduceLT, Nat.reduceLeDiff, Nat.reduceAdd, Nat.reduceMul, Nat.reduceSub, Bool.false_eq_true, Nat.not_lt_zero]
      · by_cases q2 : vB b s (n - 1 - i) f < st2.1
        · simp only [q1, q2, nb_lit, nI_add, nb_sub, pk_mul, nb_lt, nb_le, nb_eq, nb_and, nb_or, nb_xor, nb_shl, nb_shl2, Option.bind_some, Option.some.injEq, Prod.mk.injEq, nI_pos, if_true, if_false, ite_true, ite_false, not_true_eq_false, not_false_eq_true, and_true, true_and, and_self, or_self, b10_0, b10_1, b01_0, b01_1, b10_o, b01_o, or_true, true_or, or_false, false_or, and_false, false_and, eq_self, Nat.reduceEqDiff, b_em, b_me, ly_m, Nat.reduceLT, Nat.reduceLeDiff, Nat.reduceAdd, Nat.reduceMul, Nat.reduceSub, Bool.false_eq_true, Nat.not_lt_zero]
        · simp only [q1, q2, nb_lit, nI_add, nb_sub, pk_mul, nb_lt, nb_le, nb_eq, nb_and, nb_or, nb_xor, nb_shl, nb_shl2, Option.bind_some, Option.some.injEq, Prod.mk.injEq, nI_pos, if_true, if_false, ite_true, ite_false, not_true_eq_false, not_false_eq_true, and_true, true_and, and_self, or_self, b10_0, b10_1, b01_0, b01_1, b10_o, b01_o, or_true, true_or, or_false, false_or, and_false, false_and, eq_self, Nat.reduceEqDiff, b_em, b_me, ly_m, Nat.reduceLT, Nat.reduceLeDiff, Nat.reduceAdd, Nat.reduceMul, Nat.reduceSub, Bool.false_eq_true, Nat.not_lt_zero]
    · rintro q ⟨m2, st2, rfl, k1, k2⟩ self2
      refine ⟨_, ⟨m2, st2, rfl, k1.congr (fun a c => by omega), k2⟩, ?_⟩
      unfold f_X12_best_L51
      have z1 : (iI ((bN b : Int) - 1 - bN b) < nI 0) = True := eq_true ((iI_lt (c := 0) (by omega) (by omega) (by decide) (by decide)).mpr (by omega))
      have z3 : iI (((n - 1 - i : Nat) : Int) - 1) = iI ((n : Int) - 1 - (i + 1 : Nat)) := by congr 1; omega
      simp only [nb_lit, z1, if_true, iI_dec, z3]
  · rintro q ⟨m1, st, rfl, g1, g2⟩ self
    have hS : SumP (vB b s) (fun l f => l < n ∧ f < bN b) st := g1.congr (fun a c => by omega)
    refine ⟨st, hS, ?_⟩
    have T1 : TO (m1 116) b := by rw [g2 116 (by decide) (by decide) (by decide)]; exact T
    have S1 : SM (m1 118) 0 s := by rw [g2 118 (by decide) (by decide) (by decide)]; exact S
    have hst := hS.bd (M := 100) (fun l f h => (vB_bd B (by omega) (by omega)).2) (by decide)
    have z1 : (iI ((n : Int) - 1 - n) < nI 0) = True := eq_true ((iI_lt (c := 0) (by omega) (by omega) (by decide) (by decide)).mpr (by omega))
    have z2 : (iI st.1 < nI 0) = (st.1 < 0) := propext (iI_lt (c := 0) (by omega) (by omega) (by decide) (by decide))
    have z3 : (nI 0 ≤ iI st.1) = (0 ≤ st.1) := propext (iI_le (a := 0) (by decide) (by decide) (by omega) (by omega))
    unfold f_X12_best_L36
    simp only [nb_lit, z1, if_true, z2, z3]
    unfold ansB
    by_cases h0 : st.1 < 0
    · rw [if_pos h0, if_pos h0, if_neg (show ¬ 0 ≤ st.1 by omega)]
      exact ⟨m1, rfl, R.same (fun a h1 h2 => g2 a (by omega) (by omega) (by omega)), fun a ha => g2 a (by omega) (by omega) (by omega)⟩
    · rw [if_neg h0, if_neg h0, if_pos (show 0 ≤ st.1 by omega)]
      rcases hS with ⟨u1, u2, u3, u4⟩ | ⟨u1, l, f, u2, u3, u4, u5, u6⟩
      · omega
      have hfN : f < bN b := u4.2
      rw [u2, u3]
      by_cases hy0 : nI 0 ≤ y
      · rw [if_pos hy0]
        obtain ⟨m3, a1, a2⟩ := m_lost H T1 B S1 F hfN
        have a1' : f_X12_lost 114 (nI f) (130, m1, r) = some (nI (dF b s f), (130, m3, r)) := a1
        have T3 : TO (m3 116) b := by rw [a2 116 (by decide) (by decide)]; exact T1
        obtain ⟨m4, c1, c2, c3⟩ := m_gains (D := dF b s f) H T3 B (lostF_2 B)
        have T4 : TO (m4 116) b := by rw [c3 116 (by decide)]; exact T3
        have c4 : ∀ a, a ≠ 122 → a ≠ 123 → a ≠ 125 → m4 a = m a := fun a ha hb hc => by rw [c3 a hc, a2 a ha hb, g2 a ha hb hc]
        have hg0 : 0 ≤ gI b (dF b s f) (l + 1 - 1) f := by
          rw [Nat.add_sub_cancel]
          refine gI_pos B (by omega) hfN (wf_W B hfN) ?_
          have : gI b (dF b s f) l f + bW b f = st.1 := u5
          omega
        have hm1 : ¬ y = -1 := by
          intro e; rw [e] at hy0; exact absurd hy0 (by decide)
        have hm2 : ¬ y = -2 := by
          intro e; rw [e] at hy0; exact absurd hy0 (by decide)
        obtain ⟨k, hk, hk9, rfl⟩ : ∃ k, k < 2 ^ 31 ∧ k ≤ 9 ∧ y = nI k := by
          rcases nb_three y 10 (by decide) with q | q | ⟨j, hj, rfl⟩
          · exact absurd q (Int32.not_lt.mpr hy0)
          · exact absurd (Or.inr (Int32.lt_of_lt_of_le (show (9 : Int32) < nI 10 by decide) q)) hy
          · exact ⟨j, by omega, by omega, rfl⟩
        rw [if_neg hm1, if_neg hm2, nb_cl hk]
        refine ⟨m4, ?_, R.same (fun a h1 h2 => c4 a (by omega) (by omega) (by omega)), fun a ha => c4 a (by omega) (by omega) (by omega)⟩
        simp (disch := omega) only [a1', c1, nb_lit, nI_add, nb_sub, pk_mul, nb_lt, nb_le, nb_eq, nb_and, nb_or, nb_xor, nb_shl, nb_shl2, Option.bind_some, Option.some.injEq, Prod.mk.injEq, nI_pos, if_true, if_false, ite_true, ite_false, not_true_eq_false, not_false_eq_true, and_true, true_and, and_self, or_self, b10_0, b10_1, b01_0, b01_1, b10_o, b01_o, or_true, true_or, or_false, false_or, and_false, false_and, eq_self, Nat.reduceEqDiff, b_em, b_me, ly_m, Nat.reduceLT, Nat.reduceLeDiff, Nat.reduceAdd, Nat.reduceMul, Nat.reduceSub, Bool.false_eq_true, Nat.not_lt_zero]
        have hinv := pathB_inv (D := dF b s f) (many := l + 1) B (by omega) hfN hg0
        refine fix_up (fun i => (nI (pathB b (dF b s f) (l + 1) f i), nI (i + 1))) (if k < l then k else l) (fun i hi self2 => ?_) (fun self2 => ?_) (by split <;> omega)
        · have hik : i < k ∧ i < l := by split at hi <;> omega
          obtain ⟨p1, p2⟩ := hinv i (by omega)
          obtain ⟨p3, p4⟩ := hinv (i + 1) (by omega)
          have hE := wf_E2 B p1
          have p5 := gI_hi (D := dF b s f) (k := l + 1 - 1 - i) B (by omega) p1
          unfold f_X12_best_L174
          have hdue := c2 (l + 1 - 1 - (i + 1) + 1) (by omega) _ p1
          simp (disch := omega) only [gr_text H, gr_told H, gr_draft H, gr_s H, gr_past H, gr_images H, gr_notes H, gr_levels H, gr_row H, gr_reach H, gr_gains H, gr_line H, gr_rows H, gr_next H, gr_held H, al_text, al_told, al_draft, al_s, al_past, al_images, al_notes, al_levels, al_row, al_reach, al_gains, al_line, al_rows, al_next, al_held, as_text, as_told, as_draft, as_s, as_past, as_images, as_notes, as_levels, as_row, as_reach, as_gains, as_line, as_rows, as_next, as_held, gi_typed, pi_typed, gi_known, pi_known, gi_kept, pi_kept, gi_noted, pi_noted, gi_at, pi_at, gd_m, nb_lit, nI_add, nb_sub, pk_mul, nb_lt, nb_le, nb_eq, nb_and, nb_or, nb_xor, nb_shl, nb_shl2, Option.bind_some, Option.some.injEq, Prod.mk.injEq, nI_pos, if_true, if_false, ite_true, ite_false, not_true_eq_false, not_false_eq_true, and_true, true_and, and_self, or_self, b10_0, b10_1, b01_0, b01_1, b10_o, b01_o, or_true, true_or, or_false, false_or, and_false, false_and, eq_self, Nat.reduceEqDiff, b_em, b_me, ly_m, Nat.reduceLT, Nat.reduceLeDiff, Nat.reduceAdd, Nat.reduceMul, Nat.reduceSub, Bool.false_eq_true, Nat.not_lt_zero, hdue]
          rw [if_neg (show ¬ k < i + 1 by omega), if_neg (show ¬ l ≤ i by omega)]
          obtain ⟨q1, q2⟩ := fst_spec (fun y => (bE b (pathB b (dF b s f) (l + 1) f i)).testBit y && decide (gI b (dF b s f) (l + 1 - 1 - (i + 1)) y + bW b y = gI b (dF b s f) (l + 1 - 1 - (i + 1) + 1) (pathB b (dF b s f) (l + 1) f i))) (bN b)
          have e : pathB b (dF b s f) (l + 1) f (i + 1) = fst (fun y => (bE b (pathB b (dF b s f) (l + 1) f i)).testBit y && decide (gI b (dF b s f) (l + 1 - 1 - (i + 1)) y + bW b y = gI b (dF b s f) (l + 1 - 1 - (i + 1) + 1) (pathB b (dF b s f) (l + 1) f i))) (bN b) := rfl
          rw [← e] at q1 q2
          have p6 : l + 1 - 1 - i = l + 1 - 1 - (i + 1) + 1 := by omega
          rw [p6] at p2 p5
          refine fix_up (fun z => nI z) (pathB b (dF b s f) (l + 1) f (i + 1)) (fun z hz self3 => ?_) (fun self3 => ?_) (by omega)
          · have hzN : z < bN b := (q2 z hz).1
            have hzf := (q2 z hz).2
            have w1 := gI_lo (D := dF b s f) (k := l + 1 - 1 - (i + 1)) B hzN
            have w2 := gI_hi (D := dF b s f) (k := l + 1 - 1 - (i + 1)) B (by omega) hzN
            have w3 := wf_W B hzN
            have hg := c2 (l + 1 - 1 - (i + 1)) (by omega) z hzN
            unfold f_X12_best_L216
            simp (disch := omega) only [gr_text H, gr_told H, gr_draft H, gr_s H, gr_past H, gr_images H, gr_notes H, gr_levels H, gr_row H, gr_reach H, gr_gains H, gr_line H, gr_rows H, gr_next H, gr_held H, al_text, al_told, al_draft, al_s, al_past, al_images, al_notes, al_levels, al_row, al_reach, al_gains, al_line, al_rows, al_next, al_held, as_text, as_told, as_draft, as_s, as_past, as_images, as_notes, as_levels, as_row, as_reach, as_gains, as_line, as_rows, as_next, as_held, gi_typed, pi_typed, gi_known, pi_known, gi_kept, pi_kept, gi_noted, pi_noted, gi_at, pi_at, gd_m, to_E T4 p1, to_W T4 hzN, mb_has, hg, iI_add, iI_eq, nb_lit, nI_add, nb_sub, pk_mul, nb_lt, nb_le, nb_eq, nb_and, nb_or, nb_xor, nb_shl, nb_shl2, Option.bind_some, Option.some.injEq, Prod.mk.injEq, nI_pos, if_true, if_false, ite_true, ite_false, not_true_eq_false, not_false_eq_true, and_true, true_and, and_self, or_self, b10_0, b10_1, b01_0, b01_1, b10_o, b01_o, or_true, true_or, or_false, false_or, and_false, false_and, eq_self, Nat.reduceEqDiff, b_em, b_me, ly_m, Nat.reduceLT, Nat.reduceLeDiff, Nat.reduceAdd, Nat.reduceMul, Nat.reduceSub, Bool.false_eq_true, Nat.not_lt_zero]
            by_cases t1 : (bE b (pathB b (dF b s f) (l + 1) f i)).testBit z = true
            · have t2 : ¬ gI b (dF b s f) (l + 1 - 1 - (i + 1)) z + ↑(bW b z) = gI b (dF b s f) (l + 1 - 1 - (i + 1) + 1) (pathB b (dF b s f) (l + 1) f i) := by
                intro t2
                simp only [t1, t2, decide_true, Bool.and_self] at hzf
                exact absurd hzf (by decide)
              simp only [t1, t2, nb_lit, nI_add, nb_sub, pk_mul, nb_lt, nb_le, nb_eq, nb_and, nb_or, nb_xor, nb_shl, nb_shl2, Option.bind_some, Option.some.injEq, Prod.mk.injEq, nI_pos, if_true, if_false, ite_true, ite_false, not_true_eq_false, not_false_eq_true, and_true, true_and, and_self, or_self, b10_0, b10_1, b01_0, b01_1, b10_o, b01_o, or_true, true_or, or_false, false_or, and_false, false_and, eq_self, Nat.reduceEqDiff, b_em, b_me, ly_m, Nat.reduceLT, Nat.reduceLeDiff, Nat.reduceAdd, Nat.reduceMul, Nat.reduceSub, Bool.false_eq_true, Nat.not_lt_zero]
            · simp only [t1, nb_lit, nI_add, nb_sub, pk_mul, nb_lt, nb_le, nb_eq, nb_and, nb_or, nb_xor, nb_shl, nb_shl2, Option.bind_some, Option.some.injEq, Prod.mk.injEq, nI_pos, if_true, if_false, ite_true, ite_false, not_true_eq_false, not_false_eq_true, and_true, true_and, and_self, or_self, b10_0, b10_1, b01_0, b01_1, b10_o, b01_o, or_true, true_or, or_false, false_or, and_false, false_and, eq_self, Nat.reduceEqDiff, b_em, b_me, ly_m, Nat.reduceLT, Nat.reduceLeDiff, Nat.reduceAdd, Nat.reduceMul, Nat.reduceSub, Bool.false_eq_true, Nat.not_lt_zero]
          · have hzf : (bE b (pathB b (dF b s f) (l + 1) f i)).testBit (pathB b (dF b s f) (l + 1) f (i + 1)) = true ∧ gI b (dF b s f) (l + 1 - 1 - (i + 1)) (pathB b (dF b s f) (l + 1) f (i + 1)) + bW b (pathB b (dF b s f) (l + 1) f (i + 1)) = gI b (dF b s f) (l + 1 - 1 - (i + 1) + 1) (pathB b (dF b s f) (l + 1) f i) := by
              rcases q1 with q1 | q1
              · omega
              · simpa only [Bool.and_eq_true, decide_eq_true_eq] using q1.2
            have w1 := gI_lo (D := dF b s f) (k := l + 1 - 1 - (i + 1)) B p3
            have w2 := gI_hi (D := dF b s f) (k := l + 1 - 1 - (i + 1)) B (by omega) p3
            have w3 := wf_W B p3
            have hg := c2 (l + 1 - 1 - (i + 1)) (by omega) _ p3
            unfold f_X12_best_L216
            simp (disch := omega) only [gr_text H, gr_told H, gr_draft H, gr_s H, gr_past H, gr_images H, gr_notes H, gr_levels H, gr_row H, gr_reach H, gr_gains H, gr_line H, gr_rows H, gr_next H, gr_held H, al_text, al_told, al_draft, al_s, al_past, al_images, al_notes, al_levels, al_row, al_reach, al_gains, al_line, al_rows, al_next, al_held, as_text, as_told, as_draft, as_s, as_past, as_images, as_notes, as_levels, as_row, as_reach, as_gains, as_line, as_rows, as_next, as_held, gi_typed, pi_typed, gi_known, pi_known, gi_kept, pi_kept, gi_noted, pi_noted, gi_at, pi_at, gd_m, to_E T4 p1, to_W T4 p3, mb_has, hg, iI_add, iI_eq, hzf, nb_lit, nI_add, nb_sub, pk_mul, nb_lt, nb_le, nb_eq, nb_and, nb_or, nb_xor, nb_shl, nb_shl2, Option.bind_some, Option.some.injEq, Prod.mk.injEq, nI_pos, if_true, if_false, ite_true, ite_false, not_true_eq_false, not_false_eq_true, and_true, true_and, and_self, or_self, b10_0, b10_1, b01_0, b01_1, b10_o, b01_o, or_true, true_or, or_false, false_or, and_false, false_and, eq_self, Nat.reduceEqDiff, b_em, b_me, ly_m, Nat.reduceLT, Nat.reduceLeDiff, Nat.reduceAdd, Nat.reduceMul, Nat.reduceSub, Bool.false_eq_true, Nat.not_lt_zero]
        · unfold f_X12_best_L174
          by_cases hkl : l + 1 ≤ k
          · rw [if_neg (show ¬ k < l by omega)]
            simp (disch := omega) only [nb_lit, nI_add, nb_sub, pk_mul, nb_lt, nb_le, nb_eq, nb_and, nb_or, nb_xor, nb_shl, nb_shl2, Option.bind_some, Option.some.injEq, Prod.mk.injEq, nI_pos, if_true, if_false, ite_true, ite_false, not_true_eq_false, not_false_eq_true, and_true, true_and, and_self, or_self, b10_0, b10_1, b01_0, b01_1, b10_o, b01_o, or_true, true_or, or_false, false_or, and_false, false_and, eq_self, Nat.reduceEqDiff, b_em, b_me, ly_m, Nat.reduceLT, Nat.reduceLeDiff, Nat.reduceAdd, Nat.reduceMul, Nat.reduceSub, Bool.false_eq_true, Nat.not_lt_zero, Nat.le_refl, hkl, ite_self]
          · by_cases hkl2 : k < l
            · rw [if_pos hkl2]
              simp (disch := omega) only [nb_lit, nI_add, nb_sub, pk_mul, nb_lt, nb_le, nb_eq, nb_and, nb_or, nb_xor, nb_shl, nb_shl2, Option.bind_some, Option.some.injEq, Prod.mk.injEq, nI_pos, if_true, if_false, ite_true, ite_false, not_true_eq_false, not_false_eq_true, and_true, true_and, and_self, or_self, b10_0, b10_1, b01_0, b01_1, b10_o, b01_o, or_true, true_or, or_false, false_or, and_false, false_and, eq_self, Nat.reduceEqDiff, b_em, b_me, ly_m, Nat.reduceLT, Nat.reduceLeDiff, Nat.reduceAdd, Nat.reduceMul, Nat.reduceSub, Bool.false_eq_true, Nat.not_lt_zero, hkl, show (k < k + 1) = True from eq_true (by omega)]
            · have : k = l := by omega
              subst this
              rw [if_neg hkl2]
              simp (disch := omega) only [nb_lit, nI_add, nb_sub, pk_mul, nb_lt, nb_le, nb_eq, nb_and, nb_or, nb_xor, nb_shl, nb_shl2, Option.bind_some, Option.some.injEq, Prod.mk.injEq, nI_pos, if_true, if_false, ite_true, ite_false, not_true_eq_false, not_false_eq_true, and_true, true_and, and_self, or_self, b10_0, b10_1, b01_0, b01_1, b10_o, b01_o, or_true, true_or, or_false, false_or, and_false, false_and, eq_self, Nat.reduceEqDiff, b_em, b_me, ly_m, Nat.reduceLT, Nat.reduceLeDiff, Nat.reduceAdd, Nat.reduceMul, Nat.reduceSub, Bool.false_eq_true, Nat.not_lt_zero, hkl, show (k < k + 1) = True from eq_true (by omega)]
      · rw [if_neg hy0]
        refine ⟨m1, ?_, R.same (fun a h1 h2 => g2 a (by omega) (by omega) (by omega)), fun a ha => g2 a (by omega) (by omega) (by omega)⟩
        by_cases hm : y = -1
        · subst hm
          rfl
        · have hm2 : y = -2 := by
            have h1 : ¬ y < -2 := fun z => hy (Or.inl z)
            have h2 : ¬ (0 : Int32) ≤ y := hy0
            rw [Int32.lt_iff_toInt_lt] at h1
            rw [Int32.le_iff_toInt_le] at h2
            have e0 : (0 : Int32).toInt = 0 := by decide
            have e1 : (-1 : Int32).toInt = -1 := by decide
            have e2 : (-2 : Int32).toInt = -2 := by decide
            have h3 : ¬ y.toInt = -1 := fun z => hm (Int32.toInt_inj.mp (by omega))
            exact Int32.toInt_inj.mp (by omega)
          subst hm2
          rfl
  · simp (disch := omega) only [iI_m1]
    have e : nI (n - 1) = iI ((n : Int) - 1 - (0 : Nat)) := by rw [iI_n]; congr 1; omega
    rw [e]
theorem mc_best_bad (R : RelM m A) {x y : Int32} (h : (x < 1 ∨ 10 < x) ∨ (y < -2 ∨ 9 < y)) : MOk (f_X12_best 114 x y (130, m, r)) m r (-1) A := by
  unfold f_X12_best
  rw [mb_in, mb_in]
  refine MOk.mk0 R ?_
  by_cases hx : x < 1 ∨ 10 < x
  · rw [if_pos hx]
    simp (disch := omega) only [nb_lit, nI_add, nb_sub, pk_mul, nb_lt, nb_le, nb_eq, nb_and, nb_or, nb_xor, nb_shl, nb_shl2, Option.bind_some, Option.some.injEq, Prod.mk.injEq, nI_pos, if_true, if_false, ite_true, ite_false, not_true_eq_false, not_false_eq_true, and_true, true_and, and_self, or_self, b10_0, b10_1, b01_0, b01_1, b10_o, b01_o, or_true, true_or, or_false, false_or, and_false, false_and, eq_self, Nat.reduceEqDiff, b_em, b_me, ly_m, Nat.reduceLT, Nat.reduceLeDiff, Nat.reduceAdd, Nat.reduceMul, Nat.reduceSub, Bool.false_eq_true, Nat.not_lt_zero]
  · rw [if_neg hx, if_pos (h.resolve_left hx)]
    simp (disch := omega) only [nb_lit, nI_add, nb_sub, pk_mul, nb_lt, nb_le, nb_eq, nb_and, nb_or, nb_xor, nb_shl, nb_shl2, Option.bind_some, Option.some.injEq, Prod.mk.injEq, nI_pos, if_true, if_false, ite_true, ite_false, not_true_eq_false, not_false_eq_true, and_true, true_and, and_self, or_self, b10_0, b10_1, b01_0, b01_1, b10_o, b01_o, or_true, true_or, or_false, false_or, and_false, false_and, eq_self, Nat.reduceEqDiff, b_em, b_me, ly_m, Nat.reduceLT, Nat.reduceLeDiff, Nat.reduceAdd, Nat.reduceMul, Nat.reduceSub, Bool.false_eq_true, Nat.not_lt_zero]
end M11
