/-! guessed: the reference -/
def allB (p : Nat → Bool) : Nat → Bool
  | 0 => true
  | n + 1 => allB p n && p n
theorem allB_iff (p : Nat → Bool) (n : Nat) : allB p n = true ↔ ∀ i, i < n → p i = true := by
  induction n with
  | zero => simp [allB]
  | succ n ih =>
    unfold allB
    rw [Bool.and_eq_true, ih]
    constructor
    · rintro ⟨h1, h2⟩ i hi
      by_cases he : i = n
      · subst he; exact h2
      · exact h1 i (by omega)
    · intro h
      exact ⟨fun i hi => h i (by omega), h n (by omega)⟩
/-- one thing seen is so, if he knows just these -/
def okO (b : Bo) (set : Nat) (q : Nat × Nat) : Bool := decide ((0 < fmany b set q.1) ↔ (q.2 = 1))
def soB (b : Bo) (O : Nat × (Nat → Nat × Nat)) (set : Nat) : Bool := allB (fun k => okO b set (O.2 k)) O.1
def gsN (b : Bo) (O : Nat × (Nat → Nat × Nat)) : Nat → Nat × Nat × Nat
  | 0 => (0, aAll b, 0)
  | j + 1 => if soB b O j = true then ((gsN b O j).1 + 1, (gsN b O j).2.1 &&& j, (gsN b O j).2.2 ||| j) else gsN b O j
def gAns (q : Nat × Nat × Nat) (x : Int32) : Int32 := if x = 0 then nI q.1 else if q.1 = 0 then -4 else if x = 1 then nI q.2.1 else nI q.2.2
def v_guess (A : Ab) (x : Int32) : Int32 := if x < 0 ∨ 2 < x then -1 else gAns (gsN (aB A) (aO A) (2 ^ bN (aB A))) x
theorem gsN_le (b : Bo) (O : Nat × (Nat → Nat × Nat)) (j : Nat) : (gsN b O j).1 ≤ j := by
  induction j with
  | zero => exact Nat.le_refl 0
  | succ j ih =>
    unfold gsN
    split
    · show (gsN b O j).1 + 1 ≤ j + 1
      omega
    · omega
theorem gsN_any (b : Bo) (O : Nat × (Nat → Nat × Nat)) {n j : Nat} (h : j ≤ 2 ^ n) : (gsN b O j).2.2 < 2 ^ n := by
  induction j with
  | zero => exact Nat.two_pow_pos n
  | succ j ih =>
    unfold gsN
    split
    · exact or_lt (ih (by omega)) (by omega)
    · exact ih (by omega)
theorem nb_md (a d : Nat) : nI (a - a / d * d) = nI (a % d) := by
  congr 1
  exact Nat.sub_eq_of_eq_add (by rw [Nat.mul_comm]; exact (Nat.mod_add_div a d).symm)
theorem nb_andm1 (x : Int32) : x &&& -nI 1 = x := by
  apply Int32.toBitVec_inj.1
  have h1 : (-nI 1).toBitVec = BitVec.allOnes 32 := by decide
  show x.toBitVec &&& (-nI 1).toBitVec = x.toBitVec
  rw [h1, BitVec.and_allOnes]
section M14
variable {m : Nat → Nat → Int32} {r : Nat → Nat → Option Nat} {b : Bo} {s : St} {A : Ab}
theorem m_g39 (H : MR r) (T : TO (m 116) b) (B : WFb b) {O : Nat × (Nat → Nat × Nat)} (hO : O.1 ≤ 8 ∧ ∀ i, i < O.1 → (O.2 i).1 < bN b ∧ (O.2 i).2 < 2) (N : m 114 10 = nI O.1 ∧ ∀ i, i < O.1 → m 121 i = nI (2 * (O.2 i).1 + (O.2 i).2)) {l1 l2 l3 l4 : Int32} {set : Nat} (hs : set < 1024) {K : Int32 × Int32 × mx_Hp → Option (Int32 × mx_Hp)} : ∃ m' k', mx_fix (f_X12_guessed_L39 114 l1 l2 l3 l4 (nI set) K) 2000 (nI 1, nI 0, (130, m, r)) = K ((if soB b O set = true then nI 1 else nI 0), k', (130, m', r)) ∧ ∀ a, a ≠ 122 → a ≠ 123 → m' a = m a := by
  have hn := wf_N B
  refine fix_findS (fun i q => ∃ m' : Nat → Nat → Int32, q = ((if allB (fun k => okO b set (O.2 k)) i = true then nI 1 else nI 0), nI i, (130, m', r)) ∧ ∀ a, a ≠ 122 → a ≠ 123 → m' a = m a) O.1 (Q := fun o => ∃ m' k', o = K ((if soB b O set = true then nI 1 else nI 0), k', (130, m', r)) ∧ ∀ a, a ≠ 122 → a ≠ 123 → m' a = m a) ?_ ?_ (by omega) ⟨m, rfl, fun a _ _ => rfl⟩
  · rintro i q hi ⟨m1, rfl, g1⟩ self
    have e10 : m1 114 10 = nI O.1 := by rw [g1 114 (by decide) (by decide)]; exact N.1
    by_cases ha : allB (fun k => okO b set (O.2 k)) i = true
    · left
      have T1 : TO (m1 116) b := by rw [g1 116 (by decide) (by decide)]; exact T
      obtain ⟨hw, hc⟩ := hO.2 i hi
      have e21 : m1 121 i = nI (2 * (O.2 i).1 + (O.2 i).2) := by rw [g1 121 (by decide) (by decide)]; exact N.2 i hi
      obtain ⟨m2, j1, -, j3⟩ := m_fin H T1 B hs hw
      have e22 : m2 121 i = nI (2 * (O.2 i).1 + (O.2 i).2) := by rw [j3 121 (by decide) (by decide)]; exact e21
      have hf4 := (fmany_le (kn := set) (w := (O.2 i).1) B).1
      have hok : (allB (fun k => okO b set (O.2 k)) (i + 1) = true) ↔ ((0 < fmany b set (O.2 i).1) ↔ ((O.2 i).2 = 1)) := by
        show (allB (fun k => okO b set (O.2 k)) i && okO b set (O.2 i)) = true ↔ _
        rw [ha, Bool.true_and]
        simp only [okO, decide_eq_true_eq]
      refine ⟨((if allB (fun k => okO b set (O.2 k)) (i + 1) = true then nI 1 else nI 0), nI (i + 1), (130, m2, r)), ⟨m2, rfl, fun a h1 h2 => by rw [j3 a h1 h2, g1 a h1 h2]⟩, ?_⟩
      unfold f_X12_guessed_L39
      rw [if_pos ha]
      generalize hwe : (O.2 i).1 = w at *
      generalize hce : (O.2 i).2 = c at *
      have hdiv : (2 * w + c) / 2 = w := by omega
      simp (disch := omega) only [gr_text H, gr_told H, gr_draft H, gr_s H, gr_past H, gr_images H, gr_notes H, gr_levels H, gr_row H, gr_reach H, gr_gains H, gr_line H, gr_rows H, gr_next H, gr_held H, al_text, al_told, al_draft, al_s, al_past, al_images, al_notes, al_levels, al_row, al_reach, al_gains, al_line, al_rows, al_next, al_held, as_text, as_told, as_draft, as_s, as_past, as_images, as_notes, as_levels, as_row, as_reach, as_gains, as_line, as_rows, as_next, as_held, gi_typed, pi_typed, gi_known, pi_known, gi_kept, pi_kept, gi_noted, pi_noted, gi_at, pi_at, gd_m, e10, e21, nb_lit, Option.bind_some, nb_le, nb_eq, ly_m, and_self, Nat.reduceLT, if_true, if_false, pk_div, hdiv, j1, e22, nI_add, pk_mul, nb_sub, Nat.reduceEqDiff]
      rw [if_neg (by omega)]
      have hmod : 2 * w + c - w * 2 = c := by omega
      simp only [hmod]
      by_cases d1 : 0 < fmany b set w
      · by_cases d2 : c = 1
        · simp (disch := omega) only [nb_lit, nI_add, nb_sub, pk_mul, nb_lt, nb_le, nb_eq, nb_and, nb_or, nb_xor, nb_shl, nb_shl2, Option.bind_some, Option.some.injEq, Prod.mk.injEq, nI_pos, if_true, if_false, ite_true, ite_false, not_true_eq_false, not_false_eq_true, and_true, true_and, and_self, or_self, b10_0, b10_1, b01_0, b01_1, b10_o, b01_o, or_true, true_or, or_false, false_or, and_false, false_and, eq_self, Nat.reduceEqDiff, b_em, b_me, ly_m, Nat.reduceLT, Nat.reduceLeDiff, Nat.reduceAdd, Nat.reduceMul, Nat.reduceSub, Bool.false_eq_true, Nat.not_lt_zero, show (fmany b set w ≤ 0) = False from eq_false (by omega), d2, hok.mpr (iff_of_true d1 d2)]
        · simp (disch := omega) only [nb_lit, nI_add, nb_sub, pk_mul, nb_lt, nb_le, nb_eq, nb_and, nb_or, nb_xor, nb_shl, nb_shl2, Option.bind_some, Option.some.injEq, Prod.mk.injEq, nI_pos, if_true, if_false, ite_true, ite_false, not_true_eq_false, not_false_eq_true, and_true, true_and, and_self, or_self, b10_0, b10_1, b01_0, b01_1, b10_o, b01_o, or_true, true_or, or_false, false_or, and_false, false_and, eq_self, Nat.reduceEqDiff, b_em, b_me, ly_m, Nat.reduceLT, Nat.reduceLeDiff, Nat.reduceAdd, Nat.reduceMul, Nat.reduceSub, Bool.false_eq_true, Nat.not_lt_zero, show (fmany b set w ≤ 0) = False from eq_false (by omega), d2, show ¬ allB (fun k => okO b set (O.2 k)) (i + 1) = true from fun z => d2 ((hok.mp z).mp d1)]
      · by_cases d2 : c = 1
        · simp (disch := omega) only [nb_lit, nI_add, nb_sub, pk_mul, nb_lt, nb_le, nb_eq, nb_and, nb_or, nb_xor, nb_shl, nb_shl2, Option.bind_some, Option.some.injEq, Prod.mk.injEq, nI_pos, if_true, if_false, ite_true, ite_false, not_true_eq_false, not_false_eq_true, and_true, true_and, and_self, or_self, b10_0, b10_1, b01_0, b01_1, b10_o, b01_o, or_true, true_or, or_false, false_or, and_false, false_and, eq_self, Nat.reduceEqDiff, b_em, b_me, ly_m, Nat.reduceLT, Nat.reduceLeDiff, Nat.reduceAdd, Nat.reduceMul, Nat.reduceSub, Bool.false_eq_true, Nat.not_lt_zero, show (fmany b set w ≤ 0) = True from eq_true (by omega), d2, show ¬ allB (fun k => okO b set (O.2 k)) (i + 1) = true from fun z => d1 ((hok.mp z).mpr d2)]
        · simp (disch := omega) only [nb_lit, nI_add, nb_sub, pk_mul, nb_lt, nb_le, nb_eq, nb_and, nb_or, nb_xor, nb_shl, nb_shl2, Option.bind_some, Option.some.injEq, Prod.mk.injEq, nI_pos, if_true, if_false, ite_true, ite_false, not_true_eq_false, not_false_eq_true, and_true, true_and, and_self, or_self, b10_0, b10_1, b01_0, b01_1, b10_o, b01_o, or_true, true_or, or_false, false_or, and_false, false_and, eq_self, Nat.reduceEqDiff, b_em, b_me, ly_m, Nat.reduceLT, Nat.reduceLeDiff, Nat.reduceAdd, Nat.reduceMul, Nat.reduceSub, Bool.false_eq_true, Nat.not_lt_zero, show (fmany b set w ≤ 0) = True from eq_true (by omega), d2, hok.mpr (iff_of_false d1 d2)]
    · right
      have hso : ¬ soB b O set = true := by
        unfold soB
        rw [allB_iff]
        rw [allB_iff] at ha
        exact fun z => ha (fun j hj => z j (by omega))
      refine ⟨m1, nI i, ?_, g1⟩
      rw [if_neg hso]
      unfold f_X12_guessed_L39
      rw [if_neg ha]
      simp (disch := omega) only [gr_text H, gr_told H, gr_draft H, gr_s H, gr_past H, gr_images H, gr_notes H, gr_levels H, gr_row H, gr_reach H, gr_gains H, gr_line H, gr_rows H, gr_next H, gr_held H, al_text, al_told, al_draft, al_s, al_past, al_images, al_notes, al_levels, al_row, al_reach, al_gains, al_line, al_rows, al_next, al_held, as_text, as_told, as_draft, as_s, as_past, as_images, as_notes, as_levels, as_row, as_reach, as_gains, as_line, as_rows, as_next, as_held, gi_typed, pi_typed, gi_known, pi_known, gi_kept, pi_kept, gi_noted, pi_noted, gi_at, pi_at, gd_m, e10, nb_lit, nI_add, nb_sub, pk_mul, nb_lt, nb_le, nb_eq, nb_and, nb_or, nb_xor, nb_shl, nb_shl2, Option.bind_some, Option.some.injEq, Prod.mk.injEq, nI_pos, if_true, if_false, ite_true, ite_false, not_true_eq_false, not_false_eq_true, and_true, true_and, and_self, or_self, b10_0, b10_1, b01_0, b01_1, b10_o, b01_o, or_true, true_or, or_false, false_or, and_false, false_and, eq_self, Nat.reduceEqDiff, b_em, b_me, ly_m, Nat.reduceLT, Nat.reduceLeDiff, Nat.reduceAdd, Nat.reduceMul, Nat.reduceSub, Bool.false_eq_true, Nat.not_lt_zero]
      rw [if_neg (by omega)]
  · rintro q ⟨m1, rfl, g1⟩ self
    have e10 : m1 114 10 = nI O.1 := by rw [g1 114 (by decide) (by decide)]; exact N.1
    refine ⟨m1, nI O.1, ?_, g1⟩
    unfold f_X12_guessed_L39
    simp (disch := omega) only [gr_text H, gr_told H, gr_draft H, gr_s H, gr_past H, gr_images H, gr_notes H, gr_levels H, gr_row H, gr_reach H, gr_gains H, gr_line H, gr_rows H, gr_next H, gr_held H, al_text, al_told, al_draft, al_s, al_past, al_images, al_notes, al_levels, al_row, al_reach, al_gains, al_line, al_rows, al_next, al_held, as_text, as_told, as_draft, as_s, as_past, as_images, as_notes, as_levels, as_row, as_reach, as_gains, as_line, as_rows, as_next, as_held, gi_typed, pi_typed, gi_known, pi_known, gi_kept, pi_kept, gi_noted, pi_noted, gi_at, pi_at, gd_m, e10, nb_lit, Option.bind_some, nb_le]
    rw [if_pos (by omega)]
    rfl
theorem mc_guess (H : MR r) (R : RelM m A) (W : WFa A) (x : Int32) : MOk (f_X12_guessed 114 x (130, m, r)) m r (v_guess A x) A := by
  obtain ⟨r1, T, S, r4, r5, r6⟩ := id R
  have B := W.2.1
  have hn := wf_N B
  have hO := W.2.2.2.2.2
  unfold f_X12_guessed v_guess
  rw [mb_in]
  by_cases hx : x < 0 ∨ 2 < x
  · rw [if_pos hx, if_pos hx]
    refine MOk.mk0 R ?_
    simp (disch := omega) only [nb_lit, nI_add, nb_sub, pk_mul, nb_lt, nb_le, nb_eq, nb_and, nb_or, nb_xor, nb_shl, nb_shl2, Option.bind_some, Option.some.injEq, Prod.mk.injEq, nI_pos, if_true, if_false, ite_true, ite_false, not_true_eq_false, not_false_eq_true, and_true, true_and, and_self, or_self, b10_0, b10_1, b01_0, b01_1, b10_o, b01_o, or_true, true_or, or_false, false_or, and_false, false_and, eq_self, Nat.reduceEqDiff, b_em, b_me, ly_m, Nat.reduceLT, Nat.reduceLeDiff, Nat.reduceAdd, Nat.reduceMul, Nat.reduceSub, Bool.false_eq_true, Nat.not_lt_zero]
  · rw [if_neg hx, if_neg hx]
    have hA := aAll_lt B
    have h2p : 2 ^ bN (aB A) = aAll (aB A) + 1 := by
      have := Nat.one_le_two_pow (n := bN (aB A))
      unfold aAll
      omega
    simp (disch := omega) only [m_all H T B, nb_lit, nI_add, nb_sub, pk_mul, nb_lt, nb_le, nb_eq, nb_and, nb_or, nb_xor, nb_shl, nb_shl2, Option.bind_some, Option.some.injEq, Prod.mk.injEq, nI_pos, if_true, if_false, ite_true, ite_false, not_true_eq_false, not_false_eq_true, and_true, true_and, and_self, or_self, b10_0, b10_1, b01_0, b01_1, b10_o, b01_o, or_true, true_or, or_false, false_or, and_false, false_and, eq_self, Nat.reduceEqDiff, b_em, b_me, ly_m, Nat.reduceLT, Nat.reduceLeDiff, Nat.reduceAdd, Nat.reduceMul, Nat.reduceSub, Bool.false_eq_true, Nat.not_lt_zero]
    generalize hbe : aB A = b at *
    generalize hoe : aO A = O at *
    refine fix_relS (fun i q => ∃ m' : Nat → Nat → Int32, q = (nI (gsN b O i).1, nI (gsN b O i).2.1, nI (gsN b O i).2.2, nI i, (130, m', r)) ∧ ∀ a, a ≠ 122 → a ≠ 123 → m' a = m a) (2 ^ bN b) (Q := fun o => MOk o m r (gAns (gsN b O (2 ^ bN b)) x) A) ?_ ?_ (by omega) ⟨m, rfl, fun a _ _ => rfl⟩
    · rintro i q hi ⟨m1, rfl, g1⟩ self
      have T1 : TO (m1 116) b := by rw [g1 116 (by decide) (by decide)]; exact T
      have N1 : m1 114 10 = nI O.1 ∧ ∀ i, i < O.1 → m1 121 i = nI (2 * (O.2 i).1 + (O.2 i).2) := by rw [g1 114 (by decide) (by decide), g1 121 (by decide) (by decide)]; exact r6
      obtain ⟨m2, k', j1, j2⟩ := @m_g39 m1 r b H T1 B O hO N1 x (nI (gsN b O i).1) (nI (gsN b O i).2.1) (nI (gsN b O i).2.2) i (by omega) (fun s42 => (if s42.1 = nI 0 then some (nI 0) else some (nI 1) : Option (Int32)).bind fun v44 => (if s42.1 = nI 0 then some (-nI 1) else some (nI i) : Option (Int32)).bind fun v46 => (if s42.1 = nI 0 then some (nI 0) else some (nI i) : Option (Int32)).bind fun v48 => self ((nI (gsN b O i).1 + v44), (nI (gsN b O i).2.1 &&& v46), (nI (gsN b O i).2.2 ||| v48), (nI i + nI 1), s42.2.2))
      refine ⟨(nI (gsN b O (i + 1)).1, nI (gsN b O (i + 1)).2.1, nI (gsN b O (i + 1)).2.2, nI (i + 1), (130, m2, r)), ⟨m2, rfl, fun a h1 h2 => by rw [j2 a h1 h2, g1 a h1 h2]⟩, ?_⟩
      unfold f_X12_guessed_L24
      simp (disch := omega) only [m_all H T1 B, nb_lit, Option.bind_some, nb_lt, ly_m, and_self, Nat.reduceLT, if_true]
      rw [if_neg (by omega), j1]
      by_cases hso : soB b O i = true
      · simp (disch := omega) only [hso, gsN, nb_lit, nI_add, nb_sub, pk_mul, nb_lt, nb_le, nb_eq, nb_and, nb_or, nb_xor, nb_shl, nb_shl2, Option.bind_some, Option.some.injEq, Prod.mk.injEq, nI_pos, if_true, if_false, ite_true, ite_false, not_true_eq_false, not_false_eq_true, and_true, true_and, and_self, or_self, b10_0, b10_1, b01_0, b01_1, b10_o, b01_o, or_true, true_or, or_false, false_or, and_false, false_and, eq_self, Nat.reduceEqDiff, b_em, b_me, ly_m, Nat.reduceLT, Nat.reduceLeDiff, Nat.reduceAdd, Nat.reduceMul, Nat.reduceSub, Bool.false_eq_true, Nat.not_lt_zero]
      · simp (disch := omega) only [hso, gsN, nb_lit, nI_add, nb_sub, pk_mul, nb_lt, nb_le, nb_eq, nb_and, nb_or, nb_xor, nb_shl, nb_shl2, Option.bind_some, Option.some.injEq, Prod.mk.injEq, nI_pos, if_true, if_false, ite_true, ite_false, not_true_eq_false, not_false_eq_true, and_true, true_and, and_self, or_self, b10_0, b10_1, b01_0, b01_1, b10_o, b01_o, or_true, true_or, or_false, false_or, and_false, false_and, eq_self, Nat.reduceEqDiff, b_em, b_me, ly_m, Nat.reduceLT, Nat.reduceLeDiff, Nat.reduceAdd, Nat.reduceMul, Nat.reduceSub, Bool.false_eq_true, Nat.not_lt_zero, nb_andm1, Nat.add_zero, Nat.or_zero]
    · rintro q ⟨m1, rfl, g1⟩ self
      have T1 : TO (m1 116) b := by rw [g1 116 (by decide) (by decide)]; exact T
      have hgl := gsN_le b O (2 ^ bN b)
      refine ⟨m1, ?_, R.same (fun a h1 h2 => g1 a (by omega) (by omega)), fun a ha => g1 a (by omega) (by omega)⟩
      unfold f_X12_guessed_L24 gAns
      simp (disch := omega) only [m_all H T1 B, nb_lit, Option.bind_some, nb_lt, ly_m, and_self, Nat.reduceLT, if_true]
      rw [if_pos (by omega)]
      by_cases d1 : x = nI 0
      · simp (disch := omega) only [d1, nb_lit, nI_add, nb_sub, pk_mul, nb_lt, nb_le, nb_eq, nb_and, nb_or, nb_xor, nb_shl, nb_shl2, Option.bind_some, Option.some.injEq, Prod.mk.injEq, nI_pos, if_true, if_false, ite_true, ite_false, not_true_eq_false, not_false_eq_true, and_true, true_and, and_self, or_self, b10_0, b10_1, b01_0, b01_1, b10_o, b01_o, or_true, true_or, or_false, false_or, and_false, false_and, eq_self, Nat.reduceEqDiff, b_em, b_me, ly_m, Nat.reduceLT, Nat.reduceLeDiff, Nat.reduceAdd, Nat.reduceMul, Nat.reduceSub, Bool.false_eq_true, Nat.not_lt_zero]
      · by_cases d2 : (gsN b O (2 ^ bN b)).1 = 0
        · simp (disch := omega) only [d1, d2, nb_lit, nI_add, nb_sub, pk_mul, nb_lt, nb_le, nb_eq, nb_and, nb_or, nb_xor, nb_shl, nb_shl2, Option.bind_some, Option.some.injEq, Prod.mk.injEq, nI_pos, if_true, if_false, ite_true, ite_false, not_true_eq_false, not_false_eq_true, and_true, true_and, and_self, or_self, b10_0, b10_1, b01_0, b01_1, b10_o, b01_o, or_true, true_or, or_false, false_or, and_false, false_and, eq_self, Nat.reduceEqDiff, b_em, b_me, ly_m, Nat.reduceLT, Nat.reduceLeDiff, Nat.reduceAdd, Nat.reduceMul, Nat.reduceSub, Bool.false_eq_true, Nat.not_lt_zero]
        · by_cases d3 : x = nI 1
          · simp (disch := omega) only [d2, d3, nb_lit, nI_add, nb_sub, pk_mul, nb_lt, nb_le, nb_eq, nb_and, nb_or, nb_xor, nb_shl, nb_shl2, Option.bind_some, Option.some.injEq, Prod.mk.injEq, nI_pos, if_true, if_false, ite_true, ite_false, not_true_eq_false, not_false_eq_true, and_true, true_and, and_self, or_self, b10_0, b10_1, b01_0, b01_1, b10_o, b01_o, or_true, true_or, or_false, false_or, and_false, false_and, eq_self, Nat.reduceEqDiff, b_em, b_me, ly_m, Nat.reduceLT, Nat.reduceLeDiff, Nat.reduceAdd, Nat.reduceMul, Nat.reduceSub, Bool.false_eq_true, Nat.not_lt_zero]
          · simp (disch := omega) only [d1, d2, d3, nb_lit, nI_add, nb_sub, pk_mul, nb_lt, nb_le, nb_eq, nb_and, nb_or, nb_xor, nb_shl, nb_shl2, Option.bind_some, Option.some.injEq, Prod.mk.injEq, nI_pos, if_true, if_false, ite_true, ite_false, not_true_eq_false, not_false_eq_true, and_true, true_and, and_self, or_self, b10_0, b10_1, b01_0, b01_1, b10_o, b01_o, or_true, true_or, or_false, false_or, and_false, false_and, eq_self, Nat.reduceEqDiff, b_em, b_me, ly_m, Nat.reduceLT, Nat.reduceLeDiff, Nat.reduceAdd, Nat.reduceMul, Nat.reduceSub, Bool.false_eq_true, Nat.not_lt_zero]
end M14
