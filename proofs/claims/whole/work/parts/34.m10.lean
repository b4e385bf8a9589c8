/-! the best sentence: the reference -/
def iI (a : Int) : Int32 := Int32.ofInt a
theorem iI_toInt {a : Int} (h1 : -10000 ≤ a) (h2 : a ≤ 10000) : (iI a).toInt = a := Int32.toInt_ofInt_of_le (by omega) (by omega)
theorem iI_add {a : Int} {c : Nat} : iI a + nI c = iI (a + c) := by
  show Int32.ofInt a + Int32.ofInt c = _
  rw [← Int32.ofInt_add]
  rfl
theorem iI_le {a c : Int} (h1 : -10000 ≤ a) (h2 : a ≤ 10000) (h3 : -10000 ≤ c) (h4 : c ≤ 10000) : iI a ≤ iI c ↔ a ≤ c := by
  rw [Int32.le_iff_toInt_le, iI_toInt h1 h2, iI_toInt h3 h4]
theorem iI_lt {a c : Int} (h1 : -10000 ≤ a) (h2 : a ≤ 10000) (h3 : -10000 ≤ c) (h4 : c ≤ 10000) : iI a < iI c ↔ a < c := by
  rw [Int32.lt_iff_toInt_lt, iI_toInt h1 h2, iI_toInt h3 h4]
theorem iI_eq {a c : Int} (h1 : -10000 ≤ a) (h2 : a ≤ 10000) (h3 : -10000 ≤ c) (h4 : c ≤ 10000) : iI a = iI c ↔ a = c := by
  rw [← Int32.toInt_inj, iI_toInt h1 h2, iI_toInt h3 h4]
theorem iI_nev : -nI 9999 = iI (-9999) := by decide
theorem iI_m1 : -nI 1 = iI (-1) := by decide
theorem iI_n (c : Nat) : nI c = iI c := rfl
def gfold (f : Nat → Int) (i : Int) : Nat → Int
  | 0 => i
  | n + 1 => if f n ≤ gfold f i n then gfold f i n else f n
def gI (b : Bo) (D : Nat) : Nat → Nat → Int
  | 0, x => gfold (fun _ => -9999) (if bK b x = 2 then 0 else -9999) (bN b)
  | k + 1, x => gfold (fun y => if D.testBit x = false ∧ (bE b x).testBit y = true then gI b D k y + bW b y else -9999) (-9999) (bN b)
theorem gfold_le {f : Nat → Int} {i M : Int} (hi : i ≤ M) {n : Nat} (h : ∀ y, y < n → f y ≤ M) : gfold f i n ≤ M := by
  induction n with
  | zero => exact hi
  | succ n ih =>
    unfold gfold
    split
    · exact ih (fun y hy => h y (by omega))
    · exact h n (by omega)
theorem gfold_ge {f : Nat → Int} {i : Int} {n : Nat} : i ≤ gfold f i n := by
  induction n with
  | zero => exact Int.le_refl i
  | succ n ih =>
    unfold gfold
    split
    · exact ih
    · omega
theorem gfold_ub {f : Nat → Int} {i : Int} {n y : Nat} (hy : y < n) : f y ≤ gfold f i n := by
  induction n with
  | zero => omega
  | succ n ih =>
    unfold gfold
    by_cases he : y = n
    · subst he
      split
      · assumption
      · omega
    · have := ih (by omega)
      split
      · exact this
      · omega
theorem gfold_att {f : Nat → Int} {i : Int} {n : Nat} : gfold f i n = i ∨ ∃ y, y < n ∧ f y = gfold f i n := by
  induction n with
  | zero => exact Or.inl rfl
  | succ n ih =>
    unfold gfold
    split
    · rcases ih with h | ⟨y, h1, h2⟩
      · exact Or.inl h
      · exact Or.inr ⟨y, by omega, h2⟩
    · exact Or.inr ⟨n, by omega, rfl⟩
section M10
variable {m : Nat → Nat → Int32} {r : Nat → Nat → Option Nat} {b : Bo} {s : St} {D w L : Nat} {A : Ab}
theorem gI_0 {x : Nat} : gI b D 0 x = if bK b x = 2 then 0 else -9999 := by
  unfold gI
  have h1 := @gfold_ge (fun _ => -9999) (if bK b x = 2 then 0 else -9999) (bN b)
  have h2 := @gfold_le (fun _ => -9999) (if bK b x = 2 then 0 else -9999) (if bK b x = 2 then 0 else -9999) (Int.le_refl _) (bN b) (fun y hy => by split <;> decide)
  omega
theorem gI_bd (B : WFb b) : ∀ k x, x < bN b → -9999 ≤ gI b D k x ∧ (gI b D k x ≤ -9999 + 9 * k ∨ (0 ≤ gI b D k x ∧ gI b D k x ≤ 9 * k)) := by
  intro k
  induction k with
  | zero =>
    intro x hx
    rw [gI_0]
    split <;> omega
  | succ k ih =>
    intro x hx
    unfold gI
    refine ⟨gfold_ge, ?_⟩
    rcases @gfold_att (fun y => if D.testBit x = false ∧ (bE b x).testBit y = true then gI b D k y + bW b y else -9999) (-9999) (bN b) with h | ⟨y, h1, h2⟩
    · rw [h]; left; omega
    · rw [← h2]
      have h3 := ih y h1
      have h4 := wf_W B h1
      split
      · omega
      · left; omega
theorem gI_lo (B : WFb b) {k x : Nat} (hx : x < bN b) : -9999 ≤ gI b D k x := (gI_bd B k x hx).1
theorem gI_hi (B : WFb b) {k x : Nat} (hk : k ≤ 10) (hx : x < bN b) : gI b D k x ≤ 90 := by
  have := (gI_bd (D := D) B k x hx).2
  omega
/-- where something may be gained, a word leads on to it -/
theorem gI_next (B : WFb b) {k x : Nat} (hx : x < bN b) (h : 0 ≤ gI b D (k + 1) x) : ∃ y, y < bN b ∧ (bE b x).testBit y = true ∧ gI b D k y + bW b y = gI b D (k + 1) x := by
  rcases @gfold_att (fun y => if D.testBit x = false ∧ (bE b x).testBit y = true then gI b D k y + bW b y else -9999) (-9999) (bN b) with h1 | ⟨y, h1, h2⟩
  · have : gI b D (k + 1) x = -9999 := h1
    omega
  · have h2 : (if D.testBit x = false ∧ (bE b x).testBit y = true then gI b D k y + bW b y else -9999) = gI b D (k + 1) x := h2
    split at h2
    · rename_i q
      exact ⟨y, h1, q.2, h2⟩
    · omega
theorem m_gains (H : MR r) (T : TO (m 116) b) (B : WFb b) (hD : D < 1024) : ∃ m', f_X12_gainsFor 114 (nI D) (130, m, r) = some (130, m', r) ∧ (∀ k, k < 10 → ∀ x, x < bN b → m' 125 (10 * k + x) = iI (gI b D k x)) ∧ ∀ a, a ≠ 125 → m' a = m a := by
  have hn := wf_N B
  unfold f_X12_gainsFor
  refine fix_relS (fun i q => ∃ m' : Nat → Nat → Int32, q = (nI i, (130, m', r)) ∧ (∀ k, k < i → ∀ x, x < bN b → m' 125 (10 * k + x) = iI (gI b D k x)) ∧ ∀ a, a ≠ 125 → m' a = m a) 10 (Q := fun o => ∃ m' : Nat → Nat → Int32, o = some (130, m', r) ∧ (∀ k, k < 10 → ∀ x, x < bN b → m' 125 (10 * k + x) = iI (gI b D k x)) ∧ ∀ a, a ≠ 125 → m' a = m a) ?_ ?_ (by omega) ⟨m, rfl, fun k hk => absurd hk (Nat.not_lt_zero k), fun a _ => rfl⟩
  · rintro i q hi ⟨m1, rfl, h1, h2⟩ self
    unfold f_X12_gainsFor_L2
    simp (disch := omega) only [nb_lit, nI_add, nb_sub, pk_mul, nb_lt, nb_le, nb_eq, nb_and, nb_or, nb_xor, nb_shl, nb_shl2, Option.bind_some, Option.some.injEq, Prod.mk.injEq, nI_pos, if_true, if_false, ite_true, ite_false, not_true_eq_false, not_false_eq_true, and_true, true_and, and_self, or_self, b10_0, b10_1, b01_0, b01_1, b10_o, b01_o, or_true, true_or, or_false, false_or, and_false, false_and, eq_self, Nat.reduceEqDiff, b_em, b_me, ly_m, Nat.reduceLT, Nat.reduceLeDiff, Nat.reduceAdd, Nat.reduceMul, Nat.reduceSub, Bool.false_eq_true, Nat.not_lt_zero]
    rw [if_neg (show ¬ 10 ≤ i by omega)]
    refine fix_relS (fun x q => ∃ m' : Nat → Nat → Int32, q = (nI x, (130, m', r)) ∧ (∀ k, k < i → ∀ x, x < bN b → m' 125 (10 * k + x) = iI (gI b D k x)) ∧ (∀ y, y < x → m' 125 (10 * i + y) = iI (gI b D i y)) ∧ ∀ a, a ≠ 125 → m' a = m a) (bN b) (Q := fun o => ∃ s', (∃ m' : Nat → Nat → Int32, s' = (nI (i + 1), (130, m', r)) ∧ (∀ k, k < i + 1 → ∀ x, x < bN b → m' 125 (10 * k + x) = iI (gI b D k x)) ∧ ∀ a, a ≠ 125 → m' a = m a) ∧ o = self s') ?_ ?_ (by omega) ⟨m1, rfl, h1, fun k hk => absurd hk (Nat.not_lt_zero k), h2⟩
    · rintro x q hx ⟨m2, rfl, k1, k2, k3⟩ self2
      have T2 : TO (m2 116) b := by rw [k3 116 (by decide)]; exact T
      have hK := wf_K B hx
      have hE := wf_E2 B hx
      refine ⟨(nI (x + 1), (130, mx_up m2 125 (10 * i + x) (iI (gI b D i x)), r)), ⟨_, rfl, fun k hk y hy => ?_, fun y hy => ?_, fun a ha => ?_⟩, ?_⟩
      · rw [hb_up_ne (by omega)]
        exact k1 k hk y hy
      · by_cases he : y = x
        · subst he
          rw [hb_up_same]
        · rw [hb_up_ne (by omega)]
          exact k2 y (by omega)
      · funext j
        rw [hb_up_ne (by omega), k3 a ha]
      · unfold f_X12_gainsFor_L10
        simp (disch := omega) only [gr_text H, gr_told H, gr_draft H, gr_s H, gr_past H, gr_images H, gr_notes H, gr_levels H, gr_row H, gr_reach H, gr_gains H, gr_line H, gr_rows H, gr_next H, gr_held H, al_text, al_told, al_draft, al_s, al_past, al_images, al_notes, al_levels, al_row, al_reach, al_gains, al_line, al_rows, al_next, al_held, as_text, as_told, as_draft, as_s, as_past, as_images, as_notes, as_levels, as_row, as_reach, as_gains, as_line, as_rows, as_next, as_held, gi_typed, pi_typed, gi_known, pi_known, gi_kept, pi_kept, gi_noted, pi_noted, gi_at, pi_at, gd_m, to_N T2, to_K T2 hx, nb_lit, nI_add, nb_sub, pk_mul, nb_lt, nb_le, nb_eq, nb_and, nb_or, nb_xor, nb_shl, nb_shl2, Option.bind_some, Option.some.injEq, Prod.mk.injEq, nI_pos, if_true, if_false, ite_true, ite_false, not_true_eq_false, not_false_eq_true, and_true, true_and, and_self, or_self, b10_0, b10_1, b01_0, b01_1, b10_o, b01_o, or_true, true_or, or_false, false_or, and_false, false_and, eq_self, Nat.reduceEqDiff, b_em, b_me, ly_m, Nat.reduceLT, Nat.reduceLeDiff, Nat.reduceAdd, Nat.reduceMul, Nat.reduceSub, Bool.false_eq_true, Nat.not_lt_zero]
        rw [if_neg (show ¬ bN b ≤ x by omega)]
        cases i with
        | zero =>
          have hini : ((if bK b x = 2 then some (nI 0) else some (-nI 9999)) : Option Int32) = some (iI (if bK b x = 2 then 0 else -9999)) := by
            split <;> rfl
          have hlo : -9999 ≤ (if bK b x = 2 then (0 : Int) else -9999) := by split <;> omega
          have hhi : (if bK b x = 2 then (0 : Int) else -9999) ≤ 0 := by split <;> omega
          simp (disch := omega) only [nb_lit, nI_add, nb_sub, pk_mul, nb_lt, nb_le, nb_eq, nb_and, nb_or, nb_xor, nb_shl, nb_shl2, Option.bind_some, Option.some.injEq, Prod.mk.injEq, nI_pos, if_true, if_false, ite_true, ite_false, not_true_eq_false, not_false_eq_true, and_true, true_and, and_self, or_self, b10_0, b10_1, b01_0, b01_1, b10_o, b01_o, or_true, true_or, or_false, false_or, and_false, false_and, eq_self, Nat.reduceEqDiff, b_em, b_me, ly_m, Nat.reduceLT, Nat.reduceLeDiff, Nat.reduceAdd, Nat.reduceMul, Nat.reduceSub, Bool.false_eq_true, Nat.not_lt_zero, ite_not, hini]
          refine fix_up (fun y => (iI (gfold (fun _ => -9999) (if bK b x = 2 then 0 else -9999) y), nI y)) (bN b) (fun y hy self3 => ?_) (fun self3 => ?_) (by omega)
          · have g1 := @gfold_ge (fun _ => -9999) (if bK b x = 2 then 0 else -9999) y
            have g2 := @gfold_le (fun _ => -9999) (if bK b x = 2 then 0 else -9999) 0 hhi y (fun _ _ => by decide)
            unfold f_X12_gainsFor_L48
            simp (disch := omega) only [gr_text H, gr_told H, gr_draft H, gr_s H, gr_past H, gr_images H, gr_notes H, gr_levels H, gr_row H, gr_reach H, gr_gains H, gr_line H, gr_rows H, gr_next H, gr_held H, al_text, al_told, al_draft, al_s, al_past, al_images, al_notes, al_levels, al_row, al_reach, al_gains, al_line, al_rows, al_next, al_held, as_text, as_told, as_draft, as_s, as_past, as_images, as_notes, as_levels, as_row, as_reach, as_gains, as_line, as_rows, as_next, as_held, gi_typed, pi_typed, gi_known, pi_known, gi_kept, pi_kept, gi_noted, pi_noted, gi_at, pi_at, gd_m, to_N T2, nb_lit, nI_add, nb_sub, pk_mul, nb_lt, nb_le, nb_eq, nb_and, nb_or, nb_xor, nb_shl, nb_shl2, Option.bind_some, Option.some.injEq, Prod.mk.injEq, nI_pos, if_true, if_false, ite_true, ite_false, not_true_eq_false, not_false_eq_true, and_true, true_and, and_self, or_self, b10_0, b10_1, b01_0, b01_1, b10_o, b01_o, or_true, true_or, or_false, false_or, and_false, false_and, eq_self, Nat.reduceEqDiff, b_em, b_me, ly_m, Nat.reduceLT, Nat.reduceLeDiff, Nat.reduceAdd, Nat.reduceMul, Nat.reduceSub, Bool.false_eq_true, Nat.not_lt_zero, Nat.le_refl, iI_nev, iI_le]
            rw [if_neg (show ¬ bN b ≤ y by omega)]
            simp only [gfold]
            rw [if_pos (show -9999 ≤ gfold (fun _ => -9999) (if bK b x = 2 then 0 else -9999) y by omega), if_pos (show -9999 ≤ gfold (fun _ => -9999) (if bK b x = 2 then 0 else -9999) y by omega)]
            simp (disch := omega) only [nb_lit, nI_add, nb_sub, pk_mul, nb_lt, nb_le, nb_eq, nb_and, nb_or, nb_xor, nb_shl, nb_shl2, Option.bind_some, Option.some.injEq, Prod.mk.injEq, nI_pos, if_true, if_false, ite_true, ite_false, not_true_eq_false, not_false_eq_true, and_true, true_and, and_self, or_self, b10_0, b10_1, b01_0, b01_1, b10_o, b01_o, or_true, true_or, or_false, false_or, and_false, false_and, eq_self, Nat.reduceEqDiff, b_em, b_me, ly_m, Nat.reduceLT, Nat.reduceLeDiff, Nat.reduceAdd, Nat.reduceMul, Nat.reduceSub, Bool.false_eq_true, Nat.not_lt_zero]
          · unfold f_X12_gainsFor_L48
            simp (disch := omega) only [gr_text H, gr_told H, gr_draft H, gr_s H, gr_past H, gr_images H, gr_notes H, gr_levels H, gr_row H, gr_reach H, gr_gains H, gr_line H, gr_rows H, gr_next H, gr_held H, al_text, al_told, al_draft, al_s, al_past, al_images, al_notes, al_levels, al_row, al_reach, al_gains, al_line, al_rows, al_next, al_held, as_text, as_told, as_draft, as_s, as_past, as_images, as_notes, as_levels, as_row, as_reach, as_gains, as_line, as_rows, as_next, as_held, gi_typed, pi_typed, gi_known, pi_known, gi_kept, pi_kept, gi_noted, pi_noted, gi_at, pi_at, gd_m, to_N T2, nb_lit, nI_add, nb_sub, pk_mul, nb_lt, nb_le, nb_eq, nb_and, nb_or, nb_xor, nb_shl, nb_shl2, Option.bind_some, Option.some.injEq, Prod.mk.injEq, nI_pos, if_true, if_false, ite_true, ite_false, not_true_eq_false, not_false_eq_true, and_true, true_and, and_self, or_self, b10_0, b10_1, b01_0, b01_1, b10_o, b01_o, or_true, true_or, or_false, false_or, and_false, false_and, eq_self, Nat.reduceEqDiff, b_em, b_me, ly_m, Nat.reduceLT, Nat.reduceLeDiff, Nat.reduceAdd, Nat.reduceMul, Nat.reduceSub, Bool.false_eq_true, Nat.not_lt_zero]
            rw [if_pos (show bN b ≤ bN b by omega)]
            rfl
        | succ k =>
          simp (disch := omega) only [nb_lit, nI_add, nb_sub, pk_mul, nb_lt, nb_le, nb_eq, nb_and, nb_or, nb_xor, nb_shl, nb_shl2, Option.bind_some, Option.some.injEq, Prod.mk.injEq, nI_pos, if_true, if_false, ite_true, ite_false, not_true_eq_false, not_false_eq_true, and_true, true_and, and_self, or_self, b10_0, b10_1, b01_0, b01_1, b10_o, b01_o, or_true, true_or, or_false, false_or, and_false, false_and, eq_self, Nat.reduceEqDiff, b_em, b_me, ly_m, Nat.reduceLT, Nat.reduceLeDiff, Nat.reduceAdd, Nat.reduceMul, Nat.reduceSub, Bool.false_eq_true, Nat.not_lt_zero, show (k + 1 = 0) = False from eq_false (by omega), iI_nev]
          refine fix_up (fun y => (iI (gfold (fun y => if D.testBit x = false ∧ (bE b x).testBit y = true then gI b D k y + bW b y else -9999) (-9999) y), nI y)) (bN b) (fun y hy self3 => ?_) (fun self3 => ?_) (by omega)
          · have hub : ∀ z, z < bN b → (if D.testBit x = false ∧ (bE b x).testBit z = true then gI b D k z + bW b z else -9999) ≤ 100 := by
              intro z hz
              have := gI_hi (D := D) (k := k) B (by omega) hz
              have := wf_W B hz
              split <;> omega
            have g1 := @gfold_ge (fun y => if D.testBit x = false ∧ (bE b x).testBit y = true then gI b D k y + bW b y else -9999) (-9999) y
            have g2 := @gfold_le (fun y => if D.testBit x = false ∧ (bE b x).testBit y = true then gI b D k y + bW b y else -9999) (-9999) 100 (by decide) y (fun z hz => hub z (by omega))
            have g3 := gI_hi (D := D) (k := k) B (by omega) hy
            have g4 := gI_lo (D := D) (k := k) B hy
            have hW := wf_W B hy
            have hr := k1 k (by omega) y hy
            unfold f_X12_gainsFor_L48
            simp (disch := omega) only [gr_text H, gr_told H, gr_draft H, gr_s H, gr_past H, gr_images H, gr_notes H, gr_levels H, gr_row H, gr_reach H, gr_gains H, gr_line H, gr_rows H, gr_next H, gr_held H, al_text, al_told, al_draft, al_s, al_past, al_images, al_notes, al_levels, al_row, al_reach, al_gains, al_line, al_rows, al_next, al_held, as_text, as_told, as_draft, as_s, as_past, as_images, as_notes, as_levels, as_row, as_reach, as_gains, as_line, as_rows, as_next, as_held, gi_typed, pi_typed, gi_known, pi_known, gi_kept, pi_kept, gi_noted, pi_noted, gi_at, pi_at, gd_m, to_N T2, to_E T2 hx, to_W T2 hy, mb_has, nb_lit, nI_add, nb_sub, pk_mul, nb_lt, nb_le, nb_eq, nb_and, nb_or, nb_xor, nb_shl, nb_shl2, Option.bind_some, Option.some.injEq, Prod.mk.injEq, nI_pos, if_true, if_false, ite_true, ite_false, not_true_eq_false, not_false_eq_true, and_true, true_and, and_self, or_self, b10_0, b10_1, b01_0, b01_1, b10_o, b01_o, or_true, true_or, or_false, false_or, and_false, false_and, eq_self, Nat.reduceEqDiff, b_em, b_me, ly_m, Nat.reduceLT, Nat.reduceLeDiff, Nat.reduceAdd, Nat.reduceMul, Nat.reduceSub, Bool.false_eq_true, Nat.not_lt_zero, Nat.add_sub_cancel, hr, iI_nev, iI_add]
            rw [if_neg (show ¬ bN b ≤ y by omega)]
            simp only [gfold]
            generalize gfold (fun y => if D.testBit x = false ∧ (bE b x).testBit y = true then gI b D k y + bW b y else -9999) (-9999) y = G at *
            by_cases hd : D.testBit x = true
            · simp (disch := omega) only [hd, nb_lit, nI_add, nb_sub, pk_mul, nb_lt, nb_le, nb_eq, nb_and, nb_or, nb_xor, nb_shl, nb_shl2, Option.bind_some, Option.some.injEq, Prod.mk.injEq, nI_pos, if_true, if_false, ite_true, ite_false, not_true_eq_false, not_false_eq_true, and_true, true_and, and_self, or_self, b10_0, b10_1, b01_0, b01_1, b10_o, b01_o, or_true, true_or, or_false, false_or, and_false, false_and, eq_self, Nat.reduceEqDiff, b_em, b_me, ly_m, Nat.reduceLT, Nat.reduceLeDiff, Nat.reduceAdd, Nat.reduceMul, Nat.reduceSub, Bool.false_eq_true, Nat.not_lt_zero, show (k + 1 ≤ 0) = False from eq_false (by omega), Bool.true_eq_false, iI_le]
              rw [if_pos g1, if_pos g1]
              simp (disch := omega) only [nb_lit, nI_add, nb_sub, pk_mul, nb_lt, nb_le, nb_eq, nb_and, nb_or, nb_xor, nb_shl, nb_shl2, Option.bind_some, Option.some.injEq, Prod.mk.injEq, nI_pos, if_true, if_false, ite_true, ite_false, not_true_eq_false, not_false_eq_true, and_true, true_and, and_self, or_self, b10_0, b10_1, b01_0, b01_1, b10_o, b01_o, or_true, true_or, or_false, false_or, and_false, false_and, eq_self, Nat.reduceEqDiff, b_em, b_me, ly_m, Nat.reduceLT, Nat.reduceLeDiff, Nat.reduceAdd, Nat.reduceMul, Nat.reduceSub, Bool.false_eq_true, Nat.not_lt_zero]
            · have hd : D.testBit x = false := by simpa using hd
              by_cases ht : (bE b x).testBit y = true
              · simp (disch := omega) only [hd, ht, nb_lit, nI_add, nb_sub, pk_mul, nb_lt, nb_le, nb_eq, nb_and, nb_or, nb_xor, nb_shl, nb_shl2, Option.bind_some, Option.some.injEq, Prod.mk.injEq, nI_pos, if_true, if_false, ite_true, ite_false, not_true_eq_false, not_false_eq_true, and_true, true_and, and_self, or_self, b10_0, b10_1, b01_0, b01_1, b10_o, b01_o, or_true, true_or, or_false, false_or, and_false, false_and, eq_self, Nat.reduceEqDiff, b_em, b_me, ly_m, Nat.reduceLT, Nat.reduceLeDiff, Nat.reduceAdd, Nat.reduceMul, Nat.reduceSub, Bool.false_eq_true, Nat.not_lt_zero, show (k + 1 ≤ 0) = False from eq_false (by omega), iI_le]
                by_cases hle : gI b D k y + ↑(bW b y) ≤ G
                · simp (disch := omega) only [hle, nb_lit, nI_add, nb_sub, pk_mul, nb_lt, nb_le, nb_eq, nb_and, nb_or, nb_xor, nb_shl, nb_shl2, Option.bind_some, Option.some.injEq, Prod.mk.injEq, nI_pos, if_true, if_false, ite_true, ite_false, not_true_eq_false, not_false_eq_true, and_true, true_and, and_self, or_self, b10_0, b10_1, b01_0, b01_1, b10_o, b01_o, or_true, true_or, or_false, false_or, and_false, false_and, eq_self, Nat.reduceEqDiff, b_em, b_me, ly_m, Nat.reduceLT, Nat.reduceLeDiff, Nat.reduceAdd, Nat.reduceMul, Nat.reduceSub, Bool.false_eq_true, Nat.not_lt_zero]
                · simp (disch := omega) only [hle, nb_lit, nI_add, nb_sub, pk_mul, nb_lt, nb_le, nb_eq, nb_and, nb_or, nb_xor, nb_shl, nb_shl2, Option.bind_some, Option.some.injEq, Prod.mk.injEq, nI_pos, if_true, if_false, ite_true, ite_false, not_true_eq_false, not_false_eq_true, and_true, true_and, and_self, or_self, b10_0, b10_1, b01_0, b01_1, b10_o, b01_o, or_true, true_or, or_false, false_or, and_false, false_and, eq_self, Nat.reduceEqDiff, b_em, b_me, ly_m, Nat.reduceLT, Nat.reduceLeDiff, Nat.reduceAdd, Nat.reduceMul, Nat.reduceSub, Bool.false_eq_true, Nat.not_lt_zero]
              · simp (disch := omega) only [hd, ht, nb_lit, nI_add, nb_sub, pk_mul, nb_lt, nb_le, nb_eq, nb_and, nb_or, nb_xor, nb_shl, nb_shl2, Option.bind_some, Option.some.injEq, Prod.mk.injEq, nI_pos, if_true, if_false, ite_true, ite_false, not_true_eq_false, not_false_eq_true, and_true, true_and, and_self, or_self, b10_0, b10_1, b01_0, b01_1, b10_o, b01_o, or_true, true_or, or_false, false_or, and_false, false_and, eq_self, Nat.reduceEqDiff, b_em, b_me, ly_m, Nat.reduceLT, Nat.reduceLeDiff, Nat.reduceAdd, Nat.reduceMul, Nat.reduceSub, Bool.false_eq_true, Nat.not_lt_zero, show (k + 1 ≤ 0) = False from eq_false (by omega), iI_le]
                rw [if_pos g1, if_pos g1]
                simp (disch := omega) only [nb_lit, nI_add, nb_sub, pk_mul, nb_lt, nb_le, nb_eq, nb_and, nb_or, nb_xor, nb_shl, nb_shl2, Option.bind_some, Option.some.injEq, Prod.mk.injEq, nI_pos, if_true, if_false, ite_true, ite_false, not_true_eq_false, not_false_eq_true, and_true, true_and, and_self, or_self, b10_0, b10_1, b01_0, b01_1, b10_o, b01_o, or_true, true_or, or_false, false_or, and_false, false_and, eq_self, Nat.reduceEqDiff, b_em, b_me, ly_m, Nat.reduceLT, Nat.reduceLeDiff, Nat.reduceAdd, Nat.reduceMul, Nat.reduceSub, Bool.false_eq_true, Nat.not_lt_zero]
          · unfold f_X12_gainsFor_L48
            simp (disch := omega) only [gr_text H, gr_told H, gr_draft H, gr_s H, gr_past H, gr_images H, gr_notes H, gr_levels H, gr_row H, gr_reach H, gr_gains H, gr_line H, gr_rows H, gr_next H, gr_held H, al_text, al_told, al_draft, al_s, al_past, al_images, al_notes, al_levels, al_row, al_reach, al_gains, al_line, al_rows, al_next, al_held, as_text, as_told, as_draft, as_s, as_past, as_images, as_notes, as_levels, as_row, as_reach, as_gains, as_line, as_rows, as_next, as_held, gi_typed, pi_typed, gi_known, pi_known, gi_kept, pi_kept, gi_noted, pi_noted, gi_at, pi_at, gd_m, to_N T2, nb_lit, nI_add, nb_sub, pk_mul, nb_lt, nb_le, nb_eq, nb_and, nb_or, nb_xor, nb_shl, nb_shl2, Option.bind_some, Option.some.injEq, Prod.mk.injEq, nI_pos, if_true, if_false, ite_true, ite_false, not_true_eq_false, not_false_eq_true, and_true, true_and, and_self, or_self, b10_0, b10_1, b01_0, b01_1, b10_o, b01_o, or_true, true_or, or_false, false_or, and_false, false_and, eq_self, Nat.reduceEqDiff, b_em, b_me, ly_m, Nat.reduceLT, Nat.reduceLeDiff, Nat.reduceAdd, Nat.reduceMul, Nat.reduceSub, Bool.false_eq_true, Nat.not_lt_zero]
            rw [if_pos (show bN b ≤ bN b by omega)]
            rfl
    · rintro q ⟨m2, rfl, k1, k2, k3⟩ self2
      have T2 : TO (m2 116) b := by rw [k3 116 (by decide)]; exact T
      refine ⟨(nI (i + 1), (130, m2, r)), ⟨m2, rfl, fun k hk x hx => ?_, k3⟩, ?_⟩
      · by_cases he : k = i
        · subst he
          exact k2 x hx
        · exact k1 k (by omega) x hx
      · unfold f_X12_gainsFor_L10
        simp (disch := omega) only [gr_text H, gr_told H, gr_draft H, gr_s H, gr_past H, gr_images H, gr_notes H, gr_levels H, gr_row H, gr_reach H, gr_gains H, gr_line H, gr_rows H, gr_next H, gr_held H, al_text, al_told, al_draft, al_s, al_past, al_images, al_notes, al_levels, al_row, al_reach, al_gains, al_line, al_rows, al_next, al_held, as_text, as_told, as_draft, as_s, as_past, as_images, as_notes, as_levels, as_row, as_reach, as_gains, as_line, as_rows, as_next, as_held, gi_typed, pi_typed, gi_known, pi_known, gi_kept, pi_kept, gi_noted, pi_noted, gi_at, pi_at, gd_m, to_N T2, nb_lit, nI_add, nb_sub, pk_mul, nb_lt, nb_le, nb_eq, nb_and, nb_or, nb_xor, nb_shl, nb_shl2, Option.bind_some, Option.some.injEq, Prod.mk.injEq, nI_pos, if_true, if_false, ite_true, ite_false, not_true_eq_false, not_false_eq_true, and_true, true_and, and_self, or_self, b10_0, b10_1, b01_0, b01_1, b10_o, b01_o, or_true, true_or, or_false, false_or, and_false, false_and, eq_self, Nat.reduceEqDiff, b_em, b_me, ly_m, Nat.reduceLT, Nat.reduceLeDiff, Nat.reduceAdd, Nat.reduceMul, Nat.reduceSub, Bool.false_eq_true, Nat.not_lt_zero]
        rw [if_pos (show bN b ≤ bN b by omega)]
  · rintro q ⟨m1, rfl, h1, h2⟩ self
    unfold f_X12_gainsFor_L2
    simp (disch := omega) only [nb_lit, nI_add, nb_sub, pk_mul, nb_lt, nb_le, nb_eq, nb_and, nb_or, nb_xor, nb_shl, nb_shl2, Option.bind_some, Option.some.injEq, Prod.mk.injEq, nI_pos, if_true, if_false, ite_true, ite_false, not_true_eq_false, not_false_eq_true, and_true, true_and, and_self, or_self, b10_0, b10_1, b01_0, b01_1, b10_o, b01_o, or_true, true_or, or_false, false_or, and_false, false_and, eq_self, Nat.reduceEqDiff, b_em, b_me, ly_m, Nat.reduceLT, Nat.reduceLeDiff, Nat.reduceAdd, Nat.reduceMul, Nat.reduceSub, Bool.false_eq_true, Nat.not_lt_zero, Nat.le_refl]
    exact ⟨m1, rfl, h1, h2⟩
end M10
