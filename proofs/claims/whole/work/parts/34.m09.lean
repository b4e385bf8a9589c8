/-! lures: the reference -/
def anyB (p : Nat → Bool) : Nat → Bool
  | 0 => false
  | n + 1 => anyB p n || p n
theorem anyB_iff (p : Nat → Bool) (n : Nat) : anyB p n = true ↔ ∃ i, i < n ∧ p i = true := by
  induction n with
  | zero => simp [anyB]
  | succ n ih =>
    unfold anyB
    rw [Bool.or_eq_true, ih]
    constructor
    · rintro (⟨i, h1, h2⟩ | h)
      · exact ⟨i, by omega, h2⟩
      · exact ⟨n, by omega, h⟩
    · rintro ⟨i, h1, h2⟩
      by_cases he : i = n
      · subst he; exact Or.inr h2
      · exact Or.inl ⟨i, by omega, h2⟩
def saysW (b : Bo) (kn w x : Nat) : Bool := anyB (fun k => decide (fword b kn (fmany b kn x) x k = w)) (fmany b kn x)
def lure0 (b : Bo) (kn w : Nat) : Nat := mk (fun x => saysW b kn w x) (bN b)
def lrch (b : Bo) (D L : Nat) : Nat → Nat
  | 0 => L
  | k + 1 => mk (fun x => decide (eD b D x &&& lrch b D L k ≠ 0)) (bN b)
def isLr (b : Bo) (D L f many : Nat) : Bool := (lrch b D L (many - 1)).testBit f
def pathL (b : Bo) (D L many f : Nat) : Nat → Nat
  | 0 => f
  | k + 1 => fst (fun x => (bE b (pathL b D L many f k) &&& lrch b D L (many - 1 - (k + 1))).testBit x) (bN b)
def l0F (b : Bo) (s : St) (w f : Nat) : Nat := lure0 b (knF b s f) w
def lrB (b : Bo) (s : St) (w k f : Nat) : Bool := isLr b (dF b s f) (l0F b s w f) f (k + 1)
def lrK (b : Bo) (s : St) (w : Nat) : Nat := fst (fun k => decide (fst (fun f => lrB b s w k f) (bN b) < bN b)) 10
def lrF (b : Bo) (s : St) (w : Nat) : Nat := fst (fun f => lrB b s w (lrK b s w) f) (bN b)
def lrC (b : Bo) (s : St) (w : Nat) : Nat := if lrK b s w = 10 then 0 else lrK b s w + 1
def lrR (b : Bo) (s : St) (w : Nat) (i : Nat) : Nat := pathL b (dF b s (lrF b s w)) (l0F b s w (lrF b s w)) (lrK b s w + 1) (lrF b s w) i
def v_lure (A : Ab) (x y : Int32) : Int32 := if (x < 0 ∨ nI (bN (aB A)) ≤ x) ∨ (y < -1 ∨ 9 < y) then -1 else tel (lrC (aB A) (aS A) x.toNatClampNeg) (lrR (aB A) (aS A) x.toNatClampNeg) y
section M9
variable {m : Nat → Nat → Int32} {r : Nat → Nat → Option Nat} {b : Bo} {s : St} {D w L : Nat} {A : Ab}
theorem lrch_lt (hL : L < 2 ^ bN b) (k : Nat) : lrch b D L k < 2 ^ bN b := by
  cases k with
  | zero => exact hL
  | succ k => exact mk_lt _ _
theorem lure0_lt {kn : Nat} : lure0 b kn w < 2 ^ bN b := mk_lt _ _
theorem lrch_next (B : WFb b) (hL : L < 2 ^ bN b) {left q : Nat} (h : (lrch b D L (left + 1)).testBit q = true) : q < bN b ∧ fst (fun x => (bE b q &&& lrch b D L left).testBit x) (bN b) < bN b ∧ (lrch b D L left).testBit (fst (fun x => (bE b q &&& lrch b D L left).testBit x) (bN b)) = true := by
  have h1 : (mk (fun x => decide (eD b D x &&& lrch b D L left ≠ 0)) (bN b)).testBit q = true := h
  rw [mk_bit] at h1
  simp only [Bool.and_eq_true, decide_eq_true_eq] at h1
  obtain ⟨i, hi, i1, i2⟩ := (and_ne0 (eD_lt (D := D) B h1.1)).mp h1.2
  have hb : (bE b q &&& lrch b D L left).testBit i = true := by rw [Nat.testBit_and, eD_sub i1, i2]; rfl
  obtain ⟨f1, f2⟩ := fst_lt (p := fun x => (bE b q &&& lrch b D L left).testBit x) hi hb
  refine ⟨h1.1, f1, ?_⟩
  have f2 : (bE b q &&& lrch b D L left).testBit (fst (fun x => (bE b q &&& lrch b D L left).testBit x) (bN b)) = true := f2
  rw [Nat.testBit_and, Bool.and_eq_true] at f2
  exact f2.2
theorem pathL_inv (B : WFb b) (hL : L < 2 ^ bN b) {many f : Nat} (h : isLr b D L f many = true) : ∀ k, k < many → (lrch b D L (many - 1 - k)).testBit (pathL b D L many f k) = true := by
  intro k
  induction k with
  | zero => intro _; exact h
  | succ k ih =>
    intro hk
    have h1 := ih (by omega)
    rw [show many - 1 - k = many - 1 - (k + 1) + 1 by omega] at h1
    exact (lrch_next B hL h1).2.2
theorem m_isLure (H : MR r) (T : TO (m 116) b) (B : WFb b) (S : SM (m 118) 0 s) (F : WFs (bN b) s) (hw : w < bN b) {f many : Nat} (hf : f < bN b) (h1 : 1 ≤ many) (h10 : many ≤ 10) : ∃ m', f_X12_isLure 114 (nI w) (nI f) (nI many) (130, m, r) = some ((if isLr b (dF b s f) (l0F b s w f) f many = true then nI 1 else nI 0), (130, m', r)) ∧ (isLr b (dF b s f) (l0F b s w f) f many = true → ∀ k, k < many → m' 126 k = nI (pathL b (dF b s f) (l0F b s w f) many f k)) ∧ ∀ a, a ≠ 122 → a ≠ 123 → a ≠ 124 → a ≠ 126 → m' a = m a := by
  have hn := wf_N B
  obtain ⟨m1, e1, e2⟩ := m_lost H T B S F hf
  have T1 : TO (m1 116) b := by rw [e2 116 (by decide) (by decide)]; exact T
  have S1 : SM (m1 118) 0 s := by rw [e2 118 (by decide) (by decide)]; exact S
  have e1' : f_X12_lost 114 (nI f) (130, m, r) = some (nI (dF b s f), (130, m1, r)) := e1
  have hD : dF b s f < 1024 := lostF_2 B
  have hkn := knF_lt (w := f) B F
  have hL0 : l0F b s w f < 2 ^ bN b := lure0_lt
  unfold f_X12_isLure
  simp (disch := omega) only [gr_text H, gr_told H, gr_draft H, gr_s H, gr_past H, gr_images H, gr_notes H, gr_levels H, gr_row H, gr_reach H, gr_gains H, gr_line H, gr_rows H, gr_next H, gr_held H, al_text, al_told, al_draft, al_s, al_past, al_images, al_notes, al_levels, al_row, al_reach, al_gains, al_line, al_rows, al_next, al_held, as_text, as_told, as_draft, as_s, as_past, as_images, as_notes, as_levels, as_row, as_reach, as_gains, as_line, as_rows, as_next, as_held, gi_typed, pi_typed, gi_known, pi_known, gi_kept, pi_kept, gi_noted, pi_noted, gi_at, pi_at, gd_m, e1', m_kn H T1 B S1 F hf, nb_lit, nI_add, nb_sub, pk_mul, nb_lt, nb_le, nb_eq, nb_and, nb_or, nb_xor, nb_shl, nb_shl2, Option.bind_some, Option.some.injEq, Prod.mk.injEq, nI_pos, if_true, if_false, ite_true, ite_false, not_true_eq_false, not_false_eq_true, and_true, true_and, and_self, or_self, b10_0, b10_1, b01_0, b01_1, b10_o, b01_o, or_true, true_or, or_false, false_or, and_false, false_and, eq_self, Nat.reduceEqDiff, b_em, b_me, ly_m, Nat.reduceLT, Nat.reduceLeDiff, Nat.reduceAdd, Nat.reduceMul, Nat.reduceSub, Bool.false_eq_true, Nat.not_lt_zero]
  generalize hDd : dF b s f = D at *
  generalize hLd : l0F b s w f = L at *
  -- the last part
  have key3 : ∀ m3 : Nat → Nat → Int32, (∀ k, k < many → m3 124 k = nI (lrch b D L k)) → (∀ a, a ≠ 122 → a ≠ 123 → a ≠ 124 → m3 a = m a) → ∃ m', ((mx_gr (130, m3, r) 114 12 14).bind fun x81 => (mx_al (130, m3, r) x81 (nI (many - 1))).bind fun x82 => (f_X12_has x82 (nI f) (130, m3, r)).bind fun x83 => (mx_gr (130, m3, r) 114 12 16).bind fun x84 => (mx_as (130, m3, r) x84 (nI 0) (nI f)).bind fun h85 => mx_fix (f_X12_isLure_L233 114 (nI many) x83) 2000 (nI 1, h85)) = some ((if isLr b D L f many = true then nI 1 else nI 0), (130, m', r)) ∧ (isLr b D L f many = true → ∀ k, k < many → m' 126 k = nI (pathL b D L many f k)) ∧ ∀ a, a ≠ 122 → a ≠ 123 → a ≠ 124 → a ≠ 126 → m' a = m a := by
    intro m3 g1 g2
    have T3 : TO (m3 116) b := by rw [g2 116 (by decide) (by decide) (by decide)]; exact T
    have hlm := lt1024 (lrch_lt (D := D) hL0 (many - 1)) hn.2
    have hbit : (lrch b D L (many - 1)).testBit f = isLr b D L f many := rfl
    simp (disch := omega) only [gr_text H, gr_told H, gr_draft H, gr_s H, gr_past H, gr_images H, gr_notes H, gr_levels H, gr_row H, gr_reach H, gr_gains H, gr_line H, gr_rows H, gr_next H, gr_held H, al_text, al_told, al_draft, al_s, al_past, al_images, al_notes, al_levels, al_row, al_reach, al_gains, al_line, al_rows, al_next, al_held, as_text, as_told, as_draft, as_s, as_past, as_images, as_notes, as_levels, as_row, as_reach, as_gains, as_line, as_rows, as_next, as_held, gi_typed, pi_typed, gi_known, pi_known, gi_kept, pi_kept, gi_noted, pi_noted, gi_at, pi_at, gd_m, g1 (many - 1) (by omega), mb_has, hbit, nb_lit, nI_add, nb_sub, pk_mul, nb_lt, nb_le, nb_eq, nb_and, nb_or, nb_xor, nb_shl, nb_shl2, Option.bind_some, Option.some.injEq, Prod.mk.injEq, nI_pos, if_true, if_false, ite_true, ite_false, not_true_eq_false, not_false_eq_true, and_true, true_and, and_self, or_self, b10_0, b10_1, b01_0, b01_1, b10_o, b01_o, or_true, true_or, or_false, false_or, and_false, false_and, eq_self, Nat.reduceEqDiff, b_em, b_me, ly_m, Nat.reduceLT, Nat.reduceLeDiff, Nat.reduceAdd, Nat.reduceMul, Nat.reduceSub, Bool.false_eq_true, Nat.not_lt_zero]
    by_cases hsf : isLr b D L f many = true
    · simp only [hsf, nb_lit, nI_add, nb_sub, pk_mul, nb_lt, nb_le, nb_eq, nb_and, nb_or, nb_xor, nb_shl, nb_shl2, Option.bind_some, Option.some.injEq, Prod.mk.injEq, nI_pos, if_true, if_false, ite_true, ite_false, not_true_eq_false, not_false_eq_true, and_true, true_and, and_self, or_self, b10_0, b10_1, b01_0, b01_1, b10_o, b01_o, or_true, true_or, or_false, false_or, and_false, false_and, eq_self, Nat.reduceEqDiff, b_em, b_me, ly_m, Nat.reduceLT, Nat.reduceLeDiff, Nat.reduceAdd, Nat.reduceMul, Nat.reduceSub, Bool.false_eq_true, Nat.not_lt_zero]
      refine fix_rel (fun i z => ∃ m' : Nat → Nat → Int32, z = (nI (i + 1), (130, m', r)) ∧ (∀ k, k < i + 1 → m' 126 k = nI (pathL b D L many f k)) ∧ ∀ a, a ≠ 126 → m' a = m3 a) (many - 1) (Q := fun o => ∃ m' : Nat → Nat → Int32, o = some (nI 1, (130, m', r)) ∧ (True → ∀ k, k < many → m' 126 k = nI (pathL b D L many f k)) ∧ ∀ a, a ≠ 122 → a ≠ 123 → a ≠ 124 → a ≠ 126 → m' a = m a) ?_ ?_ (by omega) ?_
      · rintro i z hi ⟨m4, rfl, k1, k2⟩
        have T4 : TO (m4 116) b := by rw [k2 116 (by decide)]; exact T3
        have hp := pathL_inv B hL0 hsf i (by omega)
        rw [show many - 1 - i = many - 1 - (i + 1) + 1 by omega] at hp
        obtain ⟨hq, f1, f2⟩ := lrch_next B hL0 hp
        have hE := wf_E2 B hq
        have hll := lt1024 (lrch_lt (D := D) hL0 (many - 1 - (i + 1))) hn.2
        have a1 : m4 124 (many - 1 - (i + 1)) = nI (lrch b D L (many - 1 - (i + 1))) := by rw [k2 124 (by decide)]; exact g1 _ (by omega)
        have a2 := k1 i (by omega)
        refine ⟨(nI (i + 1 + 1), (130, mx_up m4 126 (i + 1) (nI (pathL b D L many f (i + 1))), r)), ⟨_, rfl, fun k hk => ?_, fun a ha => ?_⟩, fun self => ?_⟩
        · by_cases he : k = i + 1
          · subst he
            rw [hb_up_same]
          · rw [hb_up_ne (by omega)]
            exact k1 k (by omega)
        · funext j
          rw [hb_up_ne (by omega), k2 a ha]
        · unfold f_X12_isLure_L233
          have hlow : ∀ h : mx_Hp, f_X12_lowest (nI (bE b (pathL b D L many f i) &&& lrch b D L (many - 1 - (i + 1)))) h = some (nI (pathL b D L many f (i + 1))) := fun h => m_low (h := h) (and_lt (wf_E B hq)) hn.2 f1
          simp (disch := omega) only [gr_text H, gr_told H, gr_draft H, gr_s H, gr_past H, gr_images H, gr_notes H, gr_levels H, gr_row H, gr_reach H, gr_gains H, gr_line H, gr_rows H, gr_next H, gr_held H, al_text, al_told, al_draft, al_s, al_past, al_images, al_notes, al_levels, al_row, al_reach, al_gains, al_line, al_rows, al_next, al_held, as_text, as_told, as_draft, as_s, as_past, as_images, as_notes, as_levels, as_row, as_reach, as_gains, as_line, as_rows, as_next, as_held, gi_typed, pi_typed, gi_known, pi_known, gi_kept, pi_kept, gi_noted, pi_noted, gi_at, pi_at, gd_m, Nat.add_sub_cancel, a2, to_E T4 hq, a1, hlow, nb_lit, nI_add, nb_sub, pk_mul, nb_lt, nb_le, nb_eq, nb_and, nb_or, nb_xor, nb_shl, nb_shl2, Option.bind_some, Option.some.injEq, Prod.mk.injEq, nI_pos, if_true, if_false, ite_true, ite_false, not_true_eq_false, not_false_eq_true, and_true, true_and, and_self, or_self, b10_0, b10_1, b01_0, b01_1, b10_o, b01_o, or_true, true_or, or_false, false_or, and_false, false_and, eq_self, Nat.reduceEqDiff, b_em, b_me, ly_m, Nat.reduceLT, Nat.reduceLeDiff, Nat.reduceAdd, Nat.reduceMul, Nat.reduceSub, Bool.false_eq_true, Nat.not_lt_zero]
          rw [if_neg (show ¬ many ≤ i + 1 by omega)]
      · rintro z ⟨m4, rfl, k1, k2⟩ self
        unfold f_X12_isLure_L233
        simp (disch := omega) only [nb_lit, nI_add, nb_sub, pk_mul, nb_lt, nb_le, nb_eq, nb_and, nb_or, nb_xor, nb_shl, nb_shl2, Option.bind_some, Option.some.injEq, Prod.mk.injEq, nI_pos, if_true, if_false, ite_true, ite_false, not_true_eq_false, not_false_eq_true, and_true, true_and, and_self, or_self, b10_0, b10_1, b01_0, b01_1, b10_o, b01_o, or_true, true_or, or_false, false_or, and_false, false_and, eq_self, Nat.reduceEqDiff, b_em, b_me, ly_m, Nat.reduceLT, Nat.reduceLeDiff, Nat.reduceAdd, Nat.reduceMul, Nat.reduceSub, Bool.false_eq_true, Nat.not_lt_zero]
        rw [if_pos (show many ≤ many - 1 + 1 by omega)]
        exact ⟨m4, rfl, fun _ k hk => k1 k (by omega), fun a ha hb hc hd => by rw [k2 a hd, g2 a ha hb hc]⟩
      · refine ⟨mx_up m3 126 0 (nI f), rfl, fun k hk => ?_, fun a ha => ?_⟩
        · have : k = 0 := by omega
          subst this
          rw [hb_up_same]
          rfl
        · funext j
          rw [hb_up_ne (by omega)]
    · simp only [hsf, nb_lit, nI_add, nb_sub, pk_mul, nb_lt, nb_le, nb_eq, nb_and, nb_or, nb_xor, nb_shl, nb_shl2, Option.bind_some, Option.some.injEq, Prod.mk.injEq, nI_pos, if_true, if_false, ite_true, ite_false, not_true_eq_false, not_false_eq_true, and_true, true_and, and_self, or_self, b10_0, b10_1, b01_0, b01_1, b10_o, b01_o, or_true, true_or, or_false, false_or, and_false, false_and, eq_self, Nat.reduceEqDiff, b_em, b_me, ly_m, Nat.reduceLT, Nat.reduceLeDiff, Nat.reduceAdd, Nat.reduceMul, Nat.reduceSub, Bool.false_eq_true, Nat.not_lt_zero]
      refine ⟨mx_up m3 126 0 (nI f), ?_, fun z => absurd z (by simp), fun a ha hb hc hd => ?_⟩
      · rw [show (2000 : Nat) = 1999 + 1 from rfl, fix_1, f_X12_isLure_L233]
        simp (disch := omega) only [nb_lit, nI_add, nb_sub, pk_mul, nb_lt, nb_le, nb_eq, nb_and, nb_or, nb_xor, nb_shl, nb_shl2, Option.bind_some, Option.some.injEq, Prod.mk.injEq, nI_pos, if_true, if_false, ite_true, ite_false, not_true_eq_false, not_false_eq_true, and_true, true_and, and_self, or_self, b10_0, b10_1, b01_0, b01_1, b10_o, b01_o, or_true, true_or, or_false, false_or, and_false, false_and, eq_self, Nat.reduceEqDiff, b_em, b_me, ly_m, Nat.reduceLT, Nat.reduceLeDiff, Nat.reduceAdd, Nat.reduceMul, Nat.reduceSub, Bool.false_eq_true, Nat.not_lt_zero]
        split <;> rfl
      · funext j
        rw [hb_up_ne (by omega), g2 a ha hb hc]
  -- the levels
  have key2 : ∀ m2 : Nat → Nat → Int32, m2 124 0 = nI L → (∀ a, a ≠ 122 → a ≠ 123 → a ≠ 124 → m2 a = m a) → ∃ m', mx_fix (f_X12_isLure_L118 114 (nI f) (nI many) (nI D) (fun s80 => (mx_gr s80.2 114 12 14).bind fun x81 => (mx_al s80.2 x81 (nI (many - 1))).bind fun x82 => (f_X12_has x82 (nI f) s80.2).bind fun x83 => (mx_gr s80.2 114 12 16).bind fun x84 => (mx_as s80.2 x84 (nI 0) (nI f)).bind fun h85 => mx_fix (f_X12_isLure_L233 114 (nI many) x83) 2000 (nI 1, h85))) 2000 (nI 1, (130, m2, r)) = some ((if isLr b D L f many = true then nI 1 else nI 0), (130, m', r)) ∧ (isLr b D L f many = true → ∀ k, k < many → m' 126 k = nI (pathL b D L many f k)) ∧ ∀ a, a ≠ 122 → a ≠ 123 → a ≠ 124 → a ≠ 126 → m' a = m a := by
    intro m2 g1 g2
    refine fix_relS (fun i q => ∃ m' : Nat → Nat → Int32, q = (nI (i + 1), (130, m', r)) ∧ (∀ k, k < i + 1 → m' 124 k = nI (lrch b D L k)) ∧ ∀ a, a ≠ 122 → a ≠ 123 → a ≠ 124 → m' a = m a) (many - 1) (Q := fun o => ∃ m' : Nat → Nat → Int32, o = some ((if isLr b D L f many = true then nI 1 else nI 0), (130, m', r)) ∧ (isLr b D L f many = true → ∀ k, k < many → m' 126 k = nI (pathL b D L many f k)) ∧ ∀ a, a ≠ 122 → a ≠ 123 → a ≠ 124 → a ≠ 126 → m' a = m a) ?_ ?_ (by omega) ⟨m2, rfl, fun k hk => ?_, g2⟩
    · rintro i q hi ⟨m3, rfl, k1, k2⟩ self
      have T3 : TO (m3 116) b := by rw [k2 116 (by decide) (by decide) (by decide)]; exact T
      refine ⟨(nI (i + 1 + 1), (130, mx_up m3 124 (i + 1) (nI (lrch b D L (i + 1))), r)), ⟨_, rfl, fun k hk => ?_, fun a ha hb hc => ?_⟩, ?_⟩
      · by_cases he : k = i + 1
        · subst he
          rw [hb_up_same]
        · rw [hb_up_ne (by omega)]
          exact k1 k (by omega)
      · funext j
        rw [hb_up_ne (by omega), k2 a ha hb hc]
      · unfold f_X12_isLure_L118
        simp (disch := omega) only [gr_text H, gr_told H, gr_draft H, gr_s H, gr_past H, gr_images H, gr_notes H, gr_levels H, gr_row H, gr_reach H, gr_gains H, gr_line H, gr_rows H, gr_next H, gr_held H, al_text, al_told, al_draft, al_s, al_past, al_images, al_notes, al_levels, al_row, al_reach, al_gains, al_line, al_rows, al_next, al_held, as_text, as_told, as_draft, as_s, as_past, as_images, as_notes, as_levels, as_row, as_reach, as_gains, as_line, as_rows, as_next, as_held, gi_typed, pi_typed, gi_known, pi_known, gi_kept, pi_kept, gi_noted, pi_noted, gi_at, pi_at, gd_m, nb_lit, nI_add, nb_sub, pk_mul, nb_lt, nb_le, nb_eq, nb_and, nb_or, nb_xor, nb_shl, nb_shl2, Option.bind_some, Option.some.injEq, Prod.mk.injEq, nI_pos, if_true, if_false, ite_true, ite_false, not_true_eq_false, not_false_eq_true, and_true, true_and, and_self, or_self, b10_0, b10_1, b01_0, b01_1, b10_o, b01_o, or_true, true_or, or_false, false_or, and_false, false_and, eq_self, Nat.reduceEqDiff, b_em, b_me, ly_m, Nat.reduceLT, Nat.reduceLeDiff, Nat.reduceAdd, Nat.reduceMul, Nat.reduceSub, Bool.false_eq_true, Nat.not_lt_zero]
        rw [if_neg (show ¬ many ≤ i + 1 by omega)]
        have T4 : ∀ v : Int32, TO ((mx_up m3 124 (i + 1) v) 116) b := by
          intro v
          have e : (mx_up m3 124 (i + 1) v) 116 = m3 116 := by funext j; simp (disch := omega) only [hb_up_same, hb_up_ne, ne_eq]
          rw [e]; exact T3
        refine fix_up (fun x => (nI x, (130, mx_up m3 124 (i + 1) (nI (mk (fun x => decide (eD b D x &&& lrch b D L i ≠ 0)) x)), r))) (bN b) (fun x hx self2 => ?_) (fun self2 => ?_) (by omega)
        · have hE := wf_E2 B hx
          have hl := lt1024 (lrch_lt (D := D) hL0 i) hn.2
          have hA : bE b x &&& lrch b D L i < 1024 := Nat.lt_of_le_of_lt Nat.and_le_left hE
          unfold f_X12_isLure_L135
          simp (disch := omega) only [gr_text H, gr_told H, gr_draft H, gr_s H, gr_past H, gr_images H, gr_notes H, gr_levels H, gr_row H, gr_reach H, gr_gains H, gr_line H, gr_rows H, gr_next H, gr_held H, al_text, al_told, al_draft, al_s, al_past, al_images, al_notes, al_levels, al_row, al_reach, al_gains, al_line, al_rows, al_next, al_held, as_text, as_told, as_draft, as_s, as_past, as_images, as_notes, as_levels, as_row, as_reach, as_gains, as_line, as_rows, as_next, as_held, gi_typed, pi_typed, gi_known, pi_known, gi_kept, pi_kept, gi_noted, pi_noted, gi_at, pi_at, gd_m, to_N (T4 _), to_E (T4 _) hx, mb_has, nb_lit, nI_add, nb_sub, pk_mul, nb_lt, nb_le, nb_eq, nb_and, nb_or, nb_xor, nb_shl, nb_shl2, Option.bind_some, Option.some.injEq, Prod.mk.injEq, nI_pos, if_true, if_false, ite_true, ite_false, not_true_eq_false, not_false_eq_true, and_true, true_and, and_self, or_self, b10_0, b10_1, b01_0, b01_1, b10_o, b01_o, or_true, true_or, or_false, false_or, and_false, false_and, eq_self, Nat.reduceEqDiff, b_em, b_me, ly_m, Nat.reduceLT, Nat.reduceLeDiff, Nat.reduceAdd, Nat.reduceMul, Nat.reduceSub, Bool.false_eq_true, Nat.not_lt_zero, hb_up_same, hb_up_ne, ne_eq, Nat.add_sub_cancel, k1 i (by omega), up_up]
          rw [if_neg (show ¬ bN b ≤ x by omega)]
          simp only [mk, eD]
          by_cases hd : D.testBit x = true
          · simp (disch := omega) only [hd, nb_lit, nI_add, nb_sub, pk_mul, nb_lt, nb_le, nb_eq, nb_and, nb_or, nb_xor, nb_shl, nb_shl2, Option.bind_some, Option.some.injEq, Prod.mk.injEq, nI_pos, if_true, if_false, ite_true, ite_false, not_true_eq_false, not_false_eq_true, and_true, true_and, and_self, or_self, b10_0, b10_1, b01_0, b01_1, b10_o, b01_o, or_true, true_or, or_false, false_or, and_false, false_and, eq_self, Nat.reduceEqDiff, b_em, b_me, ly_m, Nat.reduceLT, Nat.reduceLeDiff, Nat.reduceAdd, Nat.reduceMul, Nat.reduceSub, Bool.false_eq_true, Nat.not_lt_zero, Nat.zero_and, decide_false, Nat.or_zero]
          · by_cases hz : bE b x &&& lrch b D L i = 0
            · simp (disch := omega) only [hd, hz, nb_lit, nI_add, nb_sub, pk_mul, nb_lt, nb_le, nb_eq, nb_and, nb_or, nb_xor, nb_shl, nb_shl2, Option.bind_some, Option.some.injEq, Prod.mk.injEq, nI_pos, if_true, if_false, ite_true, ite_false, not_true_eq_false, not_false_eq_true, and_true, true_and, and_self, or_self, b10_0, b10_1, b01_0, b01_1, b10_o, b01_o, or_true, true_or, or_false, false_or, and_false, false_and, eq_self, Nat.reduceEqDiff, b_em, b_me, ly_m, Nat.reduceLT, Nat.reduceLeDiff, Nat.reduceAdd, Nat.reduceMul, Nat.reduceSub, Bool.false_eq_true, Nat.not_lt_zero, decide_false, Nat.or_zero]
            · simp (disch := omega) only [hd, hz, nb_lit, nI_add, nb_sub, pk_mul, nb_lt, nb_le, nb_eq, nb_and, nb_or, nb_xor, nb_shl, nb_shl2, Option.bind_some, Option.some.injEq, Prod.mk.injEq, nI_pos, if_true, if_false, ite_true, ite_false, not_true_eq_false, not_false_eq_true, and_true, true_and, and_self, or_self, b10_0, b10_1, b01_0, b01_1, b10_o, b01_o, or_true, true_or, or_false, false_or, and_false, false_and, eq_self, Nat.reduceEqDiff, b_em, b_me, ly_m, Nat.reduceLT, Nat.reduceLeDiff, Nat.reduceAdd, Nat.reduceMul, Nat.reduceSub, Bool.false_eq_true, Nat.not_lt_zero, decide_true]
        · unfold f_X12_isLure_L135
          simp (disch := omega) only [gr_text H, gr_told H, gr_draft H, gr_s H, gr_past H, gr_images H, gr_notes H, gr_levels H, gr_row H, gr_reach H, gr_gains H, gr_line H, gr_rows H, gr_next H, gr_held H, al_text, al_told, al_draft, al_s, al_past, al_images, al_notes, al_levels, al_row, al_reach, al_gains, al_line, al_rows, al_next, al_held, as_text, as_told, as_draft, as_s, as_past, as_images, as_notes, as_levels, as_row, as_reach, as_gains, as_line, as_rows, as_next, as_held, gi_typed, pi_typed, gi_known, pi_known, gi_kept, pi_kept, gi_noted, pi_noted, gi_at, pi_at, gd_m, to_N (T4 _), nb_lit, nI_add, nb_sub, pk_mul, nb_lt, nb_le, nb_eq, nb_and, nb_or, nb_xor, nb_shl, nb_shl2, Option.bind_some, Option.some.injEq, Prod.mk.injEq, nI_pos, if_true, if_false, ite_true, ite_false, not_true_eq_false, not_false_eq_true, and_true, true_and, and_self, or_self, b10_0, b10_1, b01_0, b01_1, b10_o, b01_o, or_true, true_or, or_false, false_or, and_false, false_and, eq_self, Nat.reduceEqDiff, b_em, b_me, ly_m, Nat.reduceLT, Nat.reduceLeDiff, Nat.reduceAdd, Nat.reduceMul, Nat.reduceSub, Bool.false_eq_true, Nat.not_lt_zero]
          rw [if_pos (show bN b ≤ bN b by omega)]
          rfl
    · rintro q ⟨m3, rfl, k1, k2⟩ self
      unfold f_X12_isLure_L118
      simp (disch := omega) only [nb_lit, nI_add, nb_sub, pk_mul, nb_lt, nb_le, nb_eq, nb_and, nb_or, nb_xor, nb_shl, nb_shl2, Option.bind_some, Option.some.injEq, Prod.mk.injEq, nI_pos, if_true, if_false, ite_true, ite_false, not_true_eq_false, not_false_eq_true, and_true, true_and, and_self, or_self, b10_0, b10_1, b01_0, b01_1, b10_o, b01_o, or_true, true_or, or_false, false_or, and_false, false_and, eq_self, Nat.reduceEqDiff, b_em, b_me, ly_m, Nat.reduceLT, Nat.reduceLeDiff, Nat.reduceAdd, Nat.reduceMul, Nat.reduceSub, Bool.false_eq_true, Nat.not_lt_zero]
      rw [if_pos (show many ≤ many - 1 + 1 by omega)]
      exact key3 m3 (fun k hk => k1 k (by omega)) k2
    · have : k = 0 := by omega
      subst this
      exact g1
  -- whom each word lures
  refine fix_relS (fun i q => ∃ m' : Nat → Nat → Int32, q = (nI i, (130, m', r)) ∧ m' 124 0 = nI (mk (fun x => saysW b (knF b s f) w x) i) ∧ ∀ a, a ≠ 122 → a ≠ 123 → a ≠ 124 → m' a = m a) (bN b) (Q := fun o => ∃ m' : Nat → Nat → Int32, o = some ((if isLr b D L f many = true then nI 1 else nI 0), (130, m', r)) ∧ (isLr b D L f many = true → ∀ k, k < many → m' 126 k = nI (pathL b D L many f k)) ∧ ∀ a, a ≠ 122 → a ≠ 123 → a ≠ 124 → a ≠ 126 → m' a = m a) ?_ ?_ (by omega) ⟨_, rfl, hb_up_same, fun a ha hb hc => ?_⟩
  · rintro i q hi ⟨m2, rfl, k1, k2⟩ self
    have T2 : TO (m2 116) b := by rw [k2 116 (by decide) (by decide) (by decide)]; exact T
    obtain ⟨m3, j1, j2, j3⟩ := m_fin H T2 B (kn := knF b s f) (w := i) hkn hi
    have h4 := fmany_le (kn := knF b s f) (w := i) B
    have k1' : m3 124 0 = nI (mk (fun x => saysW b (knF b s f) w x) i) := by rw [j3 124 (by decide) (by decide)]; exact k1
    refine ⟨(nI (i + 1), (130, mx_up m3 124 0 (nI (mk (fun x => saysW b (knF b s f) w x) (i + 1))), r)), ⟨_, rfl, hb_up_same, fun a ha hb hc => ?_⟩, ?_⟩
    · funext j
      rw [hb_up_ne (by omega), j3 a ha hb, k2 a ha hb hc]
    · unfold f_X12_isLure_L24
      simp (disch := omega) only [gr_text H, gr_told H, gr_draft H, gr_s H, gr_past H, gr_images H, gr_notes H, gr_levels H, gr_row H, gr_reach H, gr_gains H, gr_line H, gr_rows H, gr_next H, gr_held H, al_text, al_told, al_draft, al_s, al_past, al_images, al_notes, al_levels, al_row, al_reach, al_gains, al_line, al_rows, al_next, al_held, as_text, as_told, as_draft, as_s, as_past, as_images, as_notes, as_levels, as_row, as_reach, as_gains, as_line, as_rows, as_next, as_held, gi_typed, pi_typed, gi_known, pi_known, gi_kept, pi_kept, gi_noted, pi_noted, gi_at, pi_at, gd_m, to_N T2, j1, nb_lit, nI_add, nb_sub, pk_mul, nb_lt, nb_le, nb_eq, nb_and, nb_or, nb_xor, nb_shl, nb_shl2, Option.bind_some, Option.some.injEq, Prod.mk.injEq, nI_pos, if_true, if_false, ite_true, ite_false, not_true_eq_false, not_false_eq_true, and_true, true_and, and_self, or_self, b10_0, b10_1, b01_0, b01_1, b10_o, b01_o, or_true, true_or, or_false, false_or, and_false, false_and, eq_self, Nat.reduceEqDiff, b_em, b_me, ly_m, Nat.reduceLT, Nat.reduceLeDiff, Nat.reduceAdd, Nat.reduceMul, Nat.reduceSub, Bool.false_eq_true, Nat.not_lt_zero]
      rw [if_neg (show ¬ bN b ≤ i by omega)]
      refine fix_up (fun k => ((if anyB (fun k => decide (fword b (knF b s f) (fmany b (knF b s f) i) i k = w)) k = true then nI 1 else nI 0), nI k)) (fmany b (knF b s f) i) (fun k hk self2 => ?_) (fun self2 => ?_) (by omega)
      · have hfw := fword_lt B hk
        unfold f_X12_isLure_L51
        simp (disch := omega) only [gr_text H, gr_told H, gr_draft H, gr_s H, gr_past H, gr_images H, gr_notes H, gr_levels H, gr_row H, gr_reach H, gr_gains H, gr_line H, gr_rows H, gr_next H, gr_held H, al_text, al_told, al_draft, al_s, al_past, al_images, al_notes, al_levels, al_row, al_reach, al_gains, al_line, al_rows, al_next, al_held, as_text, as_told, as_draft, as_s, as_past, as_images, as_notes, as_levels, as_row, as_reach, as_gains, as_line, as_rows, as_next, as_held, gi_typed, pi_typed, gi_known, pi_known, gi_kept, pi_kept, gi_noted, pi_noted, gi_at, pi_at, gd_m, j2 k hk, nb_lit, nI_add, nb_sub, pk_mul, nb_lt, nb_le, nb_eq, nb_and, nb_or, nb_xor, nb_shl, nb_shl2, Option.bind_some, Option.some.injEq, Prod.mk.injEq, nI_pos, if_true, if_false, ite_true, ite_false, not_true_eq_false, not_false_eq_true, and_true, true_and, and_self, or_self, b10_0, b10_1, b01_0, b01_1, b10_o, b01_o, or_true, true_or, or_false, false_or, and_false, false_and, eq_self, Nat.reduceEqDiff, b_em, b_me, ly_m, Nat.reduceLT, Nat.reduceLeDiff, Nat.reduceAdd, Nat.reduceMul, Nat.reduceSub, Bool.false_eq_true, Nat.not_lt_zero]
        rw [if_neg (show ¬ fmany b (knF b s f) i ≤ k by omega)]
        simp only [anyB]
        by_cases hA : anyB (fun k => decide (fword b (knF b s f) (fmany b (knF b s f) i) i k = w)) k = true
        · simp (disch := omega) only [hA, nb_lit, nI_add, nb_sub, pk_mul, nb_lt, nb_le, nb_eq, nb_and, nb_or, nb_xor, nb_shl, nb_shl2, Option.bind_some, Option.some.injEq, Prod.mk.injEq, nI_pos, if_true, if_false, ite_true, ite_false, not_true_eq_false, not_false_eq_true, and_true, true_and, and_self, or_self, b10_0, b10_1, b01_0, b01_1, b10_o, b01_o, or_true, true_or, or_false, false_or, and_false, false_and, eq_self, Nat.reduceEqDiff, b_em, b_me, ly_m, Nat.reduceLT, Nat.reduceLeDiff, Nat.reduceAdd, Nat.reduceMul, Nat.reduceSub, Bool.false_eq_true, Nat.not_lt_zero, Bool.true_or]
        · by_cases he : fword b (knF b s f) (fmany b (knF b s f) i) i k = w
          · simp (disch := omega) only [hA, he, nb_lit, nI_add, nb_sub, pk_mul, nb_lt, nb_le, nb_eq, nb_and, nb_or, nb_xor, nb_shl, nb_shl2, Option.bind_some, Option.some.injEq, Prod.mk.injEq, nI_pos, if_true, if_false, ite_true, ite_false, not_true_eq_false, not_false_eq_true, and_true, true_and, and_self, or_self, b10_0, b10_1, b01_0, b01_1, b10_o, b01_o, or_true, true_or, or_false, false_or, and_false, false_and, eq_self, Nat.reduceEqDiff, b_em, b_me, ly_m, Nat.reduceLT, Nat.reduceLeDiff, Nat.reduceAdd, Nat.reduceMul, Nat.reduceSub, Bool.false_eq_true, Nat.not_lt_zero, decide_true, Bool.or_true]
          · simp (disch := omega) only [hA, he, nb_lit, nI_add, nb_sub, pk_mul, nb_lt, nb_le, nb_eq, nb_and, nb_or, nb_xor, nb_shl, nb_shl2, Option.bind_some, Option.some.injEq, Prod.mk.injEq, nI_pos, if_true, if_false, ite_true, ite_false, not_true_eq_false, not_false_eq_true, and_true, true_and, and_self, or_self, b10_0, b10_1, b01_0, b01_1, b10_o, b01_o, or_true, true_or, or_false, false_or, and_false, false_and, eq_self, Nat.reduceEqDiff, b_em, b_me, ly_m, Nat.reduceLT, Nat.reduceLeDiff, Nat.reduceAdd, Nat.reduceMul, Nat.reduceSub, Bool.false_eq_true, Nat.not_lt_zero, decide_false, Bool.or_false]
      · unfold f_X12_isLure_L51
        have hsy : anyB (fun k => decide (fword b (knF b s f) (fmany b (knF b s f) i) i k = w)) (fmany b (knF b s f) i) = saysW b (knF b s f) w i := rfl
        simp (disch := omega) only [gr_text H, gr_told H, gr_draft H, gr_s H, gr_past H, gr_images H, gr_notes H, gr_levels H, gr_row H, gr_reach H, gr_gains H, gr_line H, gr_rows H, gr_next H, gr_held H, al_text, al_told, al_draft, al_s, al_past, al_images, al_notes, al_levels, al_row, al_reach, al_gains, al_line, al_rows, al_next, al_held, as_text, as_told, as_draft, as_s, as_past, as_images, as_notes, as_levels, as_row, as_reach, as_gains, as_line, as_rows, as_next, as_held, gi_typed, pi_typed, gi_known, pi_known, gi_kept, pi_kept, gi_noted, pi_noted, gi_at, pi_at, gd_m, k1', hsy, nb_lit, nI_add, nb_sub, pk_mul, nb_lt, nb_le, nb_eq, nb_and, nb_or, nb_xor, nb_shl, nb_shl2, Option.bind_some, Option.some.injEq, Prod.mk.injEq, nI_pos, if_true, if_false, ite_true, ite_false, not_true_eq_false, not_false_eq_true, and_true, true_and, and_self, or_self, b10_0, b10_1, b01_0, b01_1, b10_o, b01_o, or_true, true_or, or_false, false_or, and_false, false_and, eq_self, Nat.reduceEqDiff, b_em, b_me, ly_m, Nat.reduceLT, Nat.reduceLeDiff, Nat.reduceAdd, Nat.reduceMul, Nat.reduceSub, Bool.false_eq_true, Nat.not_lt_zero]
        rw [if_pos (show fmany b (knF b s f) i ≤ fmany b (knF b s f) i by omega)]
        simp only [mk]
        by_cases hA : saysW b (knF b s f) w i = true
        · simp (disch := omega) only [gr_text H, gr_told H, gr_draft H, gr_s H, gr_past H, gr_images H, gr_notes H, gr_levels H, gr_row H, gr_reach H, gr_gains H, gr_line H, gr_rows H, gr_next H, gr_held H, al_text, al_told, al_draft, al_s, al_past, al_images, al_notes, al_levels, al_row, al_reach, al_gains, al_line, al_rows, al_next, al_held, as_text, as_told, as_draft, as_s, as_past, as_images, as_notes, as_levels, as_row, as_reach, as_gains, as_line, as_rows, as_next, as_held, gi_typed, pi_typed, gi_known, pi_known, gi_kept, pi_kept, gi_noted, pi_noted, gi_at, pi_at, gd_m, hA, nb_lit, nI_add, nb_sub, pk_mul, nb_lt, nb_le, nb_eq, nb_and, nb_or, nb_xor, nb_shl, nb_shl2, Option.bind_some, Option.some.injEq, Prod.mk.injEq, nI_pos, if_true, if_false, ite_true, ite_false, not_true_eq_false, not_false_eq_true, and_true, true_and, and_self, or_self, b10_0, b10_1, b01_0, b01_1, b10_o, b01_o, or_true, true_or, or_false, false_or, and_false, false_and, eq_self, Nat.reduceEqDiff, b_em, b_me, ly_m, Nat.reduceLT, Nat.reduceLeDiff, Nat.reduceAdd, Nat.reduceMul, Nat.reduceSub, Bool.false_eq_true, Nat.not_lt_zero]
        · simp (disch := omega) only [gr_text H, gr_told H, gr_draft H, gr_s H, gr_past H, gr_images H, gr_notes H, gr_levels H, gr_row H, gr_reach H, gr_gains H, gr_line H, gr_rows H, gr_next H, gr_held H, al_text, al_told, al_draft, al_s, al_past, al_images, al_notes, al_levels, al_row, al_reach, al_gains, al_line, al_rows, al_next, al_held, as_text, as_told, as_draft, as_s, as_past, as_images, as_notes, as_levels, as_row, as_reach, as_gains, as_line, as_rows, as_next, as_held, gi_typed, pi_typed, gi_known, pi_known, gi_kept, pi_kept, gi_noted, pi_noted, gi_at, pi_at, gd_m, hA, nb_lit, nI_add, nb_sub, pk_mul, nb_lt, nb_le, nb_eq, nb_and, nb_or, nb_xor, nb_shl, nb_shl2, Option.bind_some, Option.some.injEq, Prod.mk.injEq, nI_pos, if_true, if_false, ite_true, ite_false, not_true_eq_false, not_false_eq_true, and_true, true_and, and_self, or_self, b10_0, b10_1, b01_0, b01_1, b10_o, b01_o, or_true, true_or, or_false, false_or, and_false, false_and, eq_self, Nat.reduceEqDiff, b_em, b_me, ly_m, Nat.reduceLT, Nat.reduceLeDiff, Nat.reduceAdd, Nat.reduceMul, Nat.reduceSub, Bool.false_eq_true, Nat.not_lt_zero, Nat.or_zero]
  · rintro q ⟨m2, rfl, k1, k2⟩ self
    have T2 : TO (m2 116) b := by rw [k2 116 (by decide) (by decide) (by decide)]; exact T
    unfold f_X12_isLure_L24
    simp (disch := omega) only [gr_text H, gr_told H, gr_draft H, gr_s H, gr_past H, gr_images H, gr_notes H, gr_levels H, gr_row H, gr_reach H, gr_gains H, gr_line H, gr_rows H, gr_next H, gr_held H, al_text, al_told, al_draft, al_s, al_past, al_images, al_notes, al_levels, al_row, al_reach, al_gains, al_line, al_rows, al_next, al_held, as_text, as_told, as_draft, as_s, as_past, as_images, as_notes, as_levels, as_row, as_reach, as_gains, as_line, as_rows, as_next, as_held, gi_typed, pi_typed, gi_known, pi_known, gi_kept, pi_kept, gi_noted, pi_noted, gi_at, pi_at, gd_m, to_N T2, nb_lit, nI_add, nb_sub, pk_mul, nb_lt, nb_le, nb_eq, nb_and, nb_or, nb_xor, nb_shl, nb_shl2, Option.bind_some, Option.some.injEq, Prod.mk.injEq, nI_pos, if_true, if_false, ite_true, ite_false, not_true_eq_false, not_false_eq_true, and_true, true_and, and_self, or_self, b10_0, b10_1, b01_0, b01_1, b10_o, b01_o, or_true, true_or, or_false, false_or, and_false, false_and, eq_self, Nat.reduceEqDiff, b_em, b_me, ly_m, Nat.reduceLT, Nat.reduceLeDiff, Nat.reduceAdd, Nat.reduceMul, Nat.reduceSub, Bool.false_eq_true, Nat.not_lt_zero]
    rw [if_pos (show bN b ≤ bN b by omega)]
    refine key2 m2 ?_ k2
    rw [k1, ← hLd]
    rfl
  · funext j
    rw [hb_up_ne (by omega), e2 a ha hb]
theorem mc_lure (H : MR r) (R : RelM m A) (W : WFa A) (x y : Int32) : MOk (f_X12_lure 114 x y (130, m, r)) m r (v_lure A x y) A := by
  obtain ⟨r1, T, S, r4, r5, r6⟩ := id R
  have B := W.2.1
  have F := W.2.2.1
  have hn := wf_N B
  unfold f_X12_lure v_lure
  rw [mb_in]
  by_cases hx : x < 0 ∨ nI (bN (aB A)) ≤ x
  · rw [if_pos (Or.inl hx)]
    refine MOk.mk0 R ?_
    simp (disch := omega) only [m_noW H T B hx, nb_lit, nI_add, nb_sub, pk_mul, nb_lt, nb_le, nb_eq, nb_and, nb_or, nb_xor, nb_shl, nb_shl2, Option.bind_some, Option.some.injEq, Prod.mk.injEq, nI_pos, if_true, if_false, ite_true, ite_false, not_true_eq_false, not_false_eq_true, and_true, true_and, and_self, or_self, b10_0, b10_1, b01_0, b01_1, b10_o, b01_o, or_true, true_or, or_false, false_or, and_false, false_and, eq_self, Nat.reduceEqDiff, b_em, b_me, ly_m, Nat.reduceLT, Nat.reduceLeDiff, Nat.reduceAdd, Nat.reduceMul, Nat.reduceSub, Bool.false_eq_true, Nat.not_lt_zero]
  · obtain ⟨w, hw, rfl, e⟩ := nword B hx
    by_cases hy : y < -1 ∨ 9 < y
    · rw [if_pos (Or.inr hy), if_pos hy]
      refine MOk.mk0 R ?_
      simp (disch := omega) only [m_isW H T B hw, nb_lit, nI_add, nb_sub, pk_mul, nb_lt, nb_le, nb_eq, nb_and, nb_or, nb_xor, nb_shl, nb_shl2, Option.bind_some, Option.some.injEq, Prod.mk.injEq, nI_pos, if_true, if_false, ite_true, ite_false, not_true_eq_false, not_false_eq_true, and_true, true_and, and_self, or_self, b10_0, b10_1, b01_0, b01_1, b10_o, b01_o, or_true, true_or, or_false, false_or, and_false, false_and, eq_self, Nat.reduceEqDiff, b_em, b_me, ly_m, Nat.reduceLT, Nat.reduceLeDiff, Nat.reduceAdd, Nat.reduceMul, Nat.reduceSub, Bool.false_eq_true, Nat.not_lt_zero]
    · rw [if_neg hy, if_neg (not_or.mpr ⟨hx, hy⟩), e]
      have hy1 : ¬ y < -1 := fun z => hy (Or.inl z)
      have hy9 : ¬ 9 < y := fun z => hy (Or.inr z)
      simp (disch := omega) only [m_isW H T B hw, nb_lit, nI_add, nb_sub, pk_mul, nb_lt, nb_le, nb_eq, nb_and, nb_or, nb_xor, nb_shl, nb_shl2, Option.bind_some, Option.some.injEq, Prod.mk.injEq, nI_pos, if_true, if_false, ite_true, ite_false, not_true_eq_false, not_false_eq_true, and_true, true_and, and_self, or_self, b10_0, b10_1, b01_0, b01_1, b10_o, b01_o, or_true, true_or, or_false, false_or, and_false, false_and, eq_self, Nat.reduceEqDiff, b_em, b_me, ly_m, Nat.reduceLT, Nat.reduceLeDiff, Nat.reduceAdd, Nat.reduceMul, Nat.reduceSub, Bool.false_eq_true, Nat.not_lt_zero]
      generalize aB A = b at *
      generalize aS A = s at *
      refine fix_findS (fun i q => ∃ m' : Nat → Nat → Int32, q = (nI (i + 1), (130, m', r)) ∧ (∀ k, k < i → ¬ fst (fun f => lrB b s w k f) (bN b) < bN b) ∧ ∀ a, a ≠ 122 → a ≠ 123 → a ≠ 124 → a ≠ 126 → m' a = m a) 10 (Q := fun o => MOk o m r (tel (lrC b s w) (lrR b s w) y) A) ?_ ?_ (by omega) ⟨m, rfl, fun k hk => absurd hk (Nat.not_lt_zero k), fun a _ _ _ _ => rfl⟩
      · rintro i q hi ⟨m1, rfl, g1, g2⟩ self
        unfold f_X12_lure_L22
        simp (disch := omega) only [nb_lit, nI_add, nb_sub, pk_mul, nb_lt, nb_le, nb_eq, nb_and, nb_or, nb_xor, nb_shl, nb_shl2, Option.bind_some, Option.some.injEq, Prod.mk.injEq, nI_pos, if_true, if_false, ite_true, ite_false, not_true_eq_false, not_false_eq_true, and_true, true_and, and_self, or_self, b10_0, b10_1, b01_0, b01_1, b10_o, b01_o, or_true, true_or, or_false, false_or, and_false, false_and, eq_self, Nat.reduceEqDiff, b_em, b_me, ly_m, Nat.reduceLT, Nat.reduceLeDiff, Nat.reduceAdd, Nat.reduceMul, Nat.reduceSub, Bool.false_eq_true, Nat.not_lt_zero]
        rw [if_neg (by omega)]
        refine fix_findS (fun f q => ∃ m' : Nat → Nat → Int32, q = (nI f, (130, m', r)) ∧ (∀ g, g < f → lrB b s w i g = false) ∧ ∀ a, a ≠ 122 → a ≠ 123 → a ≠ 124 → a ≠ 126 → m' a = m a) (bN b) (Q := fun o => (∃ s', (∃ m' : Nat → Nat → Int32, s' = (nI (i + 1 + 1), (130, m', r)) ∧ (∀ k, k < i + 1 → ¬ fst (fun f => lrB b s w k f) (bN b) < bN b) ∧ ∀ a, a ≠ 122 → a ≠ 123 → a ≠ 124 → a ≠ 126 → m' a = m a) ∧ o = self s') ∨ MOk o m r (tel (lrC b s w) (lrR b s w) y) A) ?_ ?_ (by omega) ⟨m1, rfl, fun k hk => absurd hk (Nat.not_lt_zero k), g2⟩
        · rintro f q hf ⟨m2, rfl, k1, k2⟩ self2
          have T2 : TO (m2 116) b := by rw [k2 116 (by decide) (by decide) (by decide) (by decide)]; exact T
          have S2 : SM (m2 118) 0 s := by rw [k2 118 (by decide) (by decide) (by decide) (by decide)]; exact S
          obtain ⟨m3, j1, j2, j3⟩ := m_isLure (many := i + 1) H T2 B S2 F hw hf (by omega) (by omega)
          have j4 : ∀ a, a ≠ 122 → a ≠ 123 → a ≠ 124 → a ≠ 126 → m3 a = m a := fun a ha hb hc hd => by rw [j3 a ha hb hc hd, k2 a ha hb hc hd]
          unfold f_X12_lure_L31
          by_cases hsf : lrB b s w i f = true
          · right; right
            have hsf' : isLr b (dF b s f) (l0F b s w f) f (i + 1) = true := hsf
            have hF : fst (fun g => lrB b s w i g) (bN b) = f := fst_eq hf hsf k1
            have hK : lrK b s w = i := by
              unfold lrK
              refine fst_eq hi ?_ (fun k hk => ?_)
              · simp only [decide_eq_true_eq]
                rw [hF]; exact hf
              · simp only [decide_eq_false_iff_not]
                exact g1 k hk
            have hFF : lrF b s w = f := by unfold lrF; rw [hK]; exact hF
            have hC : lrC b s w = i + 1 := by unfold lrC; rw [hK, if_neg (by omega)]
            refine ⟨m3, ?_, R.same (fun a h1 h2 => j4 a (by omega) (by omega) (by omega) (by omega)), fun a ha => j4 a (by omega) (by omega) (by omega) (by omega)⟩
            rw [hsf'] at j1
            simp (disch := omega) only [gr_text H, gr_told H, gr_draft H, gr_s H, gr_past H, gr_images H, gr_notes H, gr_levels H, gr_row H, gr_reach H, gr_gains H, gr_line H, gr_rows H, gr_next H, gr_held H, al_text, al_told, al_draft, al_s, al_past, al_images, al_notes, al_levels, al_row, al_reach, al_gains, al_line, al_rows, al_next, al_held, as_text, as_told, as_draft, as_s, as_past, as_images, as_notes, as_levels, as_row, as_reach, as_gains, as_line, as_rows, as_next, as_held, gi_typed, pi_typed, gi_known, pi_known, gi_kept, pi_kept, gi_noted, pi_noted, gi_at, pi_at, gd_m, to_N T2, j1, nb_lit, nI_add, nb_sub, pk_mul, nb_lt, nb_le, nb_eq, nb_and, nb_or, nb_xor, nb_shl, nb_shl2, Option.bind_some, Option.some.injEq, Prod.mk.injEq, nI_pos, if_true, if_false, ite_true, ite_false, not_true_eq_false, not_false_eq_true, and_true, true_and, and_self, or_self, b10_0, b10_1, b01_0, b01_1, b10_o, b01_o, or_true, true_or, or_false, false_or, and_false, false_and, eq_self, Nat.reduceEqDiff, b_em, b_me, ly_m, Nat.reduceLT, Nat.reduceLeDiff, Nat.reduceAdd, Nat.reduceMul, Nat.reduceSub, Bool.false_eq_true, Nat.not_lt_zero]
            rw [if_neg (show ¬ bN b ≤ f by omega)]
            unfold tel
            rw [hC, if_neg (show ¬ i + 1 = 0 by omega)]
            rcases y_or (c := i + 1) (by omega) hy1 with q | q | ⟨j, hj, rfl⟩
            · subst q
              simp only [nb_lit, nI_add, nb_sub, pk_mul, nb_lt, nb_le, nb_eq, nb_and, nb_or, nb_xor, nb_shl, nb_shl2, Option.bind_some, Option.some.injEq, Prod.mk.injEq, nI_pos, if_true, if_false, ite_true, ite_false, not_true_eq_false, not_false_eq_true, and_true, true_and, and_self, or_self, b10_0, b10_1, b01_0, b01_1, b10_o, b01_o, or_true, true_or, or_false, false_or, and_false, false_and, eq_self, Nat.reduceEqDiff, b_em, b_me, ly_m, Nat.reduceLT, Nat.reduceLeDiff, Nat.reduceAdd, Nat.reduceMul, Nat.reduceSub, Bool.false_eq_true, Nat.not_lt_zero]
            · by_cases hm : y = -nI 1
              · subst hm
                simp only [nb_lit, nI_add, nb_sub, pk_mul, nb_lt, nb_le, nb_eq, nb_and, nb_or, nb_xor, nb_shl, nb_shl2, Option.bind_some, Option.some.injEq, Prod.mk.injEq, nI_pos, if_true, if_false, ite_true, ite_false, not_true_eq_false, not_false_eq_true, and_true, true_and, and_self, or_self, b10_0, b10_1, b01_0, b01_1, b10_o, b01_o, or_true, true_or, or_false, false_or, and_false, false_and, eq_self, Nat.reduceEqDiff, b_em, b_me, ly_m, Nat.reduceLT, Nat.reduceLeDiff, Nat.reduceAdd, Nat.reduceMul, Nat.reduceSub, Bool.false_eq_true, Nat.not_lt_zero]
              · simp only [hm, q, nb_lit, nI_add, nb_sub, pk_mul, nb_lt, nb_le, nb_eq, nb_and, nb_or, nb_xor, nb_shl, nb_shl2, Option.bind_some, Option.some.injEq, Prod.mk.injEq, nI_pos, if_true, if_false, ite_true, ite_false, not_true_eq_false, not_false_eq_true, and_true, true_and, and_self, or_self, b10_0, b10_1, b01_0, b01_1, b10_o, b01_o, or_true, true_or, or_false, false_or, and_false, false_and, eq_self, Nat.reduceEqDiff, b_em, b_me, ly_m, Nat.reduceLT, Nat.reduceLeDiff, Nat.reduceAdd, Nat.reduceMul, Nat.reduceSub, Bool.false_eq_true, Nat.not_lt_zero]
            · have hm := nI_ne_m1 (j := j) (by omega)
              have hp : m3 126 j = nI (lrR b s w j) := by
                unfold lrR
                rw [hFF, hK]
                exact j2 hsf' j hj
              simp (disch := omega) only [gr_text H, gr_told H, gr_draft H, gr_s H, gr_past H, gr_images H, gr_notes H, gr_levels H, gr_row H, gr_reach H, gr_gains H, gr_line H, gr_rows H, gr_next H, gr_held H, al_text, al_told, al_draft, al_s, al_past, al_images, al_notes, al_levels, al_row, al_reach, al_gains, al_line, al_rows, al_next, al_held, as_text, as_told, as_draft, as_s, as_past, as_images, as_notes, as_levels, as_row, as_reach, as_gains, as_line, as_rows, as_next, as_held, gi_typed, pi_typed, gi_known, pi_known, gi_kept, pi_kept, gi_noted, pi_noted, gi_at, pi_at, gd_m, hm, hp, nb_lit, nI_add, nb_sub, pk_mul, nb_lt, nb_le, nb_eq, nb_and, nb_or, nb_xor, nb_shl, nb_shl2, Option.bind_some, Option.some.injEq, Prod.mk.injEq, nI_pos, if_true, if_false, ite_true, ite_false, not_true_eq_false, not_false_eq_true, and_true, true_and, and_self, or_self, b10_0, b10_1, b01_0, b01_1, b10_o, b01_o, or_true, true_or, or_false, false_or, and_false, false_and, eq_self, Nat.reduceEqDiff, b_em, b_me, ly_m, Nat.reduceLT, Nat.reduceLeDiff, Nat.reduceAdd, Nat.reduceMul, Nat.reduceSub, Bool.false_eq_true, Nat.not_lt_zero, nb_cl, show (i + 1 ≤ j) = False from eq_false (by omega)]
          · left
            have hsf' : ¬ isLr b (dF b s f) (l0F b s w f) f (i + 1) = true := hsf
            refine ⟨(nI (f + 1), (130, m3, r)), ⟨m3, rfl, fun g hg => ?_, j4⟩, ?_⟩
            · by_cases he : g = f
              · subst he; simpa using hsf
              · exact k1 g (by omega)
            · rw [if_neg hsf'] at j1
              simp (disch := omega) only [gr_text H, gr_told H, gr_draft H, gr_s H, gr_past H, gr_images H, gr_notes H, gr_levels H, gr_row H, gr_reach H, gr_gains H, gr_line H, gr_rows H, gr_next H, gr_held H, al_text, al_told, al_draft, al_s, al_past, al_images, al_notes, al_levels, al_row, al_reach, al_gains, al_line, al_rows, al_next, al_held, as_text, as_told, as_draft, as_s, as_past, as_images, as_notes, as_levels, as_row, as_reach, as_gains, as_line, as_rows, as_next, as_held, gi_typed, pi_typed, gi_known, pi_known, gi_kept, pi_kept, gi_noted, pi_noted, gi_at, pi_at, gd_m, to_N T2, j1, nb_lit, nI_add, nb_sub, pk_mul, nb_lt, nb_le, nb_eq, nb_and, nb_or, nb_xor, nb_shl, nb_shl2, Option.bind_some, Option.some.injEq, Prod.mk.injEq, nI_pos, if_true, if_false, ite_true, ite_false, not_true_eq_false, not_false_eq_true, and_true, true_and, and_self, or_self, b10_0, b10_1, b01_0, b01_1, b10_o, b01_o, or_true, true_or, or_false, false_or, and_false, false_and, eq_self, Nat.reduceEqDiff, b_em, b_me, ly_m, Nat.reduceLT, Nat.reduceLeDiff, Nat.reduceAdd, Nat.reduceMul, Nat.reduceSub, Bool.false_eq_true, Nat.not_lt_zero]
              rw [if_neg (by omega)]
        · rintro q ⟨m2, rfl, k1, k2⟩ self2
          have T2 : TO (m2 116) b := by rw [k2 116 (by decide) (by decide) (by decide) (by decide)]; exact T
          left
          refine ⟨(nI (i + 1 + 1), (130, m2, r)), ⟨m2, rfl, fun k hk => ?_, k2⟩, ?_⟩
          · by_cases he : k = i
            · subst he
              rw [fst_none k1]
              omega
            · exact g1 k (by omega)
          · unfold f_X12_lure_L31
            simp (disch := omega) only [gr_text H, gr_told H, gr_draft H, gr_s H, gr_past H, gr_images H, gr_notes H, gr_levels H, gr_row H, gr_reach H, gr_gains H, gr_line H, gr_rows H, gr_next H, gr_held H, al_text, al_told, al_draft, al_s, al_past, al_images, al_notes, al_levels, al_row, al_reach, al_gains, al_line, al_rows, al_next, al_held, as_text, as_told, as_draft, as_s, as_past, as_images, as_notes, as_levels, as_row, as_reach, as_gains, as_line, as_rows, as_next, as_held, gi_typed, pi_typed, gi_known, pi_known, gi_kept, pi_kept, gi_noted, pi_noted, gi_at, pi_at, gd_m, to_N T2, nb_lit, nI_add, nb_sub, pk_mul, nb_lt, nb_le, nb_eq, nb_and, nb_or, nb_xor, nb_shl, nb_shl2, Option.bind_some, Option.some.injEq, Prod.mk.injEq, nI_pos, if_true, if_false, ite_true, ite_false, not_true_eq_false, not_false_eq_true, and_true, true_and, and_self, or_self, b10_0, b10_1, b01_0, b01_1, b10_o, b01_o, or_true, true_or, or_false, false_or, and_false, false_and, eq_self, Nat.reduceEqDiff, b_em, b_me, ly_m, Nat.reduceLT, Nat.reduceLeDiff, Nat.reduceAdd, Nat.reduceMul, Nat.reduceSub, Bool.false_eq_true, Nat.not_lt_zero]
            rw [if_pos (by omega)]
      · rintro q ⟨m1, rfl, g1, g2⟩ self
        have hK : lrK b s w = 10 := by
          unfold lrK
          refine fst_none (fun k hk => ?_)
          simp only [decide_eq_false_iff_not]
          exact g1 k hk
        unfold f_X12_lure_L22
        simp (disch := omega) only [nb_lit, nI_add, nb_sub, pk_mul, nb_lt, nb_le, nb_eq, nb_and, nb_or, nb_xor, nb_shl, nb_shl2, Option.bind_some, Option.some.injEq, Prod.mk.injEq, nI_pos, if_true, if_false, ite_true, ite_false, not_true_eq_false, not_false_eq_true, and_true, true_and, and_self, or_self, b10_0, b10_1, b01_0, b01_1, b10_o, b01_o, or_true, true_or, or_false, false_or, and_false, false_and, eq_self, Nat.reduceEqDiff, b_em, b_me, ly_m, Nat.reduceLT, Nat.reduceLeDiff, Nat.reduceAdd, Nat.reduceMul, Nat.reduceSub, Bool.false_eq_true, Nat.not_lt_zero]
        refine ⟨m1, ?_, R.same (fun a h1 h2 => g2 a (by omega) (by omega) (by omega) (by omega)), fun a ha => g2 a (by omega) (by omega) (by omega) (by omega)⟩
        unfold tel lrC
        rw [hK]
        rfl
end M9
