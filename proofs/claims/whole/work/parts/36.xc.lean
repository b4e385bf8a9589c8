/-! sitting: both ways come to the same -/
def cwN (b : Bo) : Nat → Nat × Nat
  | 0 => (ahead b (stopsB b), 0)
  | i + 1 => ((cwN b i).1 ||| ahead b (nb_dif (nb_dif (aAll b) (cwN b i).1) (ahead b (nb_dif (aAll b) (cwN b i).1))), nb_dif (nb_dif (aAll b) (cwN b i).1) (ahead b (nb_dif (aAll b) (cwN b i).1)))
section Sit
variable {b : Bo} {x y k j : Nat}
theorem ah_bit (W : WFb b) {S : Nat} (hx : x < bN b) : (ahead b S).testBit x = true ↔ ∃ y, y < bN b ∧ (bE b x).testBit y = true ∧ S.testBit y = true := by
  unfold ahead
  rw [mk_bit]
  simp only [hx, decide_true, Bool.true_and, decide_eq_true_eq]
  exact and_ne0 (wf_E W hx)
theorem wl_w (W : WFb b) (hx : x < bN b) : ((wlN b (k + 1)).1.testBit x = true) ↔ (wlN b k).1.testBit x = true ∨ ∃ y, y < bN b ∧ (bE b x).testBit y = true ∧ ((stopsB b).testBit y = true ∨ (wlN b k).2.testBit y = true) := by
  show ((wlN b k).1 ||| mk (fun x => decide (bE b x &&& (stopsB b ||| (wlN b k).2) ≠ 0)) (bN b)).testBit x = true ↔ _
  rw [Nat.testBit_or, Bool.or_eq_true, mk_bit]
  simp only [hx, decide_true, Bool.true_and, decide_eq_true_eq]
  rw [and_ne0 (wf_E W hx)]
  simp only [Nat.testBit_or, Bool.or_eq_true]
theorem wl_l (W : WFb b) (hx : x < bN b) : ((wlN b (k + 1)).2.testBit x = true) ↔ (wlN b k).2.testBit x = true ∨ ∀ y, y < bN b → (bE b x).testBit y = true → ¬ (stopsB b).testBit y = true ∧ (wlN b k).1.testBit y = true := by
  show ((wlN b k).2 ||| mk (fun x => decide ((bE b x &&& stopsB b) ||| nb_dif (bE b x) (wlN b k).1 = 0)) (bN b)).testBit x = true ↔ _
  rw [Nat.testBit_or, Bool.or_eq_true, mk_bit]
  simp only [hx, decide_true, Bool.true_and, decide_eq_true_eq]
  have hE := wf_E W hx
  have hE2 := wf_E2 W hx
  refine or_congr Iff.rfl ⟨fun h y hy he => ?_, fun h => ?_⟩
  · have hb := congrArg (fun z => z.testBit y) h
    simp only [Nat.testBit_or, Nat.testBit_and, nb_dif_bit hE2, he, Bool.true_and, Nat.zero_testBit, Bool.or_eq_false_iff, Bool.not_eq_false'] at hb
    exact ⟨by rw [hb.1]; decide, hb.2⟩
  · apply Nat.eq_of_testBit_eq
    intro y
    rw [Nat.testBit_or, Nat.testBit_and, nb_dif_bit hE2, Nat.zero_testBit]
    by_cases he : (bE b x).testBit y = true
    · have hy : y < bN b := by
        apply Decidable.byContradiction
        intro hc
        rw [lt_bit hE (by omega)] at he
        cases he
      obtain ⟨h1, h2⟩ := h y hy he
      simp [h1, h2]
    · simp [he]
theorem wl_mono (W : WFb b) (hx : x < bN b) : ((wlN b k).1.testBit x = true → (wlN b (k + j)).1.testBit x = true) ∧ ((wlN b k).2.testBit x = true → (wlN b (k + j)).2.testBit x = true) := by
  induction j with
  | zero => exact ⟨id, id⟩
  | succ j ih => exact ⟨fun h => (wl_w W hx).mpr (Or.inl (ih.1 h)), fun h => (wl_l W hx).mpr (Or.inl (ih.2 h))⟩
/-- without what was -/
theorem wl_w2 (W : WFb b) (hx : x < bN b) : ((wlN b (k + 1)).1.testBit x = true) ↔ ∃ y, y < bN b ∧ (bE b x).testBit y = true ∧ ((stopsB b).testBit y = true ∨ (wlN b k).2.testBit y = true) := by
  induction k with
  | zero =>
    rw [wl_w W hx]
    show ((0 : Nat).testBit x = true ∨ _) ↔ _
    simp
  | succ k ih =>
    rw [wl_w W hx, ih]
    constructor
    · rintro (⟨y, h1, h2, h3⟩ | h)
      · exact ⟨y, h1, h2, h3.imp id (fun q => (wl_mono (j := 1) W h1).2 q)⟩
      · exact h
    · exact Or.inr
theorem wl_l2 (W : WFb b) (hx : x < bN b) : ((wlN b (k + 1)).2.testBit x = true) ↔ ∀ y, y < bN b → (bE b x).testBit y = true → ¬ (stopsB b).testBit y = true ∧ (wlN b k).1.testBit y = true := by
  induction k with
  | zero =>
    rw [wl_l W hx]
    show ((0 : Nat).testBit x = true ∨ _) ↔ _
    simp
  | succ k ih =>
    rw [wl_l W hx, ih]
    constructor
    · rintro (h | h)
      · exact fun y h1 h2 => ⟨(h y h1 h2).1, (wl_mono (j := 1) W h1).1 (h y h1 h2).2⟩
      · exact h
    · exact Or.inr
theorem wl_dis (W : WFb b) : ∀ t k j x, k + j ≤ t → x < bN b → (wlN b k).1.testBit x = true → (wlN b j).2.testBit x = true → False := by
  intro t
  induction t with
  | zero =>
    intro k j x h hx h1 h2
    have : k = 0 := by omega
    subst this
    exact absurd h1 (by show ¬ (0 : Nat).testBit x = true; simp)
  | succ t ih =>
    intro k j x h hx h1 h2
    cases k with
    | zero => exact absurd h1 (by show ¬ (0 : Nat).testBit x = true; simp)
    | succ k =>
      cases j with
      | zero => exact absurd h2 (by show ¬ (0 : Nat).testBit x = true; simp)
      | succ j =>
        obtain ⟨y, y1, y2, y3⟩ := (wl_w2 W hx).mp h1
        obtain ⟨z1, z2⟩ := (wl_l2 W hx).mp h2 y y1 y2
        rcases y3 with y3 | y3
        · exact z1 y3
        · exact ih j k y (by omega) y1 z2 y3
theorem cw_eq (W : WFb b) : ∀ i, (cwN b i).1 = (wlN b (2 * i + 1)).1 ∧ (cwN b (i + 1)).2 = (wlN b (2 * i + 2)).2 := by
  have alt : aAll b < 1024 := aAll_lt W
  have step : ∀ i, (cwN b i).1 = (wlN b (2 * i + 1)).1 → (cwN b (i + 1)).2 = (wlN b (2 * i + 2)).2 := by
    intro i hi
    refine bit_ext (n := bN b) (dif_lt (dif_lt aAll_lt2)) (wlN_lt b _).2 (fun x hx => ?_)
    show (nb_dif (nb_dif (aAll b) (cwN b i).1) (ahead b (nb_dif (aAll b) (cwN b i).1))).testBit x = _
    rw [Bool.eq_iff_iff, wl_l2 W hx, nb_dif_bit (nb_dif_lt alt), nb_dif_bit alt, aAll_bit, hi]
    simp only [hx, decide_true, Bool.true_and, Bool.and_eq_true, Bool.not_eq_true', ← Bool.not_eq_true]
    rw [ah_bit W hx]
    constructor
    · rintro ⟨h1, h2⟩ y y1 y2
      refine ⟨fun q => h1 ?_, ?_⟩
      · have h3 : (wlN b (0 + 1)).1.testBit x = true := (wl_w2 W hx).mpr ⟨y, y1, y2, Or.inl q⟩
        have := (wl_mono (k := 0 + 1) (j := 2 * i) W hx).1 h3
        rw [show 0 + 1 + 2 * i = 2 * i + 1 by omega] at this
        exact this
      · apply Decidable.byContradiction
        intro q
        exact h2 ⟨y, y1, y2, by rw [nb_dif_bit alt, aAll_bit]; simp [y1, q]⟩
    · intro h
      refine ⟨fun q => ?_, ?_⟩
      · exact wl_dis W _ (2 * i + 1) (2 * i + 1 + 1) x (Nat.le_refl _) hx q ((wl_l2 W hx).mpr h)
      · rintro ⟨y, y1, y2, y3⟩
        rw [nb_dif_bit alt, aAll_bit] at y3
        simp only [y1, decide_true, Bool.true_and, Bool.not_eq_true'] at y3
        rw [(h y y1 y2).2] at y3
        cases y3
  intro i
  induction i with
  | zero =>
    have h0 : (cwN b 0).1 = (wlN b (2 * 0 + 1)).1 := by
      refine bit_ext (n := bN b) ahead_lt (wlN_lt b _).1 (fun x hx => ?_)
      show (ahead b (stopsB b)).testBit x = _
      rw [Bool.eq_iff_iff, ah_bit W hx, wl_w2 W hx]
      constructor
      · rintro ⟨y, y1, y2, y3⟩
        exact ⟨y, y1, y2, Or.inl y3⟩
      · rintro ⟨y, y1, y2, y3⟩
        rcases y3 with y3 | y3
        · exact ⟨y, y1, y2, y3⟩
        · exact absurd y3 (by show ¬ (0 : Nat).testBit y = true; simp)
    exact ⟨h0, step 0 h0⟩
  | succ i ih =>
    have h0 : (cwN b (i + 1)).1 = (wlN b (2 * (i + 1) + 1)).1 := by
      refine bit_ext (n := bN b) ?_ (wlN_lt b _).1 (fun x hx => ?_)
      · refine or_lt ?_ ahead_lt
        rw [ih.1]
        exact (wlN_lt b _).1
      · show ((cwN b i).1 ||| ahead b (cwN b (i + 1)).2).testBit x = _
        rw [ih.1, ih.2, show 2 * (i + 1) + 1 = 2 * i + 2 + 1 by omega, Bool.eq_iff_iff, wl_w2 W hx, Nat.testBit_or, Bool.or_eq_true, ah_bit W hx]
        constructor
        · rintro (h | ⟨y, y1, y2, y3⟩)
          · have := (wl_mono (k := 2 * i + 1) (j := 2) W hx).1 h
            rw [show 2 * i + 1 + 2 = 2 * i + 2 + 1 by omega] at this
            exact (wl_w2 W hx).mp this
          · exact ⟨y, y1, y2, Or.inr y3⟩
        · rintro ⟨y, y1, y2, y3⟩
          rcases y3 with y3 | y3
          · left
            have h3 : (wlN b (0 + 1)).1.testBit x = true := (wl_w2 W hx).mpr ⟨y, y1, y2, Or.inl y3⟩
            have := (wl_mono (k := 0 + 1) (j := 2 * i) W hx).1 h3
            rw [show 0 + 1 + 2 * i = 2 * i + 1 by omega] at this
            exact this
          · exact Or.inr ⟨y, y1, y2, y3⟩
    exact ⟨h0, step (i + 1) h0⟩
/-! it comes to rest -/
def pcN (S : Nat) : Nat → Nat
  | 0 => 0
  | n + 1 => pcN S n + (if S.testBit n = true then 1 else 0)
theorem pc_le {S T n : Nat} (h : ∀ i, i < n → S.testBit i = true → T.testBit i = true) : pcN S n ≤ pcN T n := by
  induction n with
  | zero => exact Nat.le_refl _
  | succ n ih =>
    have h1 := ih (fun i hi => h i (by omega))
    have h2 := h n (by omega)
    unfold pcN
    by_cases hs : S.testBit n = true
    · rw [if_pos hs, if_pos (h2 hs)]; omega
    · rw [if_neg hs]; omega
theorem pc_lt {S T n : Nat} (h : ∀ i, i < n → S.testBit i = true → T.testBit i = true) {x : Nat} (hx : x < n) (h1 : ¬ S.testBit x = true) (h2 : T.testBit x = true) : pcN S n + 1 ≤ pcN T n := by
  induction n with
  | zero => omega
  | succ n ih =>
    unfold pcN
    by_cases he : x = n
    · subst he
      rw [if_neg h1, if_pos h2]
      have := pc_le (n := x) (fun i hi => h i (by omega))
      omega
    · have h3 := ih (fun i hi => h i (by omega)) (by omega)
      by_cases hs : S.testBit n = true
      · rw [if_pos hs, if_pos (h n (by omega) hs)]; omega
      · rw [if_neg hs]; omega
theorem pc_n {S n : Nat} : pcN S n ≤ n := by
  induction n with
  | zero => exact Nat.le_refl _
  | succ n ih =>
    unfold pcN
    split <;> omega
theorem wl_sub (W : WFb b) {p q : Nat} (h : p ≤ q) : ∀ i, i < bN b → (wlN b p).1.testBit i = true → (wlN b q).1.testBit i = true := by
  intro i hi h1
  have := (wl_mono (k := p) (j := q - p) W hi).1 h1
  rw [show p + (q - p) = q by omega] at this
  exact this
theorem wl_next (W : WFb b) {p q : Nat} (h : (wlN b p).1 = (wlN b q).1) : (wlN b (p + 2)).1 = (wlN b (q + 2)).1 := by
  have hl : ∀ y, y < bN b → ((wlN b (p + 1)).2.testBit y = true ↔ (wlN b (q + 1)).2.testBit y = true) := by
    intro y hy
    rw [wl_l2 W hy, wl_l2 W hy, h]
  refine bit_ext (n := bN b) (wlN_lt b _).1 (wlN_lt b _).1 (fun x hx => ?_)
  rw [Bool.eq_iff_iff, show p + 2 = p + 1 + 1 from rfl, show q + 2 = q + 1 + 1 from rfl, wl_w2 W hx, wl_w2 W hx]
  constructor
  · rintro ⟨y, y1, y2, y3⟩
    exact ⟨y, y1, y2, y3.imp id (hl y y1).mp⟩
  · rintro ⟨y, y1, y2, y3⟩
    exact ⟨y, y1, y2, y3.imp id (hl y y1).mpr⟩
theorem wl_rest (W : WFb b) : ∀ i, ((wlN b (2 * i)).1 = (wlN b (2 * i + 1)).1 ∧ (wlN b (2 * i + 1)).1 = (wlN b (2 * i + 2)).1) ∨ i ≤ pcN (wlN b (2 * i)).1 (bN b) := by
  intro i
  induction i with
  | zero => exact Or.inr (Nat.zero_le _)
  | succ i ih =>
    rcases ih with ⟨h1, h2⟩ | h
    · left
      have e1 := wl_next W h1
      have e2 := wl_next W h2
      exact ⟨e1, e2⟩
    · by_cases hs : (wlN b (2 * i)).1 = (wlN b (2 * i + 1)).1 ∧ (wlN b (2 * i + 1)).1 = (wlN b (2 * i + 2)).1
      · left
        exact ⟨wl_next W hs.1, wl_next W hs.2⟩
      · right
        have hx : ∃ x, x < bN b ∧ ¬ (wlN b (2 * i)).1.testBit x = true ∧ (wlN b (2 * i + 2)).1.testBit x = true := by
          apply Decidable.byContradiction
          intro hc
          have hh : ∀ x, x < bN b → (wlN b (2 * i + 2)).1.testBit x = true → (wlN b (2 * i)).1.testBit x = true := by
            intro x hx h1
            apply Decidable.byContradiction
            intro h2
            exact hc ⟨x, hx, h2, h1⟩
          apply hs
          constructor
          · refine bit_ext (n := bN b) (wlN_lt b _).1 (wlN_lt b _).1 (fun x hx => ?_)
            rw [Bool.eq_iff_iff]
            exact ⟨wl_sub W (by omega) x hx, fun q => hh x hx (wl_sub W (by omega) x hx q)⟩
          · refine bit_ext (n := bN b) (wlN_lt b _).1 (wlN_lt b _).1 (fun x hx => ?_)
            rw [Bool.eq_iff_iff]
            exact ⟨wl_sub W (by omega) x hx, fun q => wl_sub W (by omega) x hx (hh x hx q)⟩
        obtain ⟨x, x1, x2, x3⟩ := hx
        have := pc_lt (wl_sub W (show 2 * i ≤ 2 * i + 2 by omega)) x1 x2 x3
        show i + 1 ≤ pcN (wlN b (2 * i + 2)).1 (bN b)
        omega
theorem wl_20 (W : WFb b) : (wlN b 20).1 = (wlN b 21).1 := by
  rcases wl_rest W 10 with h | h
  · exact h.1
  · have hn := W.1
    have hfull : ∀ x, x < bN b → (wlN b 20).1.testBit x = true := by
      intro x hx
      apply Decidable.byContradiction
      intro hc
      have h1 : pcN (wlN b 20).1 (bN b) + 1 ≤ pcN (aAll b) (bN b) := pc_lt (fun i hi _ => by rw [aAll_bit]; simp [hi]) hx hc (by rw [aAll_bit]; simp [hx])
      have h2 := pc_n (S := aAll b) (n := bN b)
      have h : 10 ≤ pcN (wlN b 20).1 (bN b) := h
      omega
    refine bit_ext (n := bN b) (wlN_lt b _).1 (wlN_lt b _).1 (fun x hx => ?_)
    rw [hfull x hx, wl_sub W (show 20 ≤ 21 by omega) x hx (hfull x hx)]
end Sit
section X12
variable {m m' : Nat → Nat → Int32} {r r' : Nat → Nat → Option Nat} {a c d n B D k w i j u v t : Nat} {b : Bo} {s : St} {x y : Int32} {A : Ab}
theorem z_sit (X : XR r) (hB : isB B) (R : BR m B b) (W : WFb b) (hw : w < bN b) : f_X8_winnerBehind 75 B (nI w) (130, m, r) = some (sitV b w) := by
  have hn := W.1
  have alt : aAll b < 1024 := aAll_lt W
  unfold f_X8_winnerBehind
  simp only [nb_lit]
  rw [bnd (bg hB (by decide)), R.1.2.2.1, if_pos (bgd hB), bnd (bo_ahead X hB R W _)]
  refine fix_up (fun i => (nI (cwN b i).1, nI (cwN b i).2, nI i)) 10 (fun i hi self => ?_) (fun self => ?_) (by omega)
  · unfold f_X8_winnerBehind_L15
    simp only [nb_lit]
    rw [if_neg (n_nle hi (by decide)), if_pos (bgd hB), bnd (bo_all hB R W), if_pos (bgd hB), bnd (bo_all hB R W), if_pos (bgd hB), nb_andn2 alt, bnd (bo_ahead X hB R W _), if_pos (bgd hB), nb_andn2 (nb_dif_lt alt), bnd (bo_ahead X hB R W _), nb_or, nI_add]
    rfl
  · unfold f_X8_winnerBehind_L15
    simp only [nb_lit]
    have e1 : (cwN b 10).1 = (wlN b 20).1 := by rw [(cw_eq W 10).1]; exact (wl_20 W).symm
    have e2 : (cwN b 10).2 = (wlN b 20).2 := (cw_eq W 9).2
    have l1 : (wlN b 20).1 < 1024 := lt1024 (wlN_lt b 20).1 W.1.2
    have l2 : (wlN b 20).2 < 1024 := lt1024 (wlN_lt b 20).2 W.1.2
    rw [if_pos (n_le (Nat.le_refl _) (by decide)), bnd (bo_bit (by omega) _), e1, e2]
    unfold sitV
    by_cases h1 : (wlN b 20).1.testBit w = true
    · rw [if_neg (fun q => by rw [nb_bit0 (by omega), h1] at q; cases q), if_pos h1]
      rfl
    · rw [if_pos (by rw [nb_bit0 (by omega)]; simpa using h1), if_neg h1, bnd (bo_bit (by omega) _)]
      by_cases h2 : (wlN b 20).2.testBit w = true
      · rw [if_neg (fun q => by rw [nb_bit0 (by omega), h2] at q; cases q), if_pos h2]
        rfl
      · rw [if_pos (by rw [nb_bit0 (by omega)]; simpa using h2), if_neg h2]
        rfl
theorem x_sit (R : RelX m r A) (W : WFa A) (x : Int32) : f_X11_sitting 0 x (130, m, r) = some (v_sit A x) := by
  obtain ⟨B, D, Y, S, U⟩ := id R
  obtain ⟨X, ⟨q1, q2, q3, q4, q5⟩, t, Rb, k, G⟩ := id Y
  unfold f_X11_sitting v_sit
  simp only [nb_lit]
  rw [bnd (xb Y), if_pos (bgd q3)]
  by_cases hx : x < nI 0 ∨ nI (bN (aB A)) ≤ x
  · rw [bnd (bo_no q3 Rb hx), if_pos rfl, if_pos hx]
    rfl
  · obtain ⟨w, hw, rfl, e⟩ := nword W.2.1 hx
    rw [if_neg hx, e, bnd (bo_has q3 Rb W.2.1 hw), if_neg (n_ne (by decide) (by decide) (by decide) : ¬ nI 1 = nI 0), bnd (xs X), bnd (xb Y), if_pos zgd, bnd (z_sit X q3 Rb W.2.1 hw)]
    rfl
end X12
