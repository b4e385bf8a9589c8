/-! the other side: finishings, what was seen, councils -/
theorem cS_congr {O O' : Nat × (Nat → Nat × Nat)} {v : Nat} : ∀ k, (∀ i, i < k → O'.2 i = O.2 i) → cS O' v k = cS O v k := by
  intro k
  induction k with
  | zero => intro _; rfl
  | succ k ih =>
    intro h
    unfold cS
    rw [h k (by omega), ih (fun i hi => h i (by omega))]
theorem cS_add {O O' : Nat × (Nat → Nat × Nat)} {n u w v : Nat} (h1 : ∀ i, i < n → O'.2 i = O.2 i) (h2 : O'.2 n = (w, v)) : cS O' u (n + 1) = if v = u then cS O u n ||| 2 ^ w else cS O u n := by
  show (if (O'.2 n).2 = u then cS O' u n ||| 2 ^ (O'.2 n).1 else cS O' u n) = _
  rw [h2, cS_congr n h1]
theorem cS_bit {O : Nat × (Nat → Nat × Nat)} {v w : Nat} : ∀ k, ((cS O v k).testBit w = true) ↔ ∃ i, i < k ∧ (O.2 i).2 = v ∧ (O.2 i).1 = w := by
  intro k
  induction k with
  | zero => simp [cS]
  | succ k ih =>
    unfold cS
    by_cases h : (O.2 k).2 = v
    · rw [if_pos h, Nat.testBit_or, Bool.or_eq_true, ih]
      constructor
      · rintro (⟨i, h1, h2⟩ | q)
        · exact ⟨i, by omega, h2⟩
        · refine ⟨k, by omega, h, ?_⟩
          apply Decidable.byContradiction
          intro hn
          rw [Nat.testBit_two_pow_of_ne hn] at q
          cases q
      · rintro ⟨i, h1, h2, h3⟩
        by_cases he : i = k
        · subst he
          right
          rw [h3, Nat.testBit_two_pow_self]
        · exact Or.inl ⟨i, by omega, h2, h3⟩
    · rw [if_neg h, ih]
      constructor
      · rintro ⟨i, h1, h2⟩
        exact ⟨i, by omega, h2⟩
      · rintro ⟨i, h1, h2, h3⟩
        by_cases he : i = k
        · subst he; exact absurd h2 h
        · exact ⟨i, by omega, h2, h3⟩
theorem cS_lt {O : Nat × (Nat → Nat × Nat)} {v n : Nat} : ∀ k, (∀ i, i < k → (O.2 i).1 < n) → cS O v k < 2 ^ n := by
  intro k
  induction k with
  | zero => intro _; exact Nat.two_pow_pos _
  | succ k ih =>
    intro h
    unfold cS
    split
    · exact or_lt (ih (fun i hi => h i (by omega))) (bit_lt (h k (by omega)))
    · exact ih (fun i hi => h i (by omega))
theorem so_iff {b : Bo} {O : Nat × (Nat → Nat × Nat)} {t : Nat} (hO : ∀ i, i < O.1 → (O.2 i).1 < bN b ∧ (O.2 i).2 < 2) : soB b O t = true ↔ (lostF b t &&& (cS O 1 O.1 ||| cS O 0 O.1) = cS O 1 O.1 ∧ cS O 1 O.1 &&& cS O 0 O.1 = 0) := by
  have lb : ∀ w, w < bN b → ((lostF b t).testBit w = true ↔ 0 < fmany b t w) := by
    intro w hw
    unfold lostF
    rw [mk_bit]
    simp [hw]
  unfold soB
  rw [allB_iff]
  constructor
  · intro h
    have h2 : ∀ i, i < O.1 → (0 < fmany b t (O.2 i).1 ↔ (O.2 i).2 = 1) := by
      intro i hi
      have := h i hi
      unfold okO at this
      simpa using this
    have no : ∀ w, (cS O 1 O.1).testBit w = true → (cS O 0 O.1).testBit w = true → False := by
      intro w q1 q0
      obtain ⟨i, i1, i2, i3⟩ := (cS_bit O.1).mp q1
      obtain ⟨j, j1, j2, j3⟩ := (cS_bit O.1).mp q0
      have a1 := (h2 i i1).mpr i2
      have a2 : ¬ 0 < fmany b t (O.2 j).1 := fun z => by have := (h2 j j1).mp z; omega
      rw [i3, ← j3] at a1
      exact a2 a1
    constructor
    · apply Nat.eq_of_testBit_eq
      intro w
      rw [Nat.testBit_and, Nat.testBit_or]
      by_cases q1 : (cS O 1 O.1).testBit w = true
      · obtain ⟨i, i1, i2, i3⟩ := (cS_bit O.1).mp q1
        have a1 := (h2 i i1).mpr i2
        have hw := (hO i i1).1
        rw [i3] at a1 hw
        simp [q1, (lb w hw).mpr a1]
      · by_cases q0 : (cS O 0 O.1).testBit w = true
        · obtain ⟨j, j1, j2, j3⟩ := (cS_bit O.1).mp q0
          have a2 : ¬ 0 < fmany b t (O.2 j).1 := fun z => by have := (h2 j j1).mp z; omega
          have hw := (hO j j1).1
          rw [j3] at a2 hw
          have : ¬ (lostF b t).testBit w = true := fun z => a2 ((lb w hw).mp z)
          simp [q1, this]
        · simp [q1, q0]
    · apply Nat.eq_of_testBit_eq
      intro w
      rw [Nat.testBit_and]
      by_cases q1 : (cS O 1 O.1).testBit w = true
      · by_cases q0 : (cS O 0 O.1).testBit w = true
        · exact (no w q1 q0).elim
        · simp [q0]
      · simp [q1]
  · rintro ⟨e1, e0⟩ i hi
    have hw := (hO i hi).1
    have hv := (hO i hi).2
    have eb : ∀ w, ((lostF b t).testBit w && ((cS O 1 O.1).testBit w || (cS O 0 O.1).testBit w)) = (cS O 1 O.1).testBit w := by
      intro w
      rw [← Nat.testBit_or, ← Nat.testBit_and, e1]
    have ez : ∀ w, ((cS O 1 O.1).testBit w && (cS O 0 O.1).testBit w) = false := by
      intro w
      rw [← Nat.testBit_and, e0]
      simp
    unfold okO
    rw [decide_eq_true_eq, ← lb _ hw]
    have b1 := eb (O.2 i).1
    have b0 := ez (O.2 i).1
    by_cases h1 : (O.2 i).2 = 1
    · have q1 : (cS O 1 O.1).testBit (O.2 i).1 = true := (cS_bit O.1).mpr ⟨i, hi, h1, rfl⟩
      rw [q1] at b1
      simp at b1
      simp [h1, b1]
    · have q0 : (cS O 0 O.1).testBit (O.2 i).1 = true := (cS_bit O.1).mpr ⟨i, hi, by omega, rfl⟩
      rw [q0] at b1 b0
      simp at b0
      rw [b0] at b1
      simp at b1
      simp [h1, b1]
/-- a word said, or all dropped: the other side -/
def tlX (a0 a1 : Nat) (a2 : Int32) (h : mx_Hp) : Option mx_Hp :=
  (mx_gi h a1 0 3).bind fun x5 =>
  (if x5 ≤ 0 then
  some (-4)
  else
  (mx_gi h a1 0 3).bind fun x7 =>
  if (x7 : Int32) = 0 then none else
  some (a2 - a2 / x7 * x7) : Option (Int32)).bind fun v9 =>
  if a1 < h.1 ∧ (mx_lay a1).1 = 3 then
  ((f_X0_has a1 v9 h).bind fun x10 =>
  (if x10 = 0 then
  (mx_gr h a0 1 0).bind fun x13 =>
  (mx_gr h x13 9 0).bind fun x14 =>
  (mx_gi h x14 7 1).bind fun x15 =>
  if x15 ≤ 0 then
  some h
  else
  (mx_gr h a0 1 0).bind fun x17 =>
  if x17 < h.1 ∧ (mx_lay x17).1 = 12 then
  ((f_X9_letFall x17 h).bind fun x18 =>
  some x18)
  else none
  else
  (mx_gr h a0 1 0).bind fun x20 =>
  if x20 < h.1 ∧ (mx_lay x20).1 = 12 then
  ((f_X9_fits x20 a1 v9 h).bind fun x21 =>
  if x21 = 0 then
  (mx_gr h a0 1 0).bind fun x24 =>
  (mx_gr h x24 9 0).bind fun x25 =>
  (mx_gi h x25 7 1).bind fun x26 =>
  if x26 ≤ 0 then
  some h
  else
  (mx_gr h a0 1 0).bind fun x28 =>
  if x28 < h.1 ∧ (mx_lay x28).1 = 12 then
  ((f_X9_letFall x28 h).bind fun x29 =>
  some x29)
  else none
  else
  (mx_gr h a0 1 0).bind fun x31 =>
  (mx_gr h x31 9 0).bind fun x32 =>
  (mx_gi h x32 7 1).bind fun x33 =>
  if 12 ≤ x33 then
  (mx_gr h a0 1 0).bind fun x35 =>
  (mx_gr h x35 9 0).bind fun x36 =>
  (mx_gi h x36 7 1).bind fun x37 =>
  if x37 ≤ 0 then
  some h
  else
  (mx_gr h a0 1 0).bind fun x39 =>
  if x39 < h.1 ∧ (mx_lay x39).1 = 12 then
  ((f_X9_letFall x39 h).bind fun x40 =>
  some x40)
  else none
  else
  (mx_gr h a0 1 0).bind fun x42 =>
  if x42 < h.1 ∧ (mx_lay x42).1 = 12 then
  ((f_X9_speak x42 v9 h).bind fun x43 =>
  some x43)
  else none)
  else none : Option (mx_Hp)).bind fun v45 =>
  some v45)
  else none
section X6
variable {m m' : Nat → Nat → Int32} {r r' : Nat → Nat → Option Nat} {a c d n B D k w i u v : Nat} {f g P : Nat → Nat} {b : Bo} {s : St} {x y : Int32} {A : Ab} {U : Nat × (Nat → St)}
theorem x_told (Hr : isRw r a) (R : RW m a n f) (hn : n ≤ 12) (hy : ¬ y < -1) : f_X11_told a y (130, m, r) = some (tel n f y) := by
  unfold f_X11_told tel
  simp only [nb_lit]
  rw [bnd (rg_n Hr), R.1]
  by_cases h0 : n = 0
  · rw [if_pos h0, h0, if_neg (not_not_intro rfl)]
  · rw [if_neg h0, if_pos (n_ne h0 (by omega) (by decide))]
    rcases y_or (c := n) (by omega) hy with q | q | ⟨j, hj, rfl⟩
    · have q : y = -nI 1 := q
      rw [if_neg (not_not_intro q), if_pos q, bnd (rg_n Hr), R.1]
      rfl
    · have hne : ¬ y = -nI 1 := by
        rintro rfl
        exact absurd q (Int32.not_le.mpr (ng_lt (by decide) (by decide) (by omega)))
      rw [if_pos hne, if_neg hne, if_pos (rgd Hr), bnd (rw_out Hr R (Or.inr q)), if_pos q]
      rfl
    · rw [if_pos (nI_ne_m1 (by omega)), if_neg (nI_ne_m1 (by omega)), if_pos (rgd Hr), bnd (rw_at Hr R hn hj), if_neg (n_nle hj (by omega)), nb_cl (by omega)]
      rfl
theorem st_find (X : XR r) (hB : isB B) (R : BR m B b) (W : WFb b) (ha : isSt a) (S : SX m a s) (F : WFs (bN b) s) : ∃ y1 y2 m', f_X9_lastWord a (130, m, r) = some y1 ∧ f_X9_sayableByOther a B (130, m, r) = some y2 ∧ f_X2_find 71 B y1 y2 (130, m, r) = some (130, m', r) ∧ RW m' 72 (finNow b s) (finW b s) ∧ ∀ d, d ≠ 72 → d ≠ 73 → d ≠ 74 → m' d = m d := by
  have e2 := st_sayable X hB R W ha S F
  by_cases h0 : sN s = 0
  · refine ⟨_, _, _, st_last0 X ha S h0, e2, fi_no X hB R neg4, ⟨?_, fun i hi => ?_⟩, fun d d1 _ _ => up_ne d1⟩
    · rw [hb_up_same]
      unfold finNow
      rw [if_pos h0]
    · unfold finNow at hi
      rw [if_pos h0] at hi
      exact absurd hi (Nat.not_lt_zero i)
  · have hl := wf_l F (by omega)
    have e3 : sayS b s = knF b s (sW s 0) := by unfold sayS; rw [if_neg h0]
    rw [e3] at e2
    obtain ⟨m1, f1, f2, f3⟩ := fi_find X hB R W (knF_lt W F) hl (kn := knF b s (sW s 0))
    refine ⟨_, _, m1, st_last X ha S (by omega) F.1, e2, f1, ?_, f3⟩
    have e4 : finNow b s = fmany b (knF b s (sW s 0)) (lastW s) := by unfold finNow; rw [if_neg h0]
    refine RW.ext (f := fword b (knF b s (sW s 0)) (fmany b (knF b s (sW s 0)) (lastW s)) (lastW s)) ?_ (fun i _ => ?_)
    · rw [e4]; exact f2
    · unfold finW
      rw [e4]
theorem x_ff (R : RelX m r A) (W : WFa A) : ∃ m', f_X11_findFinishing 0 (130, m, r) = some (130, m', r) ∧ RW m' 72 (finNow (aB A) (aS A)) (finW (aB A) (aS A)) ∧ ∀ d, d ≠ 72 → d ≠ 73 → d ≠ 74 → m' d = m d := by
  obtain ⟨B, D, Y, S, U⟩ := id R
  obtain ⟨X, ⟨q1, q2, q3, q4, q5⟩, t, Rb, k, G⟩ := id Y
  obtain ⟨y1, y2, m1, e1, e2, e3, e4, e5⟩ := st_find X q3 Rb W.2.1 st12 S W.2.2.1
  refine ⟨m1, ?_, e4, e5⟩
  unfold f_X11_findFinishing
  rw [bnd (xf X), bnd (xb Y), bnd (xn X), if_pos (sgd st12), bnd e1, bnd (xn X), bnd (xb Y), if_pos (sgd st12), bnd e2, if_pos fgd, bnd e3]
theorem x_fing (R : RelX m r A) (W : WFa A) (x : Int32) : XOk (f_X11_finishing 0 x (130, m, r)) m r (v_fing A x) A := by
  obtain ⟨B, D, Y, S, U⟩ := id R
  have X := Y.1
  have hl := finNow_le (s := aS A) W.2.1
  unfold f_X11_finishing v_fing
  simp only [nb_lit]
  by_cases h1 : x < -nI 1
  · rw [if_pos h1, if_pos (Or.inl h1)]
    exact XOk.mk0 R rfl
  · rw [if_neg h1]
    by_cases h2 : nI 3 < x
    · rw [if_neg (fun q => (lt_sc (n := 3) (by decide)).mp q h2), if_pos (Or.inr h2)]
      exact XOk.mk0 R rfl
    · obtain ⟨m1, e1, e2, e3⟩ := x_ff R W
      rw [if_pos ((lt_sc (n := 3) (by decide)).mpr h2), if_neg (not_or.mpr ⟨h1, h2⟩), if_pos gd0, bnd e1, bnd (xf X), bnd (fr0 X), bnd (x_told (f_rw X) e2 (by omega) h1)]
      exact ⟨m1, r, rfl, R.quiet W (fun d hd => e3 d (by omega) (by omega) (by omega)), fun a ha => ⟨e3 a (by omega) (by omega) (by omega), rfl⟩⟩
theorem x_finish (R : RelX m r A) (W : WFa A) : XOk (f_X11_finish 0 (130, m, r)) m r (o_finish A).1 (o_finish A).2 := by
  obtain ⟨B, D, Y, S, U⟩ := id R
  have X := Y.1
  have hl := finNow_le (s := aS A) W.2.1
  obtain ⟨m1, e1, e2, e3⟩ := x_ff R W
  have R1 : RelX m1 r A := R.quiet W (fun d hd => e3 d (by omega) (by omega) (by omega))
  unfold f_X11_finish o_finish
  simp only [nb_lit]
  rw [if_pos gd0, bnd e1, bnd (xf X), bnd (fr0 X), bnd (rg_n (f_rw X)), e2.1]
  by_cases h0 : finNow (aB A) (aS A) = 0
  · rw [if_pos h0, h0, if_neg (not_not_intro rfl)]
    exact ⟨m1, r, rfl, R1, fun a ha => ⟨e3 a (by omega) (by omega) (by omega), rfl⟩⟩
  · rw [if_neg h0, if_pos (n_ne h0 (by omega) (by decide)), bnd (xu X), bnd (xn X), if_pos (pgd (pl_u X))]
    obtain ⟨m2, r2, j1, R2, j3, j4⟩ := x_put R1 W
    obtain ⟨B2, D2, Y2, S2, U2⟩ := id R2
    have S2 : SX m2 12 (aS A) := S2
    have Rb2 : BR m2 B2 (aB A) := Y2.2.2.2.1
    have RW2 : RW m2 72 (finNow (aB A) (aS A)) (finW (aB A) (aS A)) := e2.congr (j4 _ (by omega) (by omega)) (j4 _ (by omega) (by omega))
    obtain ⟨m3, k1, k2, k3⟩ := st_pass Y2.1 Y2.2.1.2.2.1 Rb2 W.2.1 st12 S2 W.2.2.1 (f_rw Y2.1) RW2 (by omega) (fun i hi => finW_lt W.2.1 hi)
    refine ⟨m3, r2, ?_, R2.std (wf_act W W.2.2.1) k2 k3, fun a ha => ⟨by rw [k3 a (by omega), j4 a (by omega) (by omega), e3 a (by omega) (by omega) (by omega)], j3 a (by omega)⟩⟩
    rw [bnd j1, bnd (xn Y2.1), bnd (xb Y2), bnd (xf Y2.1), bnd (fr0 Y2.1), if_pos (sgd st12), bnd k1]
    rfl
/-! what was seen -/
theorem qgd : 106 < 130 ∧ (mx_lay 106).1 = 6 := ⟨by decide, by decide +kernel⟩
theorem qg (hf : mx_fk 3 k = 0 ∨ mx_fk 3 k = 2) : mx_gi (130, m, r) 106 3 k = some (m 106 k) := hb_gi (by decide) (by decide +kernel) hf
theorem qp (hf : mx_fk 3 k = 0) (v : Int32) : mx_pi (130, m, r) 106 3 k v = some (130, mx_up m 106 k v, r) := hb_pi (by decide) (by decide +kernel) hf v
theorem qpb {v : Int32} (hv : v = 0 ∨ v = 1) : mx_pi (130, m, r) 106 3 1 v = some (130, mx_up m 106 1 v, r) := by
  unfold mx_pi
  rw [if_pos ⟨by show 106 < 130; decide, by decide +kernel, Or.inr ⟨by decide, hv⟩⟩]
theorem qr (X : XR r) : mx_gr (130, m, r) 106 3 0 = some 107 := hb_gr (by decide) (by decide +kernel) (by decide) X.2.2.2.2.2.2.2.2.1
theorem qa (hk : k < 1024) : mx_al (130, m, r) 107 (nI k) = some (m 107 k) := hb_al (by decide) (by decide +kernel) (by rw [show mx_lay 107 = (0, 1024) by decide +kernel]; exact hk)
theorem qas (hk : k < 1024) (v : Int32) : mx_as (130, m, r) 107 (nI k) v = some (130, mx_up m 107 k v, r) := hb_as (by decide) (by decide +kernel) (by rw [show mx_lay 107 = (0, 1024) by decide +kernel]; exact hk) v
theorem RelX.gue (R : RelX m r A) (W : WFa A) {O : Nat × (Nat → Nat × Nat)} (hG : GX m' (aB A) O) (h : ∀ d, d ≠ 106 → d ≠ 107 → m' d = m d) : RelX m' r (aX A, aB A, aS A, aU A, aK A, O) := by
  obtain ⟨B, D, ⟨X, q, t, Rb, ⟨k1, k2⟩, G⟩, S, U⟩ := R
  have hb := b_ly q.2.2.1
  have hK := W.2.2.2.2.1.1
  refine ⟨B, D, ⟨X, q, ⟨by rw [h 1 (by decide) (by decide)]; exact t.1, fun i hi => by rw [h 2 (by decide) (by decide)]; exact t.2 i hi⟩, Rb.congr (fun c c1 c2 => h c (by omega) (by omega)), ⟨by rw [h 59 (by decide) (by decide)]; exact k1, fun i hi => by
    have hi : i < (aK A).1 := hi
    exact (k2 i hi).congr (fun c c1 c2 => h c (by omega) (by omega))⟩, hG⟩, S.congr (fun c c1 c2 => h c (by omega) (by omega)), U.congr W.2.2.2.1.1 (fun d d1 d2 => h d (by omega) (by omega))⟩
theorem x_seen (R : RelX m r A) (W : WFa A) (x y : Int32) : XOk (f_X11_seen 0 x y (130, m, r)) m r (o_seen A x y).1 (o_seen A x y).2 := by
  obtain ⟨B, D, Y, S, U⟩ := id R
  obtain ⟨X, ⟨q1, q2, q3, q4, q5⟩, t, Rb, k, ⟨g1, g2, g3, g4⟩⟩ := id Y
  have hn := W.2.1.1
  have hO := W.2.2.2.2.2
  unfold f_X11_seen o_seen
  simp only [nb_lit]
  rw [bnd (xb Y), if_pos (bgd q3)]
  by_cases hx : x < nI 0 ∨ nI (bN (aB A)) ≤ x
  · rw [bnd (bo_no q3 Rb hx), if_pos rfl, if_pos (Or.inl hx)]
    exact XOk.mk0 R rfl
  · obtain ⟨w, hw, rfl, e⟩ := nword W.2.1 hx
    rw [bnd (bo_has q3 Rb W.2.1 hw), if_neg (n_ne (by decide) (by decide) (by decide) : ¬ nI 1 = nI 0)]
    by_cases hy : y < nI 0 ∨ nI 1 < y
    · rw [if_pos (Or.inr hy)]
      by_cases hy0 : y < nI 0
      · rw [if_pos hy0]
        exact XOk.mk0 R rfl
      · rw [if_neg hy0, if_neg (Int32.not_le.mpr (hy.resolve_left hy0))]
        exact XOk.mk0 R rfl
    · obtain ⟨v, hv, rfl, ev⟩ := mayor_or hy
      have ef : (if ¬ nI v = nI 1 then some (nI 0) else some (nI 1) : Option Int32) = some (nI v) := by
        have : v = 0 ∨ v = 1 := by omega
        rcases this with rfl | rfl
        · rw [if_pos (n_ne (by decide) (by decide) (by decide))]
        · rw [if_neg (not_not_intro rfl)]
      rw [if_neg (nI_pos0 (by omega)), if_pos (n_le (by omega) (by decide)), if_neg (not_or.mpr ⟨hx, hy⟩), e, ev, bnd (xq X), bnd ef, if_pos qgd]
      by_cases h8 : (aO A).1 = 8
      · have en : f_X3_note 106 (nI w) (nI v) (130, m, r) = some (nI 0, (130, m, r)) := by
          unfold f_X3_note
          simp only [nb_lit]
          rw [bnd (qg (by decide)), g1, h8, if_neg (n_nlt (Nat.le_refl _) (by decide))]
        rw [if_pos h8, bnd en]
        exact XOk.mk0 R rfl
      · have en : f_X3_note 106 (nI w) (nI v) (130, m, r) = some (nI 1, (130, mx_up (mx_up (mx_up m 106 3 (nI (if v = 1 then cS (aO A) 1 (aO A).1 ||| 2 ^ w else cS (aO A) 1 (aO A).1))) 106 4 (nI (if v = 0 then cS (aO A) 0 (aO A).1 ||| 2 ^ w else cS (aO A) 0 (aO A).1))) 106 2 (nI ((aO A).1 + 1)), r)) := by
          unfold f_X3_note
          simp only [nb_lit]
          rw [bnd (qg (by decide)), g1, if_pos (n_lt (by omega) (by decide)), bnd (qg (by decide)), g2]
          have : v = 0 ∨ v = 1 := by omega
          rcases this with rfl | rfl
          · rw [if_pos rfl, Option.bind_some, bnd (qp (by decide) _), bnd (qg (by decide)), hb_up_ne (by omega), g3, if_pos rfl, bnd (bo_bit (by omega) _), Option.bind_some, bnd (qp (by decide) _), bnd (qg (by decide)), hb_up_ne (by omega), hb_up_ne (by omega), g1, bnd (qp (by decide) _), nI_add, nb_or, nb_or, if_neg (by decide), if_pos rfl, Nat.or_zero]
          · rw [if_neg (n_ne (by decide) (by decide) (by decide) : ¬ nI 1 = nI 0), bnd (bo_bit (by omega) _), Option.bind_some, bnd (qp (by decide) _), bnd (qg (by decide)), hb_up_ne (by omega), g3, if_neg (n_ne (by decide) (by decide) (by decide) : ¬ nI 1 = nI 0), Option.bind_some, bnd (qp (by decide) _), bnd (qg (by decide)), hb_up_ne (by omega), hb_up_ne (by omega), g1, bnd (qp (by decide) _), nI_add, nb_or, nb_or, if_pos rfl, if_neg (by decide), Nat.or_zero]
        rw [if_neg h8, bnd en]
        dsimp only
        rw [if_neg (n_ne (by decide) (by decide) (by decide) : ¬ nI 1 = nI 0), bnd (xq X), bnd (qg (by decide)), hb_up_same]
        refine ⟨_, r, rfl, R.gue W ⟨hb_up_same, ?_, ?_, ?_⟩ (fun d d1 d2 => by rw [up_ne d1, up_ne d1, up_ne d1]), fun a ha => ⟨by rw [up_ne (by omega), up_ne (by omega), up_ne (by omega)], rfl⟩⟩
        · rw [hb_up_ne (by omega), hb_up_ne (by omega), hb_up_same]
          show _ = nI (cS ((aO A).1 + 1, fun i => if i = (aO A).1 then (w, v) else (aO A).2 i) 1 ((aO A).1 + 1))
          rw [cS_add (O := aO A) (w := w) (v := v) (fun i hi => if_neg (by omega)) (if_pos rfl)]
        · rw [hb_up_ne (by omega), hb_up_same]
          show _ = nI (cS ((aO A).1 + 1, fun i => if i = (aO A).1 then (w, v) else (aO A).2 i) 0 ((aO A).1 + 1))
          rw [cS_add (O := aO A) (w := w) (v := v) (fun i hi => if_neg (by omega)) (if_pos rfl)]
        · rw [hb_up_ne (by omega), hb_up_ne (by omega), hb_up_ne (by omega)]
          rcases g4 with h | ⟨h1, h2⟩
          · exact Or.inl h
          · exact Or.inr ⟨h1, fun t ht => by rw [up_ne (by decide), up_ne (by decide), up_ne (by decide)]; exact h2 t ht⟩
theorem x_qclear : f_X3_clear 106 (130, m, r) = some (130, mx_up (mx_up (mx_up m 106 2 (nI 0)) 106 3 (nI 0)) 106 4 (nI 0), r) := by
  unfold f_X3_clear
  simp only [nb_lit]
  rw [bnd (qp (by decide) _), bnd (qp (by decide) _), bnd (qp (by decide) _)]
theorem x_forget (R : RelX m r A) (W : WFa A) : XOk (f_X11_forget 0 (130, m, r)) m r (o_forget A).1 (o_forget A).2 := by
  obtain ⟨B, D, Y, S, U⟩ := id R
  obtain ⟨X, q, t, Rb, k, ⟨g1, g2, g3, g4⟩⟩ := id Y
  unfold f_X11_forget o_forget
  rw [bnd (xq X), bnd (qg (by decide)), g1, bnd (xq X), if_pos qgd, bnd x_qclear]
  refine ⟨_, r, rfl, R.gue W ⟨?_, ?_, hb_up_same, ?_⟩ (fun d d1 d2 => by rw [up_ne d1, up_ne d1, up_ne d1]), fun a ha => ⟨by rw [up_ne (by omega), up_ne (by omega), up_ne (by omega)], rfl⟩⟩
  · rw [hb_up_ne (by omega), hb_up_ne (by omega), hb_up_same]
  · rw [hb_up_ne (by omega), hb_up_same]; rfl
  · rw [hb_up_ne (by omega), hb_up_ne (by omega), hb_up_ne (by omega)]
    rcases g4 with h | ⟨h1, h2⟩
    · exact Or.inl h
    · exact Or.inr ⟨h1, fun t ht => by rw [up_ne (by decide), up_ne (by decide), up_ne (by decide)]; exact h2 t ht⟩
theorem x_table (X : XR r) (hB : isB B) (R : BR m B b) (W : WFb b) {O : Nat × (Nat → Nat × Nat)} (G : GX m b O) : ∃ m', f_X3_tableOnce 106 B 71 (130, m, r) = some (130, m', r) ∧ (m' 106 1 = nI 1 ∧ ∀ t, t < 2 ^ bN b → m' 107 t = nI (lostF b t)) ∧ (∀ j, j ≠ 1 → m' 106 j = m 106 j) ∧ ∀ d, d ≠ 106 → d ≠ 107 → m' d = m d := by
  have hb := b_ly hB
  have hp := p1024 W.1.2
  have hp0 := Nat.two_pow_pos (bN b)
  unfold f_X3_tableOnce
  rw [bnd (qg (by decide))]
  rcases G.2.2.2 with h | ⟨h1, h2⟩
  · rw [h, if_pos (show nI 0 = 0 from rfl)]
    refine fix_rel (fun i q => ∃ m1 : Nat → Nat → Int32, q = (nI i, (130, m1, r)) ∧ (∀ t, t < i → m1 107 t = nI (lostF b t)) ∧ ∀ d, d ≠ 107 → m1 d = m d) (2 ^ bN b) (Q := fun o => ∃ m' : Nat → Nat → Int32, o = some (130, m', r) ∧ (m' 106 1 = nI 1 ∧ ∀ t, t < 2 ^ bN b → m' 107 t = nI (lostF b t)) ∧ (∀ j, j ≠ 1 → m' 106 j = m 106 j) ∧ ∀ d, d ≠ 106 → d ≠ 107 → m' d = m d) ?_ ?_ (by omega) ?_
    · rintro i q hi ⟨m1, rfl, j1, j2⟩
      have R1 : BR m1 B b := R.congr (fun c c1 c2 => j2 c (by omega))
      refine ⟨(nI (i + 1), (130, mx_up m1 107 i (nI (lostF b i)), r)), ⟨_, rfl, fun t ht => ?_, fun d hd => by rw [up_ne hd]; exact j2 d hd⟩, fun self => ?_⟩
      · by_cases he : t = i
        · rw [he, hb_up_same]
        · rw [hb_up_ne (by omega)]; exact j1 t (by omega)
      · unfold f_X3_tableOnce_L10
        simp only [nb_lit]
        rw [if_pos (bgd hB), bnd (bo_all hB R1 W), if_neg (n_nlt (by unfold aAll; omega) (by unfold aAll; omega)), if_neg (n_nle (by omega) (by decide)), bnd (qr X), if_pos fgd, bnd (fi_could X hB R1 W (by omega)), bnd (qas (by omega) _), nI_add]
    · rintro q ⟨m1, rfl, j1, j2⟩ self
      have R1 : BR m1 B b := R.congr (fun c c1 c2 => j2 c (by omega))
      unfold f_X3_tableOnce_L10
      dsimp only
      rw [if_pos (bgd hB), bnd (bo_all hB R1 W), if_pos (n_lt (by unfold aAll; omega) (by omega)), bnd (qpb (Or.inr rfl))]
      refine ⟨_, rfl, ⟨hb_up_same, fun t ht => by rw [up_ne (by decide)]; exact j1 t ht⟩, fun j hj => by rw [hb_up_ne (Or.inr hj), j2 106 (by decide)], fun d d1 d2 => by rw [up_ne d1]; exact j2 d d2⟩
    · exact ⟨m, rfl, fun t ht => absurd ht (Nat.not_lt_zero t), fun _ _ => rfl⟩
  · rw [h1, if_neg (show ¬ nI 1 = 0 by decide)]
    exact ⟨m, rfl, ⟨h1, h2⟩, fun _ _ => rfl, fun _ _ _ => rfl⟩
theorem x_guess (R : RelX m r A) (W : WFa A) (x : Int32) : XOk (f_X11_guessed 0 x (130, m, r)) m r (v_guess A x) A := by
  obtain ⟨B, D, Y, S, U⟩ := id R
  obtain ⟨X, ⟨q1, q2, q3, q4, q5⟩, t, Rb, k, G⟩ := id Y
  have hb := b_ly q3
  have hp := p1024 W.2.1.1.2
  have hp0 := Nat.two_pow_pos (bN (aB A))
  have hO := W.2.2.2.2.2
  unfold f_X11_guessed v_guess
  simp only [nb_lit]
  by_cases h0 : x < nI 0
  · rw [if_pos h0, if_pos (Or.inl h0)]
    exact XOk.mk0 R rfl
  · rw [if_neg h0]
    by_cases h2 : nI 2 < x
    · rw [if_neg (Int32.not_le.mpr h2), if_pos (Or.inr h2)]
      exact XOk.mk0 R rfl
    · rw [if_pos (not_lt_le h2), if_neg (not_or.mpr ⟨h0, h2⟩), bnd (xq X), bnd (xb Y), bnd (xf X), if_pos qgd]
      obtain ⟨m1, e1, ⟨a1, a2⟩, a3, a4⟩ := x_table X q3 Rb W.2.1 G
      have R1 : BR m1 B (aB A) := Rb.congr (fun c c1 c2 => a4 c (by omega) (by omega))
      have hw : ∃ m2, f_X3_weigh 106 B 71 (130, m, r) = some (130, m2, r) ∧ (m2 106 5 = nI (gsN (aB A) (aO A) (2 ^ bN (aB A))).1 ∧ m2 106 6 = nI (gsN (aB A) (aO A) (2 ^ bN (aB A))).2.1 ∧ m2 106 7 = nI (gsN (aB A) (aO A) (2 ^ bN (aB A))).2.2) ∧ (∀ j, j < 5 → m2 106 j = m1 106 j) ∧ ∀ d, d ≠ 106 → m2 d = m1 d := by
        have hc : ∀ j, j < 5 → ∀ v6 : Int32, (mx_up (mx_up (mx_up m1 106 5 (nI 0)) 106 6 v6) 106 7 (nI 0)) 106 j = m1 106 j := fun j hj v6 => by rw [hb_up_ne (by omega), hb_up_ne (by omega), hb_up_ne (by omega)]
        unfold f_X3_weigh
        simp only [nb_lit]
        rw [if_pos qgd, bnd e1, bnd (qp (by decide) _), if_pos (bgd q3), bnd (bo_all q3 (R1.congr (fun c c1 c2 => up_ne (by omega))) W.2.1), bnd (qp (by decide) _), bnd (qp (by decide) _)]
        refine fix_rel (fun i q => ∃ m3 : Nat → Nat → Int32, q = (nI i, (130, m3, r)) ∧ (m3 106 5 = nI (gsN (aB A) (aO A) i).1 ∧ m3 106 6 = nI (gsN (aB A) (aO A) i).2.1 ∧ m3 106 7 = nI (gsN (aB A) (aO A) i).2.2) ∧ (∀ j, j < 5 → m3 106 j = m1 106 j) ∧ ∀ d, d ≠ 106 → m3 d = m1 d) (2 ^ bN (aB A)) (Q := fun o => ∃ m2 : Nat → Nat → Int32, o = some (130, m2, r) ∧ (m2 106 5 = nI (gsN (aB A) (aO A) (2 ^ bN (aB A))).1 ∧ m2 106 6 = nI (gsN (aB A) (aO A) (2 ^ bN (aB A))).2.1 ∧ m2 106 7 = nI (gsN (aB A) (aO A) (2 ^ bN (aB A))).2.2) ∧ (∀ j, j < 5 → m2 106 j = m1 106 j) ∧ ∀ d, d ≠ 106 → m2 d = m1 d) ?_ ?_ (by omega) ?_
        · rintro i q hi ⟨m3, rfl, ⟨c5, c6, c7⟩, c8, c9⟩
          have R3 : BR m3 B (aB A) := R1.congr (fun c c1 c2 => c9 c (by omega))
          have g3 : m3 106 3 = nI (cS (aO A) 1 (aO A).1) := by rw [c8 3 (by decide), a3 3 (by decide)]; exact G.2.1
          have g4 : m3 106 4 = nI (cS (aO A) 0 (aO A).1) := by rw [c8 4 (by decide), a3 4 (by decide)]; exact G.2.2.1
          have g7 : m3 107 i = nI (lostF (aB A) i) := by rw [c9 107 (by decide)]; exact a2 i hi
          have k1 : cS (aO A) 1 (aO A).1 < 1024 := lt1024 (cS_lt _ (fun j hj => (hO.2 j hj).1)) W.2.1.1.2
          have k2 := lostF_2 (kn := i) W.2.1
          have k3 : lostF (aB A) i &&& (cS (aO A) 1 (aO A).1 ||| cS (aO A) 0 (aO A).1) < 2 ^ 31 := by
            have := @Nat.and_le_left (lostF (aB A) i) (cS (aO A) 1 (aO A).1 ||| cS (aO A) 0 (aO A).1)
            omega
          have k4 : cS (aO A) 1 (aO A).1 &&& cS (aO A) 0 (aO A).1 < 2 ^ 31 := by
            have := @Nat.and_le_left (cS (aO A) 1 (aO A).1) (cS (aO A) 0 (aO A).1)
            omega
          have si := so_iff (b := aB A) (t := i) hO.2
          by_cases hs : soB (aB A) (aO A) i = true
          · obtain ⟨s1, s2⟩ := si.mp hs
            have eg : gsN (aB A) (aO A) (i + 1) = ((gsN (aB A) (aO A) i).1 + 1, (gsN (aB A) (aO A) i).2.1 &&& i, (gsN (aB A) (aO A) i).2.2 ||| i) := by
              show (if soB (aB A) (aO A) i = true then _ else _) = _
              rw [if_pos hs]
            refine ⟨(nI (i + 1), (130, mx_up (mx_up (mx_up m3 106 5 (nI ((gsN (aB A) (aO A) i).1 + 1))) 106 6 (nI ((gsN (aB A) (aO A) i).2.1 &&& i))) 106 7 (nI ((gsN (aB A) (aO A) i).2.2 ||| i)), r)), ⟨_, rfl, ⟨?_, ?_, ?_⟩, fun j hj => ?_, fun d hd => ?_⟩, fun self => ?_⟩
            · rw [hb_up_ne (by omega), hb_up_ne (by omega), hb_up_same, eg]
            · rw [hb_up_ne (by omega), hb_up_same, eg]
            · rw [hb_up_same, eg]
            · rw [hb_up_ne (by omega), hb_up_ne (by omega), hb_up_ne (by omega)]; exact c8 j hj
            · rw [up_ne hd, up_ne hd, up_ne hd]; exact c9 d hd
            · unfold f_X3_weigh_L26
              simp only [nb_lit]
              rw [if_pos (bgd q3), bnd (bo_all q3 R3 W.2.1), if_neg (n_nlt (by unfold aAll; omega) (by unfold aAll; omega)), if_neg (n_nle (by omega) (by decide)), bnd (qr X), bnd (qa (by omega)), g7, bnd (qg (by decide)), bnd (qg (by decide)), bnd (qg (by decide)), g3, g4, nb_or, nb_and, s1, if_neg (not_not_intro rfl), bnd (qg (by decide)), bnd (qg (by decide)), g3, g4, nb_and, s2, if_neg (not_not_intro rfl), bnd (qg (by decide)), c5, bnd (qp (by decide) _), bnd (qg (by decide)), hb_up_ne (by omega), c6, bnd (qp (by decide) _), bnd (qg (by decide)), hb_up_ne (by omega), hb_up_ne (by omega), c7, bnd (qp (by decide) _), Option.bind_some, nI_add, nI_add, nb_and, nb_or]
          · have eg : gsN (aB A) (aO A) (i + 1) = gsN (aB A) (aO A) i := by
              show (if soB (aB A) (aO A) i = true then _ else _) = _
              rw [if_neg hs]
            refine ⟨(nI (i + 1), (130, m3, r)), ⟨m3, rfl, by rw [eg]; exact ⟨c5, c6, c7⟩, c8, c9⟩, fun self => ?_⟩
            unfold f_X3_weigh_L26
            simp only [nb_lit]
            rw [if_pos (bgd q3), bnd (bo_all q3 R3 W.2.1), if_neg (n_nlt (by unfold aAll; omega) (by unfold aAll; omega)), if_neg (n_nle (by omega) (by decide)), bnd (qr X), bnd (qa (by omega)), g7, bnd (qg (by decide)), bnd (qg (by decide)), bnd (qg (by decide)), g3, g4, nb_or, nb_and]
            by_cases s1 : lostF (aB A) i &&& (cS (aO A) 1 (aO A).1 ||| cS (aO A) 0 (aO A).1) = cS (aO A) 1 (aO A).1
            · have s2 : ¬ cS (aO A) 1 (aO A).1 &&& cS (aO A) 0 (aO A).1 = 0 := fun z => hs (si.mpr ⟨s1, z⟩)
              rw [s1, if_neg (not_not_intro rfl), bnd (qg (by decide)), bnd (qg (by decide)), g3, g4, nb_and, if_pos (n_ne s2 k4 (by decide)), Option.bind_some, nI_add]
            · rw [if_pos (n_ne s1 k3 (by omega)), Option.bind_some, nI_add]
        · rintro q ⟨m3, rfl, c5, c8, c9⟩ self
          have R3 : BR m3 B (aB A) := R1.congr (fun c c1 c2 => c9 c (by omega))
          unfold f_X3_weigh_L26
          dsimp only
          rw [if_pos (bgd q3), bnd (bo_all q3 R3 W.2.1), if_pos (n_lt (by unfold aAll; omega) (by omega))]
          exact ⟨m3, rfl, c5, c8, c9⟩
        · refine ⟨_, rfl, ⟨?_, ?_, ?_⟩, fun j hj => hc j hj _, fun d hd => by rw [up_ne hd, up_ne hd, up_ne hd]⟩
          · rw [hb_up_ne (by omega), hb_up_ne (by omega), hb_up_same]; rfl
          · rw [hb_up_ne (by omega), hb_up_same]; rfl
          · rw [hb_up_same]; rfl
      obtain ⟨m2, e2, ⟨c5, c6, c7⟩, c8, c9⟩ := hw
      have hle := gsN_le (aB A) (aO A) (2 ^ bN (aB A))
      have R2 : RelX m2 r A := by
        have := R.gue (O := aO A) (m' := m2) W ⟨by rw [c8 2 (by decide), a3 2 (by decide)]; exact G.1, by rw [c8 3 (by decide), a3 3 (by decide)]; exact G.2.1, by rw [c8 4 (by decide), a3 4 (by decide)]; exact G.2.2.1, Or.inr ⟨by rw [c8 1 (by decide)]; exact a1, fun t ht => by rw [c9 107 (by decide)]; exact a2 t ht⟩⟩ (fun d d1 d2 => by rw [c9 d d1, a4 d d1 d2])
        exact this
      refine ⟨m2, r, ?_, R2, fun a ha => ⟨by rw [c9 a (by omega), a4 a (by omega) (by omega)], rfl⟩⟩
      unfold gAns
      simp only [nb_lit]
      rw [bnd e2]
      by_cases y0 : x = nI 0
      · rw [if_neg (not_not_intro y0), if_pos y0, bnd (xq X), bnd (qg (by decide)), c5]
      · rw [if_pos y0, if_neg y0, bnd (xq X), bnd (qg (by decide)), c5]
        by_cases n0 : (gsN (aB A) (aO A) (2 ^ bN (aB A))).1 = 0
        · rw [if_pos n0, n0, if_neg (not_not_intro rfl)]
        · rw [if_neg n0, if_pos (n_ne n0 (by omega) (by decide))]
          by_cases y1 : x = nI 1
          · rw [if_neg (not_not_intro y1), if_pos y1, bnd (xq X), bnd (qg (by decide)), c6]
            rfl
          · rw [if_pos y1, if_neg y1, bnd (xq X), bnd (qg (by decide)), c7]
            rfl
end X6
