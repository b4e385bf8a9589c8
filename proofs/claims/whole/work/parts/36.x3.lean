/-! the other side: finishings -/
def cnt (t : Nat) : Int32 := nI t - nI 1
theorem cnt_s (t : Nat) : cnt (t + 1) = nI t := by unfold cnt; rw [nb_sub (by omega)]; rfl
theorem cnt_0 : cnt 0 < nI 0 := by decide
theorem cnt_dn (t : Nat) : nI t + -nI 1 = cnt t := (Int32.sub_eq_add_neg _ _).symm
def stN (b : Bo) (kn i : Nat) : Nat := if i < bM b then kn &&& Lv b kn i else 0
def cuN (b : Bo) (kn : Nat) : Nat → Nat
  | 0 => 0
  | i + 1 => cuN b kn i ||| Lv b kn (i + 1)
theorem Lv_bit {b : Bo} {kn i w : Nat} (hw : w < bN b) : (Lv b kn (i + 1)).testBit w = decide (bE b w &&& (kn &&& Lv b kn i) ≠ 0) := by
  show (ahead b (kn &&& Lv b kn i)).testBit w = _
  unfold ahead
  rw [mk_bit]
  simp [hw]
theorem few_p {b : Bo} {kn w : Nat} (hw : w < bN b) (i : Nat) : decide (bE b w &&& stN b kn i ≠ 0) = (decide (i < bM b) && (Lv b kn (i + 1)).testBit w) := by
  unfold stN
  by_cases h : i < bM b
  · rw [if_pos h, Lv_bit hw]
    simp [h]
  · rw [if_neg h]
    simp [h]
theorem few_many {b : Bo} {kn w : Nat} (W : WFb b) (hw : w < bN b) (hk : ¬ bK b w = 1) : fst (fun i => decide (bE b w &&& stN b kn i ≠ 0)) 4 = if fmany b kn w = 0 then 4 else fmany b kn w - 1 := by
  have h1 := W.2.2.1
  have hp := few_p (kn := kn) hw
  unfold fmany
  rw [if_neg hk]
  by_cases p0 : (Lv b kn 1).testBit w = true
  · rw [if_pos p0, fst_eq (i := 0) (by decide) (by rw [hp]; simp [p0]; omega) (fun j hj => absurd hj (Nat.not_lt_zero j))]
    try rfl
  · rw [if_neg p0]
    have q0 : decide (bE b w &&& stN b kn 0 ≠ 0) = false := by rw [hp]; simp [p0]
    by_cases p1 : 2 ≤ bM b ∧ (Lv b kn 2).testBit w = true
    · rw [if_pos p1, fst_eq (i := 1) (by decide) (by rw [hp]; simp [p1]; omega) (fun j hj => by
        have : j = 0 := by omega
        subst this; exact q0)]
      try rfl
    · rw [if_neg p1]
      have q1 : decide (bE b w &&& stN b kn 1 ≠ 0) = false := by rw [hp]; simpa [Nat.lt_iff_add_one_le] using p1
      by_cases p2 : 3 ≤ bM b ∧ (Lv b kn 3).testBit w = true
      · rw [if_pos p2, fst_eq (i := 2) (by decide) (by rw [hp]; simp [p2]; omega) (fun j hj => by
          have : j = 0 ∨ j = 1 := by omega
          rcases this with rfl | rfl
          · exact q0
          · exact q1)]
        try rfl
      · rw [if_neg p2]
        have q2 : decide (bE b w &&& stN b kn 2 ≠ 0) = false := by rw [hp]; simpa [Nat.lt_iff_add_one_le] using p2
        by_cases p3 : 4 ≤ bM b ∧ (Lv b kn 4).testBit w = true
        · rw [if_pos p3, fst_eq (i := 3) (by decide) (by rw [hp]; simp [p3]; omega) (fun j hj => by
            have : j = 0 ∨ j = 1 ∨ j = 2 := by omega
            rcases this with rfl | rfl | rfl
            · exact q0
            · exact q1
            · exact q2)]
          try rfl
        · rw [if_neg p3]
          have q3 : decide (bE b w &&& stN b kn 3 ≠ 0) = false := by rw [hp]; simpa [Nat.lt_iff_add_one_le] using p3
          rw [fst_none (fun j hj => by
            have : j = 0 ∨ j = 1 ∨ j = 2 ∨ j = 3 := by omega
            rcases this with rfl | rfl | rfl | rfl
            · exact q0
            · exact q1
            · exact q2
            · exact q3)]
          try rfl
theorem fmany_iff {b : Bo} {kn w : Nat} (W : WFb b) (hw : w < bN b) : 0 < fmany b kn w ↔ (¬ bK b w = 1 ∧ ∃ j, j < bM b ∧ (Lv b kn (j + 1)).testBit w = true) := by
  have h1 := W.2.2.1
  by_cases hk : bK b w = 1
  · unfold fmany
    rw [if_pos hk]
    simp [hk]
  · have h := few_many (kn := kn) W hw hk
    have hp := few_p (kn := kn) hw
    constructor
    · intro h0
      rw [if_neg (by omega)] at h
      have hl := fmany_le (kn := kn) (w := w) W
      refine ⟨hk, fmany b kn w - 1, by omega, ?_⟩
      rw [show fmany b kn w - 1 + 1 = fmany b kn w by omega]
      exact fmany_bit h0
    · rintro ⟨-, j, hj, hb⟩
      apply Decidable.byContradiction
      intro h0
      rw [if_pos (by omega)] at h
      have h2 := (fst_spec (fun i => decide (bE b w &&& stN b kn i ≠ 0)) 4).2 j (by rw [h]; omega)
      have h3 := h2.2
      rw [hp, hb] at h3
      simp at h3
      omega
theorem cuN_bit {b : Bo} {kn w : Nat} : ∀ n, ((cuN b kn n).testBit w = true) ↔ ∃ j, j < n ∧ (Lv b kn (j + 1)).testBit w = true := by
  intro n
  induction n with
  | zero => simp [cuN]
  | succ n ih =>
    unfold cuN
    rw [Nat.testBit_or, Bool.or_eq_true, ih]
    constructor
    · rintro (⟨j, h1, h2⟩ | h)
      · exact ⟨j, by omega, h2⟩
      · exact ⟨n, by omega, h⟩
    · rintro ⟨j, h1, h2⟩
      by_cases he : j = n
      · subst he; exact Or.inr h2
      · exact Or.inl ⟨j, by omega, h2⟩
theorem cuN_lt {b : Bo} {kn : Nat} (n : Nat) : cuN b kn n < 2 ^ bN b := by
  induction n with
  | zero => exact Nat.two_pow_pos _
  | succ n ih => exact or_lt ih (Lv_lt _ _)
theorem cuN_stop {b : Bo} {kn i : Nat} (h : kn &&& Lv b kn i = 0) : ∀ j, kn &&& Lv b kn (i + j) = 0 ∧ cuN b kn (i + j) = cuN b kn i := by
  intro j
  induction j with
  | zero => exact ⟨h, rfl⟩
  | succ j ih =>
    have z : Lv b kn (i + j + 1) = 0 := by
      show ahead b (kn &&& Lv b kn (i + j)) = 0
      rw [ih.1]
      refine bit_ext (mk_lt _ _) (Nat.two_pow_pos _) (fun x hx => ?_)
      unfold ahead
      rw [mk_bit]
      simp
    refine ⟨?_, ?_⟩
    · rw [← Nat.add_assoc, z, Nat.and_zero]
    · show cuN b kn (i + j) ||| Lv b kn (i + j + 1) = _
      rw [z, Nat.or_zero, ih.2]
theorem lost_cu {b : Bo} {kn : Nat} (W : WFb b) : nb_dif (cuN b kn (bM b)) (kindS b 1) = lostF b kn := by
  have hc : cuN b kn (bM b) < 1024 := lt1024 (cuN_lt _) W.1.2
  refine bit_ext (n := bN b) ?_ (mk_lt _ _) (fun w hw => ?_)
  · unfold nb_dif
    exact and_lt (cuN_lt _)
  · rw [nb_dif_bit hc]
    unfold lostF kindS
    rw [mk_bit, mk_bit]
    have h1 := cuN_bit (b := b) (kn := kn) (w := w) (bM b)
    have h2 := fmany_iff (kn := kn) W hw
    by_cases hk : bK b w = 1
    · simp [hk, hw, show ¬ 0 < fmany b kn w from fun q => (h2.mp q).1 hk]
    · by_cases hq : (cuN b kn (bM b)).testBit w = true
      · have : 0 < fmany b kn w := h2.mpr ⟨hk, h1.mp hq⟩
        simp [hk, hw, hq, this]
      · have : ¬ 0 < fmany b kn w := fun q => hq (h1.mpr (h2.mp q).2)
        simp [hk, hw, hq, this]
section X3
variable {m m' : Nat → Nat → Int32} {r : Nat → Nat → Option Nat} {a c d n B k w i v kn : Nat} {f g : Nat → Nat} {b : Bo} {s : St} {x : Int32}
theorem fgd : 71 < 130 ∧ (mx_lay 71).1 = 5 := ⟨by decide, by decide +kernel⟩
theorem fr0 (H : XR r) : mx_gr (130, m, r) 71 2 0 = some 72 := hb_gr (by decide) (by decide +kernel) (by decide) H.2.2.2.2.2.1.1
theorem fr1 (H : XR r) : mx_gr (130, m, r) 71 2 1 = some 74 := hb_gr (by decide) (by decide +kernel) (by decide) H.2.2.2.2.2.1.2.2
theorem f_rw (H : XR r) : isRw r 72 := ⟨by decide, by decide +kernel, by decide +kernel, H.2.2.2.2.2.1.2.1⟩
theorem fln : mx_ln (130, m, r) 74 = some (nI 4) := by
  unfold mx_ln
  rw [if_pos ⟨by show 74 < 130; decide, Or.inl (by decide +kernel)⟩]
  try rfl
theorem fal (hk : k < 4) : mx_al (130, m, r) 74 (nI k) = some (m 74 k) := hb_al (by decide) (by decide +kernel) (by rw [show mx_lay 74 = (0, 4) by decide +kernel]; exact hk)
theorem fas (hk : k < 4) (v : Int32) : mx_as (130, m, r) 74 (nI k) v = some (130, mx_up m 74 k v, r) := hb_as (by decide) (by decide +kernel) (by rw [show mx_lay 74 = (0, 4) by decide +kernel]; exact hk) v
theorem fi_fill (H : XR r) (hB : isB B) (R : BR m B b) (W : WFb b) : ∃ m', f_X2_fillStarts 71 B (nI kn) (130, m, r) = some (130, m', r) ∧ (∀ i, i < 4 → m' 74 i = nI (stN b kn i)) ∧ ∀ d, d ≠ 74 → m' d = m d := by
  have hb := b_ly hB
  unfold f_X2_fillStarts
  rw [bnd (bg hB (by decide)), R.1.2.2.1, nb_and]
  refine fix_rel (fun i q => ∃ m1 : Nat → Nat → Int32, q = (nI (kn &&& Lv b kn i), nI i, (130, m1, r)) ∧ (∀ j, j < i → m1 74 j = nI (stN b kn j)) ∧ ∀ d, d ≠ 74 → m1 d = m d) 4 (Q := fun o => ∃ m' : Nat → Nat → Int32, o = some (130, m', r) ∧ (∀ i, i < 4 → m' 74 i = nI (stN b kn i)) ∧ ∀ d, d ≠ 74 → m' d = m d) ?_ ?_ (by omega) ?_
  · rintro i q hi ⟨m1, rfl, h1, h2⟩
    have R1 : BR (mx_up m1 74 i (nI (stN b kn i))) B b := R.congr (fun c c1 c2 => by rw [up_ne (by omega)]; exact h2 c (by omega))
    have hM := W.2.2.1
    refine ⟨(nI (kn &&& Lv b kn (i + 1)), nI (i + 1), (130, mx_up m1 74 i (nI (stN b kn i)), r)), ⟨_, rfl, fun j hj => ?_, fun d hd => ?_⟩, fun self => ?_⟩
    · by_cases he : j = i
      · rw [he, hb_up_same]
      · rw [hb_up_ne (by omega)]; exact h1 j (by omega)
    · rw [up_ne hd]; exact h2 d hd
    · unfold f_X2_fillStarts_L10
      simp only [nb_lit]
      have e1 : m1 B 9 = nI (bM b) := by rw [h2 B (by omega)]; exact R.1.2.2.2.2.2.2.1
      have e2 : (if nI (bM b) ≤ nI i then some (nI 0) else some (nI (kn &&& Lv b kn i)) : Option Int32) = some (nI (stN b kn i)) := by
        unfold stN
        by_cases hq : i < bM b
        · rw [if_neg (n_nle hq (by omega)), if_pos hq]
        · rw [if_pos (n_le (by omega) (by omega)), if_neg hq]
      rw [bnd (fr1 H), bnd fln, if_neg (n_nle hi (by omega)), bnd (fr1 H), bnd (bg hB (by decide)), e1, bnd e2, bnd (fas hi _), if_pos (bgd hB), bnd (bo_ahead H hB R1 W _), nb_and, nI_add, Nat.and_comm]
      try rfl
  · rintro q ⟨m1, rfl, h1, h2⟩ self
    unfold f_X2_fillStarts_L10
    simp only [nb_lit]
    rw [bnd (fr1 H), bnd fln, if_pos (n_le (Nat.le_refl _) (by decide))]
    exact ⟨m1, rfl, h1, h2⟩
  · exact ⟨m, by rw [Nat.and_comm]; rfl, fun j hj => absurd hj (Nat.not_lt_zero j), fun d _ => rfl⟩
theorem fi_few (H : XR r) {E : Nat} {t : Nat → Nat} (hE : E < 1024) (h74 : ∀ i, i < 4 → m 74 i = nI (t i)) : f_X2_fewestMore 71 (nI E) (130, m, r) = some (if fst (fun i => decide (E &&& t i ≠ 0)) 4 < 4 then nI (fst (fun i => decide (E &&& t i ≠ 0)) 4) else -nI 1) := by
  unfold f_X2_fewestMore
  have hA : ∀ i, E &&& t i < 2 ^ 31 := fun i => by have := @Nat.and_le_left E (t i); omega
  refine fix_find (fun i q => q = nI i ∧ ∀ j, j < i → E &&& t j = 0) 4 (Q := fun o => o = some (if fst (fun i => decide (E &&& t i ≠ 0)) 4 < 4 then nI (fst (fun i => decide (E &&& t i ≠ 0)) 4) else -nI 1)) ?_ ?_ (by omega) ⟨rfl, fun j hj => absurd hj (Nat.not_lt_zero j)⟩
  · rintro i q hi ⟨rfl, h1⟩
    by_cases hz : E &&& t i = 0
    · refine Or.inl ⟨nI (i + 1), ⟨rfl, fun j hj => ?_⟩, fun self => ?_⟩
      · by_cases he : j = i
        · rw [he]; exact hz
        · exact h1 j (by omega)
      · unfold f_X2_fewestMore_L2
        simp only [nb_lit]
        rw [bnd (fr1 H), bnd fln, if_neg (n_nle hi (by omega)), bnd (fr1 H), bnd (fal hi), h74 i hi, nb_and, hz, if_pos rfl, nI_add]
    · refine Or.inr (fun self => ?_)
      unfold f_X2_fewestMore_L2
      simp only [nb_lit]
      rw [bnd (fr1 H), bnd fln, if_neg (n_nle hi (by omega)), bnd (fr1 H), bnd (fal hi), h74 i hi, nb_and, if_neg (n_ne hz (hA i) (by decide)), fst_eq hi (by simp [hz]) (fun j hj => by simp [h1 j hj]), if_pos hi]
  · rintro q ⟨rfl, h1⟩ self
    unfold f_X2_fewestMore_L2
    simp only [nb_lit]
    rw [bnd (fr1 H), bnd fln, if_pos (n_le (Nat.le_refl _) (by decide)), fst_none (fun j hj => by simp [h1 j hj]), if_neg (Nat.lt_irrefl _)]
theorem fi_no (H : XR r) (hB : isB B) (R : BR m B b) (hx : x < 0 ∨ nI (bN b) ≤ x) {y : Int32} : f_X2_find 71 B x y (130, m, r) = some (130, mx_up m 72 1 (nI 0), r) := by
  have hb := b_ly hB
  have R1 : BR (mx_up m 72 1 (nI 0)) B b := R.congr (fun c c1 c2 => up_ne (by omega))
  unfold f_X2_find
  simp only [nb_lit]
  rw [bnd (fr0 H), if_pos (rgd (f_rw H)), bnd (rw_clear (f_rw H)), if_pos (bgd hB), bnd (bo_no hB R1 hx), if_pos rfl]
theorem fi_find (H : XR r) (hB : isB B) (R : BR m B b) (W : WFb b) (hkn : kn < 1024) (hw : w < bN b) : ∃ m', f_X2_find 71 B (nI w) (nI kn) (130, m, r) = some (130, m', r) ∧ RW m' 72 (fmany b kn w) (fword b kn (fmany b kn w) w) ∧ ∀ d, d ≠ 72 → d ≠ 73 → d ≠ 74 → m' d = m d := by
  have hb := b_ly hB
  have hn := W.1
  have hM := W.2.2.1
  have R1 : BR (mx_up m 72 1 (nI 0)) B b := R.congr (fun c c1 c2 => up_ne (by omega))
  have hK := wf_K W hw
  unfold f_X2_find
  simp only [nb_lit]
  rw [bnd (fr0 H), if_pos (rgd (f_rw H)), bnd (rw_clear (f_rw H)), if_pos (bgd hB), bnd (bo_has hB R1 W hw), if_neg (n_ne (by decide) (by decide) (by decide)), if_pos (bgd hB), bnd (bo_kind H hB R1 W hw)]
  by_cases hk : bK b w = 1
  · have e0 : fmany b kn w = 0 := by unfold fmany; rw [if_pos hk]
    rw [if_neg (not_not_intro (by rw [hk])), e0]
    exact ⟨_, rfl, ⟨hb_up_same, fun i hi => absurd hi (Nat.not_lt_zero i)⟩, fun d h1 _ _ => up_ne h1⟩
  · obtain ⟨m1, e1, s1, f1⟩ := fi_fill (kn := kn) H hB R1 W
    have R2 : BR m1 B b := R1.congr (fun c c1 c2 => f1 c (by omega))
    have hl := fmany_le (kn := kn) (w := w) W
    rw [if_pos (n_ne hk (by omega) (by decide)), if_pos fgd, bnd e1, if_pos (bgd hB), bnd (bo_behind H hB R2 W hw), if_pos fgd, bnd (fi_few H (wf_E2 W hw) s1), few_many W hw hk]
    have e2 : (if (if fmany b kn w = 0 then 4 else fmany b kn w - 1) < 4 then nI (if fmany b kn w = 0 then 4 else fmany b kn w - 1) else -nI 1) = cnt (fmany b kn w) := by
      by_cases h0 : fmany b kn w = 0
      · rw [if_pos h0, if_neg (by decide), h0]
        decide
      · rw [if_neg h0, if_pos (by omega)]
        have := cnt_s (fmany b kn w - 1)
        rw [show fmany b kn w - 1 + 1 = fmany b kn w by omega] at this
        exact this.symm
    rw [e2]
    generalize hkk : fmany b kn w = kk at *
    refine fix_rel (fun j q => ∃ m2 : Nat → Nat → Int32, q = (nI (ffrom b kn kk w j), cnt (kk - j), (130, m2, r)) ∧ RW m2 72 j (fword b kn kk w) ∧ ∀ d, d ≠ 72 → d ≠ 73 → m2 d = m1 d) kk (Q := fun o => ∃ m' : Nat → Nat → Int32, o = some (130, m', r) ∧ RW m' 72 kk (fword b kn kk w) ∧ ∀ d, d ≠ 72 → d ≠ 73 → d ≠ 74 → m' d = m d) ?_ ?_ (by omega) ?_
    · rintro j q hj ⟨m2, rfl, h1, h2⟩
      have R3 : BR m2 B b := R2.congr (fun c c1 c2 => h2 c (by omega) (by omega))
      have hfw : fword b kn kk w j < bN b := by rw [← hkk]; exact fword_lt W (by rw [hkk]; exact hj)
      have hff : ffrom b kn kk w j < bN b := by
        have := ffrom_bit W (fmany_bit (kn := kn) (w := w) (by omega)) j (by omega)
        rw [hkk] at this
        exact Lv_bitlt this
      refine ⟨(nI (ffrom b kn kk w (j + 1)), cnt (kk - (j + 1)), (130, mx_up (mx_up m2 (72 + 1) j (nI (fword b kn kk w j))) 72 1 (nI (j + 1)), r)), ⟨_, rfl, h1.add2, fun d d1 d2 => ?_⟩, fun self => ?_⟩
      · rw [up_ne d1, up_ne d2]; exact h2 d d1 d2
      · have ec : cnt (kk - j) = nI (kk - 1 - j) := by
          have := cnt_s (kk - 1 - j)
          rw [show kk - 1 - j + 1 = kk - j by omega] at this
          exact this
        have es : m2 74 (kk - 1 - j) = nI (kn &&& Lv b kn (kk - 1 - j)) := by
          rw [h2 74 (by decide) (by decide), s1 _ (by omega)]
          unfold stN
          rw [if_pos (by omega)]
        have hE := wf_E2 W hff
        have hA : bE b (ffrom b kn kk w j) &&& (kn &&& Lv b kn (kk - 1 - j)) < 2 ^ 31 := by
          have := @Nat.and_le_left (bE b (ffrom b kn kk w j)) (kn &&& Lv b kn (kk - 1 - j))
          omega
        have en : fst (fun x => (bE b (ffrom b kn kk w j) &&& (kn &&& Lv b kn (kk - 1 - j))).testBit x) (bN b) = fword b kn kk w j := fword_next.symm
        unfold f_X2_find_L45
        simp only [nb_lit]
        rw [ec, if_neg (nI_pos0 (by omega)), bnd (fr1 H), bnd fln, if_neg (n_nle (by omega) (by omega)), if_pos (bgd hB), bnd (bo_behind H hB R3 W hff), bnd (fr1 H), bnd (fal (by omega)), es, if_pos (bgd hB), nb_and, bnd (bo_first hB R3 W hA), en, if_pos hfw, bnd (fr0 H), if_pos (rgd (f_rw H)), bnd (rw_add (f_rw H) h1.1 (by omega) _), cnt_dn, show kk - 1 - j = kk - (j + 1) by omega]
        try rfl
    · rintro q ⟨m2, rfl, h1, h2⟩ self
      unfold f_X2_find_L45
      simp only [nb_lit]
      rw [Nat.sub_self, if_pos cnt_0]
      exact ⟨m2, rfl, h1, fun d d1 d2 d3 => by rw [h2 d d1 d2, f1 d d3, up_ne d1]⟩
    · refine ⟨m1, rfl, ⟨?_, fun i hi => absurd hi (Nat.not_lt_zero i)⟩, fun d _ _ => rfl⟩
      rw [f1 72 (by decide), hb_up_same]
theorem fi_could (H : XR r) (hB : isB B) (R : BR m B b) (W : WFb b) (hkn : kn < 1024) : f_X2_couldBehind 71 B (nI kn) (130, m, r) = some (nI (lostF b kn)) := by
  have hM := W.2.2.1
  have hL : ∀ i, Lv b kn i < 1024 := fun i => Lv_2 W kn i
  unfold f_X2_couldBehind
  simp only [nb_lit]
  rw [bnd (bg hB (by decide)), R.1.2.2.1, nb_and]
  have fin : ∀ q : Int32 × Int32 × Int32, q.2.1 = nI (cuN b kn (bM b)) → ((mx_gi (130, m, r) B 0 4).bind fun x13 => some (q.2.1 &&& (x13 ^^^ -nI 1))) = some (nI (lostF b kn)) := by
    intro q hq
    rw [bnd (bg hB (by decide)), R.1.2.1, hq, nb_andn2 (lt1024 (cuN_lt _) W.1.2), lost_cu W]
  refine fix_find (fun i q => q = (nI (kn &&& Lv b kn i), nI (cuN b kn i), nI i)) (bM b) (Q := fun o => o = some (nI (lostF b kn))) ?_ ?_ (by omega) (by rw [Nat.and_comm]; rfl)
  · rintro i q hi rfl
    have hA : kn &&& Lv b kn i < 2 ^ 31 := by have := @Nat.and_le_left kn (Lv b kn i); omega
    by_cases hz : kn &&& Lv b kn i = 0
    · refine Or.inr (fun self => ?_)
      unfold f_X2_couldBehind_L13
      simp only [nb_lit]
      rw [bnd (bg hB (by decide)), R.1.2.2.2.2.2.2.1, if_neg (n_nle hi (by omega)), hz, if_pos rfl]
      have := (cuN_stop hz (bM b - i)).2
      rw [show i + (bM b - i) = bM b by omega] at this
      exact fin (nI 0, nI (cuN b kn i), nI i) (by rw [this])
    · refine Or.inl ⟨_, rfl, fun self => ?_⟩
      unfold f_X2_couldBehind_L13
      simp only [nb_lit]
      rw [bnd (bg hB (by decide)), R.1.2.2.2.2.2.2.1, if_neg (n_nle hi (by omega)), if_neg (n_ne hz hA (by decide)), if_pos (bgd hB), bnd (bo_ahead H hB R W _), nb_and, nb_or, nI_add, Nat.and_comm _ kn]
      try rfl
  · rintro q rfl self
    unfold f_X2_couldBehind_L13
    simp only [nb_lit]
    rw [bnd (bg hB (by decide)), R.1.2.2.2.2.2.2.1, if_pos (n_le (Nat.le_refl _) (by omega))]
    exact fin (nI (kn &&& Lv b kn (bM b)), nI (cuN b kn (bM b)), nI (bM b)) rfl
end X3
