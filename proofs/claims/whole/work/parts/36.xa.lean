/-! the other side: the best sentence -/
def gP (b : Bo) (D k x : Nat) : Int := if 0 ≤ gI b D k x then gI b D k x else -1
def tB (b : Bo) (D k x : Nat) : Int := if 0 ≤ gI b D k x then gI b D k x + bW b x else -1
def mxB (b : Bo) (D k x : Nat) : Nat → Int
  | 0 => -1
  | j + 1 => if (bE b x).testBit j = true then (if mxB b D k x j < tB b D k j then tB b D k j else mxB b D k x j) else mxB b D k x j
def fB (b : Bo) (D k x : Nat) (y : Nat) : Int := if D.testBit x = false ∧ (bE b x).testBit y = true then gI b D k y + bW b y else -9999
theorem gI_s {b : Bo} {D k x : Nat} : gI b D (k + 1) x = gfold (fB b D k x) (-9999) (bN b) := rfl
theorem mxB_eq {b : Bo} {D k x : Nat} (W : WFb b) (hk : k ≤ 10) (hD : D.testBit x = false) : ∀ j, j ≤ bN b → mxB b D k x j = if 0 ≤ gfold (fB b D k x) (-9999) j then gfold (fB b D k x) (-9999) j else -1 := by
  intro j
  induction j with
  | zero => intro _; rfl
  | succ j ih =>
    intro hj
    have h1 := ih (by omega)
    have hb := (gI_bd (D := D) W k j (by omega)).2
    have hw := wf_W W (show j < bN b by omega)
    show (if (bE b x).testBit j = true then (if mxB b D k x j < tB b D k j then tB b D k j else mxB b D k x j) else mxB b D k x j) = if 0 ≤ (if fB b D k x j ≤ gfold (fB b D k x) (-9999) j then gfold (fB b D k x) (-9999) j else fB b D k x j) then (if fB b D k x j ≤ gfold (fB b D k x) (-9999) j then gfold (fB b D k x) (-9999) j else fB b D k x j) else -1
    have hge : (-9999 : Int) ≤ gfold (fB b D k x) (-9999) j := gfold_ge
    rw [h1]
    generalize gfold (fB b D k x) (-9999) j = G at *
    by_cases hE : (bE b x).testBit j = true
    · have ef : fB b D k x j = gI b D k j + bW b j := by unfold fB; rw [if_pos ⟨hD, hE⟩]
      rw [if_pos hE, ef]
      unfold tB
      generalize gI b D k j = g at *
      by_cases hg : 0 ≤ g
      · rw [if_pos hg]
        repeat' split
        all_goals omega
      · rw [if_neg hg]
        repeat' split
        all_goals omega
    · have ef : fB b D k x j = -9999 := by unfold fB; rw [if_neg (fun q => hE q.2)]
      rw [if_neg hE, ef, if_pos hge]
theorem mxB_gP {b : Bo} {D k x : Nat} (W : WFb b) (hk : k ≤ 10) (hD : D.testBit x = false) : mxB b D k x (bN b) = gP b D (k + 1) x := mxB_eq W hk hD (bN b) (Nat.le_refl _)
theorem gI_D {b : Bo} {D k x : Nat} (hD : D.testBit x = true) : gI b D (k + 1) x ≤ -9999 := by
  rw [gI_s]
  refine gfold_le (by omega) (fun y hy => ?_)
  unfold fB
  rw [if_neg (fun q => by rw [hD] at q; exact absurd q.1 (by decide))]
  omega
theorem gP_D {b : Bo} {D k x : Nat} (hD : D.testBit x = true) : gP b D (k + 1) x = -1 := by
  have := gI_D (b := b) (k := k) hD
  unfold gP
  rw [if_neg (by omega)]
theorem tB_bd {b : Bo} {D k x : Nat} (W : WFb b) (hk : k ≤ 10) (hx : x < bN b) : -1 ≤ tB b D k x ∧ tB b D k x ≤ 100 := by
  have h1 := gI_hi (D := D) (k := k) W hk hx
  have h2 := wf_W W hx
  unfold tB
  split <;> omega
theorem mxB_bd {b : Bo} {D k x : Nat} (W : WFb b) (hk : k ≤ 10) : ∀ j, j ≤ bN b → -1 ≤ mxB b D k x j ∧ mxB b D k x j ≤ 100 := by
  intro j
  induction j with
  | zero => intro _; exact ⟨by show (-1 : Int) ≤ -1; omega, by show (-1 : Int) ≤ 100; omega⟩
  | succ j ih =>
    intro hj
    have h1 := ih (by omega)
    have h2 := tB_bd (D := D) (k := k) W hk (show j < bN b by omega)
    unfold mxB
    repeat' split
    all_goals omega
theorem gP_bd {b : Bo} {D k x : Nat} (W : WFb b) (hk : k ≤ 10) (hx : x < bN b) : -1 ≤ gP b D k x ∧ gP b D k x ≤ 100 := by
  have h1 := gI_hi (D := D) (k := k) W hk hx
  unfold gP
  split <;> omega
section X10
variable {m m' : Nat → Nat → Int32} {r r' : Nat → Nat → Option Nat} {a c d n B D k w i j u v t : Nat} {f g P : Nat → Nat} {b : Bo} {s : St} {x y : Int32} {A : Ab}
theorem o_tab (X : XR r) (h : isOp a) (hk : k < 10) (hj : j < 10) : f_X5_tableAt a (nI k) (nI j) (130, m, r) = some (m (a + 4 + k) j) := by
  unfold f_X5_tableAt
  simp only [nb_lit]
  rw [if_neg (nI_pos0 (by omega)), if_neg (n_nle hk (by decide)), if_neg (nI_pos0 (by omega)), if_neg (n_nle hj (by decide)), bnd (or5 X h), bnd (orl X h hk), bnd (oat h hk hj)]
  rfl
theorem o_most (X : XR r) (hB : isB B) (R : BR m B b) (W : WFb b) (h : isOp a) (hk : k < 10) (hw : w < bN b) (ht : ∀ y, y < bN b → m (a + 4 + k) y = iI (tB b D k y)) : f_X5_mostBehind a B (nI w) (nI k) (130, m, r) = some (iI (mxB b D k w (bN b))) := by
  have hn := W.1
  have hE := wf_E2 W hw
  unfold f_X5_mostBehind
  rw [if_pos (bgd hB), bnd (bo_behind X hB R W hw), show (-1 : Int32) = iI (-1) by decide]
  refine fix_up (fun i => (iI (mxB b D k w i), nI i)) (bN b) (fun i hi self => ?_) (fun self => ?_) (by omega)
  · unfold f_X5_mostBehind_L13
    simp only [nb_lit]
    rw [bnd (bg hB (by decide)), R.1.1, if_neg (n_nle hi (by omega)), bnd (bo_bit (by omega) _), nI_add]
    have m1 := mxB_bd (D := D) (x := w) W (show k ≤ 10 by omega) i (by omega)
    have t1 := tB_bd (D := D) W (show k ≤ 10 by omega) hi
    by_cases hb : (bE b w).testBit i = true
    · rw [if_neg (fun q => by rw [nb_bit0 (by omega), hb] at q; cases q), if_pos (ogd h), bnd (o_tab X h hk (by omega)), ht i hi, Option.bind_some]
      simp only [mxB, hb, if_true]
      by_cases hq : mxB b D k w i < tB b D k i
      · rw [if_pos ((iI_lt (by omega) (by omega) (by omega) (by omega)).mpr hq), if_pos hq]
      · rw [if_neg (fun z => hq ((iI_lt (by omega) (by omega) (by omega) (by omega)).mp z)), if_neg hq]
    · rw [if_pos (by rw [nb_bit0 (by omega)]; simpa using hb), Option.bind_some]
      simp only [mxB, hb, if_false, Bool.false_eq_true]
  · unfold f_X5_mostBehind_L13
    dsimp only
    rw [bnd (bg hB (by decide)), R.1.1, if_pos (n_le (Nat.le_refl _) (by omega))]
theorem o_w2 (X : XR r) (hB : isB B) (R : BR m B b) (W : WFb b) (h : isOp a) {l2 : Int32} {K : Int32 × mx_Hp → Option mx_Hp} : ∃ m', mx_fix (f_X5_tableWorths_L2 a B l2 K) 2000 (nI 0, (130, m, r)) = K (nI (bN b), (130, m', r)) ∧ (∀ y, y < bN b → m' (a + 4 + 0) y = iI (tB b D 0 y)) ∧ ∀ d, d ≠ a + 4 → m' d = m d := by
  have hb := b_ly hB
  have ho := o_ly h
  have hn := W.1
  refine fix_rel (fun i q => ∃ m1 : Nat → Nat → Int32, q = (nI i, (130, m1, r)) ∧ (∀ y, y < i → m1 (a + 4 + 0) y = iI (tB b D 0 y)) ∧ ∀ d, d ≠ a + 4 → m1 d = m d) (bN b) (Q := fun o => ∃ m' : Nat → Nat → Int32, o = K (nI (bN b), (130, m', r)) ∧ (∀ y, y < bN b → m' (a + 4 + 0) y = iI (tB b D 0 y)) ∧ ∀ d, d ≠ a + 4 → m' d = m d) ?_ ?_ (by omega) ?_
  · rintro i q hi ⟨m1, rfl, g1, g2⟩
    have R1 : BR m1 B b := R.congr (fun c c1 c2 => g2 c (by omega))
    have hK := wf_K W hi
    refine ⟨(nI (i + 1), (130, mx_up m1 (a + 4 + 0) i (iI (tB b D 0 i)), r)), ⟨_, rfl, fun y hy => ?_, fun d hd => by rw [up_ne (by omega)]; exact g2 d hd⟩, fun self => ?_⟩
    · by_cases he : y = i
      · rw [he, hb_up_same]
      · rw [hb_up_ne (by omega)]; exact g1 y (by omega)
    · unfold f_X5_tableWorths_L2
      simp only [nb_lit]
      have e1 : (if ¬ nI (bK b i) = nI 2 then some (-nI 1) else if B < 130 ∧ (mx_lay B).1 = 3 then ((f_X0_worthOf B (nI i) (130, m1, r)).bind fun x9 => some x9) else none : Option Int32) = some (iI (tB b D 0 i)) := by
        unfold tB
        rw [gI_0]
        by_cases hk : bK b i = 2
        · rw [if_neg (not_not_intro (by rw [hk])), if_pos (bgd hB), bnd (bo_worth X hB R1 W hi), if_pos hk, if_pos (by decide), Int.zero_add]
          rfl
        · rw [if_pos (n_ne hk (by omega) (by decide)), if_neg hk, if_neg (by decide), iI_m1]
      rw [bnd (bg hB (by decide)), R1.1.1, if_neg (n_nle hi (by omega)), if_neg (n_nle (by omega) (by decide)), bnd (or5 X h), bnd (orl X h (by decide)), if_pos (bgd hB), bnd (bo_kind X hB R1 W hi), bnd e1, bnd (ost h (by decide) (by omega) _), nI_add]
  · rintro q ⟨m1, rfl, g1, g2⟩ self
    have R1 : BR m1 B b := R.congr (fun c c1 c2 => g2 c (by omega))
    unfold f_X5_tableWorths_L2
    dsimp only
    rw [bnd (bg hB (by decide)), R1.1.1, if_pos (n_le (Nat.le_refl _) (by omega))]
    exact ⟨m1, rfl, g1, g2⟩
  · exact ⟨m, rfl, fun y hy => absurd hy (Nat.not_lt_zero y), fun _ _ => rfl⟩
theorem o_w64 (X : XR r) (hB : isB B) (R : BR m B b) (W : WFb b) (h : isOp a) (hD : m a 2 = nI D) (hD2 : D < 1024) {l2 : Int32} {K : Int32 × mx_Hp → Option mx_Hp} (ht : t + 1 < 10) (h0 : ∀ y, y < bN b → m (a + 4 + t) y = iI (tB b D t y)) : ∃ m', mx_fix (f_X5_tableWorths_L64 a B l2 (nI (t + 1)) K) 2000 (nI 0, (130, m, r)) = K (nI (bN b), (130, m', r)) ∧ (∀ y, y < bN b → m' (a + 4 + (t + 1)) y = iI (tB b D (t + 1) y)) ∧ ∀ d, d ≠ a + 4 + (t + 1) → m' d = m d := by
  have hb := b_ly hB
  have ho := o_ly h
  have hn := W.1
  refine fix_rel (fun i q => ∃ m1 : Nat → Nat → Int32, q = (nI i, (130, m1, r)) ∧ (∀ y, y < i → m1 (a + 4 + (t + 1)) y = iI (tB b D (t + 1) y)) ∧ ∀ d, d ≠ a + 4 + (t + 1) → m1 d = m d) (bN b) (Q := fun o => ∃ m' : Nat → Nat → Int32, o = K (nI (bN b), (130, m', r)) ∧ (∀ y, y < bN b → m' (a + 4 + (t + 1)) y = iI (tB b D (t + 1) y)) ∧ ∀ d, d ≠ a + 4 + (t + 1) → m' d = m d) ?_ ?_ (by omega) ?_
  · rintro i q hi ⟨m1, rfl, g1, g2⟩
    have R1 : BR m1 B b := R.congr (fun c c1 c2 => g2 c (by omega))
    have d1 : m1 a 2 = nI D := by rw [g2 a (by omega)]; exact hD
    refine ⟨(nI (i + 1), (130, mx_up m1 (a + 4 + (t + 1)) i (iI (tB b D (t + 1) i)), r)), ⟨_, rfl, fun y hy => ?_, fun d hd => by rw [up_ne hd]; exact g2 d hd⟩, fun self => ?_⟩
    · by_cases he : y = i
      · rw [he, hb_up_same]
      · rw [hb_up_ne (by omega)]; exact g1 y (by omega)
    · unfold f_X5_tableWorths_L64
      simp only [nb_lit]
      have gb := gP_bd (D := D) (k := t + 1) W (by omega) hi
      have hW := wf_W W hi
      have e1 : (if nI D &&& nI (2 ^ i) = nI 0 then if a < 130 ∧ (mx_lay a).1 = 8 then ((f_X5_mostBehind a B (nI i) (nI (t + 1) - nI 1) (130, m1, r)).bind fun x34 => some x34) else none else some (-nI 1) : Option Int32) = some (iI (gP b D (t + 1) i)) := by
        by_cases hd : D.testBit i = true
        · rw [if_neg (fun q => by rw [nb_bit0 (by omega), hd] at q; cases q), gP_D hd, iI_m1]
        · have hd : D.testBit i = false := by simpa using hd
          rw [if_pos (by rw [nb_bit0 (by omega)]; exact hd), if_pos (ogd h), nb_sub (by omega), Nat.add_sub_cancel, bnd (o_most X hB R1 W h (by omega) hi (fun y hy => by rw [g2 _ (by omega)]; exact h0 y hy)), mxB_gP W (by omega) hd]
      have e2 : (if ¬ iI (gP b D (t + 1) i) = -nI 1 then if B < 130 ∧ (mx_lay B).1 = 3 then ((f_X0_worthOf B (nI i) (130, m1, r)).bind fun x40 => some (iI (gP b D (t + 1) i) + x40)) else none else some (-nI 1) : Option Int32) = some (iI (tB b D (t + 1) i)) := by
        unfold tB gP at *
        by_cases hg : 0 ≤ gI b D (t + 1) i
        · rw [if_pos hg] at gb ⊢
          rw [if_pos hg, iI_m1, if_pos (fun q => by rw [iI_eq (by omega) (by omega) (by omega) (by omega)] at q; omega), if_pos (bgd hB), bnd (bo_worth X hB R1 W hi), iI_add]
        · rw [if_neg hg, if_neg hg, iI_m1, if_neg (not_not_intro rfl)]
      rw [bnd (bg hB (by decide)), R1.1.1, if_neg (n_nle hi (by omega)), if_neg (n_nle (by omega) (by decide)), bnd (og h (by decide)), d1, bnd (bo_bit (by omega) _), bnd e1, bnd (or5 X h), bnd (orl X h ht), bnd e2, bnd (ost h ht (by omega) _), nI_add]
  · rintro q ⟨m1, rfl, g1, g2⟩ self
    have R1 : BR m1 B b := R.congr (fun c c1 c2 => g2 c (by omega))
    unfold f_X5_tableWorths_L64
    dsimp only
    rw [bnd (bg hB (by decide)), R1.1.1, if_pos (n_le (Nat.le_refl _) (by omega))]
    exact ⟨m1, rfl, g1, g2⟩
  · exact ⟨m, rfl, fun y hy => absurd hy (Nat.not_lt_zero y), fun _ _ => rfl⟩
theorem o_worths (X : XR r) (hB : isB B) (R : BR m B b) (W : WFb b) (h : isOp a) (hD : m a 2 = nI D) (hD2 : D < 1024) (h1 : 1 ≤ n) (h10 : n ≤ 10) : ∃ m', f_X5_tableWorths a B (nI n) (130, m, r) = some (130, m', r) ∧ (∀ k, k < n → ∀ y, y < bN b → m' (a + 4 + k) y = iI (tB b D k y)) ∧ ∀ d, (d < a + 4 ∨ a + 13 < d) → m' d = m d := by
  have hb := b_ly hB
  have ho := o_ly h
  unfold f_X5_tableWorths
  obtain ⟨m1, e1, r1, f1⟩ := o_w2 (D := D) (l2 := nI n) (K := fun s25 => mx_fix (f_X5_tableWorths_L50 a B (nI n)) 2000 (1, s25.2)) X hB R W h
  rw [show (0 : Int32) = nI 0 from rfl, e1]
  dsimp only
  refine fix_relS (fun t q => ∃ m2 : Nat → Nat → Int32, q = (nI (t + 1), (130, m2, r)) ∧ (∀ k, k < t + 1 → ∀ y, y < bN b → m2 (a + 4 + k) y = iI (tB b D k y)) ∧ ∀ d, (d < a + 4 ∨ a + 13 < d) → m2 d = m d) (n - 1) (Q := fun o => ∃ m' : Nat → Nat → Int32, o = some (130, m', r) ∧ (∀ k, k < n → ∀ y, y < bN b → m' (a + 4 + k) y = iI (tB b D k y)) ∧ ∀ d, (d < a + 4 ∨ a + 13 < d) → m' d = m d) ?_ ?_ (by omega) ?_
  · rintro t q ht ⟨m2, rfl, g1, g2⟩ self
    have R2 : BR m2 B b := R.congr (fun c c1 c2 => g2 c (by omega))
    obtain ⟨m3, e3, r3, f3⟩ := o_w64 (m := m2) (l2 := nI n) (K := fun s60 => self ((nI (t + 1) + 1), s60.2)) X hB R2 W h (by rw [g2 a (by omega)]; exact hD) hD2 (show t + 1 < 10 by omega) (g1 t (by omega))
    refine ⟨(nI (t + 1 + 1), (130, m3, r)), ⟨m3, rfl, fun k hk y hy => ?_, fun d hd => by rw [f3 d (by omega)]; exact g2 d hd⟩, ?_⟩
    · by_cases he : k = t + 1
      · rw [he]; exact r3 y hy
      · rw [f3 _ (by omega)]; exact g1 k (by omega) y hy
    · unfold f_X5_tableWorths_L50
      dsimp only
      rw [if_neg (n_nle (by omega) (by omega)), if_neg (show ¬ (10 : Int32) ≤ nI (t + 1) from n_nle (i := 10) (by omega) (by decide)), show (0 : Int32) = nI 0 from rfl, e3, nI_1]
  · rintro q ⟨m2, rfl, g1, g2⟩ self
    unfold f_X5_tableWorths_L50
    dsimp only
    rw [if_pos (n_le (by omega) (by omega))]
    exact ⟨m2, rfl, fun k hk => g1 k (by omega), g2⟩
  · exact ⟨m1, rfl, fun k hk y hy => by
      have : k = 0 := by omega
      subst this
      exact r1 y hy, fun d hd => f1 d (by omega)⟩
/-! which one it is -/
def en2 (st : Int × Nat × Nat) : Int32 := if st.1 < 0 then -nI 4 else nI st.2.2
def en3 (st : Int × Nat × Nat) : Int32 := if st.1 < 0 then nI 0 else nI (st.2.1 - 1)
theorem tB_v (W : WFb b) {l f : Nat} (hl : l ≤ 10) (hf : f < bN b) : tB b (dF b s f) l f = if 0 ≤ vB b s l f then vB b s l f else -1 := by
  have h1 := (gI_bd (D := dF b s f) W l f hf).2
  have h2 := wf_W W hf
  unfold tB vB
  generalize gI b (dF b s f) l f = g at *
  repeat' split
  all_goals omega
theorem z_in (X : XR r) (hB : isB B) (R : BR m B b) (W : WFb b) {l : Nat} (hl : l < 10) {l3 : Int32} (hT : ∀ f, f < bN b → m (opA b f + 4 + l) f = iI (tB b (dF b s f) l f)) {K : Int32 × Int32 × Int32 × Int32 → Option (Int32 × mx_Hp)} {st : Int × Nat × Nat} (hst : SumP (vB b s) (fun a c => a < l ∧ c < bN b) st) : ∃ st', SumP (vB b s) (fun a c => a < l + 1 ∧ c < bN b) st' ∧ mx_fix (f_X8_findBest_L46 75 B l3 (nI l) (130, m, r) K) 2000 (iI st.1, en2 st, en3 st, nI 0) = K (iI st'.1, en2 st', en3 st', nI (bN b)) := by
  have hn := W.1
  refine fix_rel (fun j q => ∃ st1, SumP (vB b s) (fun a c => (a < l ∧ c < bN b) ∨ (a = l ∧ c < j)) st1 ∧ q = (iI st1.1, en2 st1, en3 st1, nI j)) (bN b) (Q := fun o => ∃ st', SumP (vB b s) (fun a c => a < l + 1 ∧ c < bN b) st' ∧ o = K (iI st'.1, en2 st', en3 st', nI (bN b))) ?_ ?_ (by omega) ?_
  · rintro j q hj ⟨st1, h1, rfl⟩
    have hbd := h1.bd (M := 100) (fun a c hac => by
      rcases hac with ⟨q1, q2⟩ | ⟨q1, q2⟩
      · exact (vB_bd W (by omega) q2).2
      · exact (vB_bd W (by omega) (by omega)).2) (by omega)
    have h2 := h1.up (l := l) (f := j) (P' := fun a c => (a < l ∧ c < bN b) ∨ (a = l ∧ c < j + 1)) (fun a c hac => by omega) (fun a c => by omega)
    have hv := vB_bd (s := s) W hl hj
    have ht := tB_v (s := s) W (show l ≤ 10 by omega) hj
    refine ⟨(iI (if vB b s l j < 0 then st1 else if vB b s l j ≤ st1.1 then st1 else (vB b s l j, l + 1, j)).1, en2 (if vB b s l j < 0 then st1 else if vB b s l j ≤ st1.1 then st1 else (vB b s l j, l + 1, j)), en3 (if vB b s l j < 0 then st1 else if vB b s l j ≤ st1.1 then st1 else (vB b s l j, l + 1, j)), nI (j + 1)), ⟨_, h2, rfl⟩, fun self => ?_⟩
    unfold f_X8_findBest_L46
    simp only [nb_lit]
    rw [bnd (bg hB (by decide)), R.1.1, if_neg (n_nle hj (by omega)), if_pos zgd, bnd (z_by X hB R W hj), if_pos (ogd opA_op), bnd (o_tab X opA_op hl (by omega)), hT j hj, ht, nI_add]
    by_cases q1 : vB b s l j < 0
    · rw [if_neg (show ¬ 0 ≤ vB b s l j by omega), if_pos ((iI_le (by omega) (by omega) (by omega) (by omega)).mpr hbd.1), if_pos q1, Option.bind_some]
    · rw [if_pos (show 0 ≤ vB b s l j by omega), if_neg q1]
      by_cases q2 : vB b s l j ≤ st1.1
      · rw [if_pos ((iI_le (by omega) (by omega) (by omega) (by omega)).mpr q2), if_pos q2, Option.bind_some]
      · rw [if_neg (fun z => q2 ((iI_le (by omega) (by omega) (by omega) (by omega)).mp z)), if_neg q2, Option.bind_some]
        unfold en2 en3
        dsimp only
        rw [if_neg q1, if_neg q1, Nat.add_sub_cancel]
  · rintro q ⟨st1, h1, rfl⟩ self
    unfold f_X8_findBest_L46
    dsimp only
    rw [bnd (bg hB (by decide)), R.1.1, if_pos (n_le (Nat.le_refl _) (by omega))]
    exact ⟨st1, h1.congr (fun a c => by omega), rfl⟩
  · exact ⟨st, hst.congr (fun a c => by omega), rfl⟩
theorem z_out (X : XR r) (hB : isB B) (R : BR m B b) (W : WFb b) (h10 : n ≤ 10) (hT : ∀ l, l < n → ∀ f, f < bN b → m (opA b f + 4 + l) f = iI (tB b (dF b s f) l f)) {K : Int32 × Int32 × Int32 × Int32 → Option (Int32 × mx_Hp)} : ∃ st', SumP (vB b s) (fun a c => a < n ∧ c < bN b) st' ∧ mx_fix (f_X8_findBest_L37 75 B (nI n) (130, m, r) K) 2000 (iI (-1), -nI 4, nI 0, nI 0) = K (iI st'.1, en2 st', en3 st', nI n) := by
  refine fix_relS (fun l q => ∃ st1, SumP (vB b s) (fun a c => a < l ∧ c < bN b) st1 ∧ q = (iI st1.1, en2 st1, en3 st1, nI l)) n (Q := fun o => ∃ st', SumP (vB b s) (fun a c => a < n ∧ c < bN b) st' ∧ o = K (iI st'.1, en2 st', en3 st', nI n)) ?_ ?_ (by omega) ?_
  · rintro l q hl ⟨st1, h1, rfl⟩ self
    obtain ⟨st2, h2, e2⟩ := z_in (l3 := nI n) (K := fun s26 => self (s26.1, s26.2.1, s26.2.2.1, (nI l + 1))) X hB R W (show l < 10 by omega) (hT l hl) h1
    refine ⟨_, ⟨st2, h2, rfl⟩, ?_⟩
    unfold f_X8_findBest_L37
    dsimp only
    rw [if_neg (n_nle hl (by omega)), show (0 : Int32) = nI 0 from rfl, e2, nI_1]
  · rintro q ⟨st1, h1, rfl⟩ self
    unfold f_X8_findBest_L37
    dsimp only
    rw [if_pos (n_le (Nat.le_refl _) (by omega))]
    exact ⟨st1, h1, rfl⟩
  · refine ⟨(-1, 0, 0), Or.inl ⟨rfl, rfl, rfl, fun l f q => absurd q.1 (Nat.not_lt_zero l)⟩, rfl⟩
theorem z_fbw (X : XR r) (hB : isB B) (R : BR m B b) (W : WFb b) (h : isOp a) (hk : k < 10) (hw : w < bN b) {z : Int} (hz : 0 ≤ z ∧ z ≤ 100) (ht : ∀ y, y < bN b → m (a + 4 + k) y = iI (tB b D k y)) (hf : fst (fun y => (bE b w).testBit y && decide (gI b D k y + bW b y = z)) (bN b) < bN b) : f_X8_firstBehindWith 75 B a (nI w) (nI k) (iI z) (130, m, r) = some (nI (fst (fun y => (bE b w).testBit y && decide (gI b D k y + bW b y = z)) (bN b))) := by
  have hn := W.1
  have hE := wf_E2 W hw
  unfold f_X8_firstBehindWith
  have key : ∀ y, y < bN b → (tB b D k y = z ↔ gI b D k y + bW b y = z) := by
    intro y hy
    have h1 := (gI_bd (D := D) W k y hy).2
    have h2 := wf_W W hy
    unfold tB
    generalize gI b D k y = g at *
    split
    · exact Iff.rfl
    · omega
  refine fix_find (fun i q => q = nI i ∧ ∀ j, j < i → ((bE b w).testBit j && decide (gI b D k j + bW b j = z)) = false) (bN b) (Q := fun o => o = some (nI (fst (fun y => (bE b w).testBit y && decide (gI b D k y + bW b y = z)) (bN b)))) ?_ ?_ (by omega) ⟨rfl, fun j hj => absurd hj (Nat.not_lt_zero j)⟩
  · rintro i q hi ⟨rfl, h1⟩
    have tb := tB_bd (D := D) (k := k) W (by omega) hi
    have nx : ((bE b w).testBit i && decide (gI b D k i + bW b i = z)) = false → ∀ j, j < i + 1 → ((bE b w).testBit j && decide (gI b D k j + bW b j = z)) = false := by
      intro h2 j hj
      by_cases he : j = i
      · rw [he]; exact h2
      · exact h1 j (by omega)
    by_cases hb : (bE b w).testBit i = true
    · by_cases hq : gI b D k i + bW b i = z
      · refine Or.inr (fun self => ?_)
        unfold f_X8_firstBehindWith_L3
        simp only [nb_lit]
        rw [bnd (bg hB (by decide)), R.1.1, if_neg (n_nle hi (by omega)), if_pos (bgd hB), bnd (bo_behind X hB R W hw), bnd (bo_bit (by omega) _), if_neg (fun q => by rw [nb_bit0 (by omega), hb] at q; cases q), if_pos (ogd h), bnd (o_tab X h hk (by omega)), ht i hi, (key i hi).mpr hq, if_neg (not_not_intro rfl), fst_eq hi (by simp [hb, hq]) h1]
      · refine Or.inl ⟨nI (i + 1), ⟨rfl, nx (by simp [hq])⟩, fun self => ?_⟩
        unfold f_X8_firstBehindWith_L3
        simp only [nb_lit]
        rw [bnd (bg hB (by decide)), R.1.1, if_neg (n_nle hi (by omega)), if_pos (bgd hB), bnd (bo_behind X hB R W hw), bnd (bo_bit (by omega) _), if_neg (fun q => by rw [nb_bit0 (by omega), hb] at q; cases q), if_pos (ogd h), bnd (o_tab X h hk (by omega)), ht i hi, if_pos (fun q => by rw [iI_eq (by omega) (by omega) (by omega) (by omega)] at q; exact hq ((key i hi).mp q)), nI_add]
    · refine Or.inl ⟨nI (i + 1), ⟨rfl, nx (by simp [hb])⟩, fun self => ?_⟩
      unfold f_X8_firstBehindWith_L3
      simp only [nb_lit]
      rw [bnd (bg hB (by decide)), R.1.1, if_neg (n_nle hi (by omega)), if_pos (bgd hB), bnd (bo_behind X hB R W hw), bnd (bo_bit (by omega) _), if_pos (by rw [nb_bit0 (by omega)]; simpa using hb), nI_add]
  · rintro q ⟨rfl, h1⟩ self
    exact absurd hf (by rw [fst_none h1]; omega)
theorem z_fw (X : XR r) (hB : isB B) (R : BR m B b) (W : WFb b) {many ff : Nat} (h1 : 1 ≤ many) (h10 : many ≤ 10) (hff : ff < bN b) (h76 : m 76 1 = nI 0) (hg : 0 ≤ gI b D (many - 1) ff) (hT : ∀ k, k < many → ∀ y, y < bN b → m (opA b ff + 4 + k) y = iI (tB b D k y)) : ∃ m', f_X8_followWorth 75 B (nI ff) (nI (many - 1)) (130, m, r) = some (130, m', r) ∧ RW m' 76 many (pathB b D many ff) ∧ ∀ d, d ≠ 76 → d ≠ 77 → m' d = m d := by
  have hb := b_ly hB
  have hn := W.1
  have ho := o_ly (opA_op (b := b) (f := ff))
  have hinv := pathB_inv W h10 hff hg
  have R0 : RW m 76 0 (pathB b D many ff) := ⟨h76, fun i hi => absurd hi (Nat.not_lt_zero i)⟩
  unfold f_X8_followWorth
  simp only [nb_lit]
  rw [if_pos (bgd hB), bnd (bo_has hB R W hff), if_pos (n_ne (by decide) (by decide) (by decide) : ¬ nI 1 = nI 0), if_pos zgd, bnd (z_by X hB R W hff), bnd (zr0 X), if_pos (rgd (z_rw X)), bnd (rw_add (z_rw X) h76 (by decide) _), cnt_m]
  refine fix_rel (fun j q => ∃ m1 : Nat → Nat → Int32, q = (nI (pathB b D many ff j), cnt (many - 1 - j), (130, m1, r)) ∧ RW m1 76 (j + 1) (pathB b D many ff) ∧ ∀ d, d ≠ 76 → d ≠ 77 → m1 d = m d) (many - 1) (Q := fun o => ∃ m' : Nat → Nat → Int32, o = some (130, m', r) ∧ RW m' 76 many (pathB b D many ff) ∧ ∀ d, d ≠ 76 → d ≠ 77 → m' d = m d) ?_ ?_ (by omega) ?_
  · rintro j q hj ⟨m1, rfl, g1, g2⟩
    have R1 : BR m1 B b := R.congr (fun c c1 c2 => g2 c (by omega) (by omega))
    have ec : cnt (many - 1 - j) = nI (many - 1 - (j + 1)) := by
      have := cnt_s (many - 1 - (j + 1))
      rw [show many - 1 - (j + 1) + 1 = many - 1 - j by omega] at this
      exact this
    obtain ⟨p1, p2⟩ := hinv j (by omega)
    obtain ⟨n1, n2⟩ := hinv (j + 1) (by omega)
    have ep : pathB b D many ff (j + 1) = fst (fun y => (bE b (pathB b D many ff j)).testBit y && decide (gI b D (many - 1 - (j + 1)) y + bW b y = gI b D (many - 1 - (j + 1) + 1) (pathB b D many ff j))) (bN b) := rfl
    rw [show many - 1 - j = many - 1 - (j + 1) + 1 by omega] at p2
    have hi := gI_hi (D := D) (k := many - 1 - (j + 1) + 1) W (by omega) p1
    have hT1 : m1 (opA b ff + 4 + (many - 1 - (j + 1) + 1)) (pathB b D many ff j) = iI (tB b D (many - 1 - (j + 1) + 1) (pathB b D many ff j)) := by rw [g2 _ (by omega) (by omega)]; exact hT _ (by omega) _ p1
    have es : iI (tB b D (many - 1 - (j + 1) + 1) (pathB b D many ff j)) - nI (bW b (pathB b D many ff j)) = iI (gI b D (many - 1 - (j + 1) + 1) (pathB b D many ff j)) := by
      unfold tB
      rw [if_pos p2, ← iI_add, Int32.add_sub_cancel]
    refine ⟨(nI (pathB b D many ff (j + 1)), cnt (many - 1 - (j + 1)), (130, mx_up (mx_up m1 (76 + 1) (j + 1) (nI (pathB b D many ff (j + 1)))) 76 1 (nI (j + 1 + 1)), r)), ⟨_, rfl, g1.add2, fun d d1 d2 => by rw [up_ne d1, up_ne d2]; exact g2 d d1 d2⟩, fun self => ?_⟩
    unfold f_X8_followWorth_L34
    simp only [nb_lit]
    rw [ec, if_neg (nI_pos0 (by omega)), if_pos (ogd opA_op), nI_add, bnd (o_tab X opA_op (by omega) (by omega)), hT1, if_pos (bgd hB), bnd (bo_worth X hB R1 W p1), es, if_pos zgd, bnd (z_fbw (D := D) X hB R1 W opA_op (by omega) p1 ⟨p2, by omega⟩ (fun y hy => by rw [g2 _ (by omega) (by omega)]; exact hT _ (by omega) y hy) (by rw [← ep]; exact n1)), ← ep, bnd (zr0 X), if_pos (rgd (z_rw X)), bnd (rw_add (z_rw X) g1.1 (by omega) _), cnt_dn]
  · rintro q ⟨m1, rfl, g1, g2⟩ self
    unfold f_X8_followWorth_L34
    simp only [nb_lit]
    rw [Nat.sub_self, if_pos cnt_0]
    exact ⟨m1, rfl, by rw [show many = many - 1 + 1 by omega] at *; exact g1, g2⟩
  · exact ⟨_, rfl, R0.add2, fun d d1 d2 => by rw [up_ne d1, up_ne d2]⟩
end X10
