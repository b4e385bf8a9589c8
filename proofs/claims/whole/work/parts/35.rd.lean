/-! the text, as it is read -/
def chrB (X : Nat × (Nat → Int32)) (i : Nat) (c : Nat) : Bool := decide (i < X.1 ∧ X.2 i = nI c)
def figB (X : Nat × (Nat → Int32)) (i : Nat) : Bool := decide (i < X.1 ∧ ¬ X.2 i < nI 48 ∧ ¬ nI 57 < X.2 i)
def figV (X : Nat × (Nat → Int32)) (i : Nat) : Nat := (X.2 i).toNatClampNeg - 48
/-- a number at p: its value, the place behind it -/
def numB (X : Nat × (Nat → Int32)) (p : Nat) : Option (Nat × Nat) := if figB X p = true then (if figB X (p + 1) = true then some (10 * figV X p + figV X (p + 1), p + 2) else some (figV X p, p + 1)) else none
/-- one from lo on, below hx, with c behind it -/
def numE (X : Nat × (Nat → Int32)) (p lo hx c : Nat) : Option (Nat × Nat) := (numB X p).bind fun q => if chrB X q.2 c = true ∧ lo ≤ q.1 ∧ q.1 < hx then some (q.1, q.2 + 1) else none
def addW (b : Bo) (k c : Nat) : Bo := (bN b + 1, fun w => if w = bN b then k else bK b w, fun w => if w = bN b then c else bW b w, fun w => if w = bN b then 0 else bE b w, bM b, bC b, bY b)
def addG (b : Bo) (o x : Nat) : Bo := (bN b, bK b, bW b, fun w => if w = o then bE b w ||| 2 ^ x else bE b w, bM b, bC b, bY b)
def addK (b : Bo) (i x : Nat) : Bo := (bN b, bK b, bW b, bE b, bM b, bC b, fun j => if j = i then bY b j ||| 2 ^ x else bY b j)
def setM (b : Bo) (l : Nat) : Bo := (bN b, bK b, bW b, bE b, l, bC b, bY b)
def setC (b : Bo) (c : Nat) : Bo := (bN b, bK b, bW b, bE b, bM b, c, bY b)
/-- one item at p: the place behind it, the borough then -/
def rdI (X : Nat × (Nat → Int32)) (b : Bo) (p : Nat) : Option (Nat × Bo) :=
  if X.2 p = nI 99 then (numE X (p + 1) 0 2 59).bind fun q => some (q.2, setC b q.1) else
  if X.2 p = nI 103 then (numE X (p + 1) 0 (bN b) 44).bind fun q => (numE X q.2 0 (bN b) 59).bind fun t => some (t.2, addG b q.1 t.1) else
  if X.2 p = nI 107 then (numE X (p + 1) 0 2 44).bind fun q => (numE X q.2 0 (bN b) 59).bind fun t => some (t.2, addK b q.1 t.1) else
  if X.2 p = nI 108 then (numE X (p + 1) 1 5 59).bind fun q => some (q.2, setM b q.1) else
  if X.2 p = nI 119 then (numE X (p + 1) 0 4 44).bind fun q => (numE X q.2 0 10 59).bind fun t => if bN b = 10 then none else some (t.2, addW b q.1 t.1) else none
def rdA (X : Nat × (Nat → Int32)) : Nat → Nat → Bo → Option Nat × Bo
  | 0, _, b => (none, b)
  | f + 1, p, b => if X.1 ≤ p then (none, b) else match rdI X b p with
    | none => (some p, b)
    | some q => rdA X f q.1 q.2
def bo0 : Bo := (0, fun _ => 0, fun _ => 0, fun _ => 0, 2, 0, fun _ => 0)
def rdT (X : Nat × (Nat → Int32)) : Option Nat × Bo := rdA X 201 0 bo0
def v_fault (A : Ab) : Int32 := match (rdT (aX A)).1 with
  | some p => nI p
  | none => -4
def newS (b : Bo) : St := (0, fun _ => 0, fun _ => 0, fun _ => 0, bY b, bC b, 0, 0)
def o_lay (A : Ab) : Int32 × Ab := if (rdT (aX A)).1 = none ∧ bN (rdT (aX A)).2 ≠ 0 then (nI (bN (rdT (aX A)).2), (aX A, (rdT (aX A)).2, newS (rdT (aX A)).2, (0, (aU A).2), (0, (aK A).2), (0, (aO A).2))) else (-2, A)
/-- what is told so far -/
def WFd (b : Bo) : Prop := bN b ≤ 10 ∧ (∀ w, w < bN b → bK b w < 4 ∧ bW b w < 10 ∧ bE b w < 2 ^ bN b) ∧ (1 ≤ bM b ∧ bM b ≤ 4) ∧ bC b < 2 ∧ ∀ i, i < 2 → bY b i < 2 ^ bN b
theorem figV_of {X : Nat × (Nat → Int32)} {i : Nat} (h : figB X i = true) : i < X.1 ∧ figV X i < 10 ∧ X.2 i = nI (48 + figV X i) := by
  unfold figB at h
  simp only [decide_eq_true_eq] at h
  obtain ⟨h1, h2, h3⟩ := h
  unfold figV
  rcases nb_three (X.2 i) 58 (by decide) with q | q | ⟨j, hj, e⟩
  · exact absurd (Int32.lt_trans q (by decide)) h2
  · exact absurd (Int32.lt_of_lt_of_le (by decide) q) h3
  · rw [e] at h2 h3 ⊢
    rw [nb_lt (by omega) (by decide)] at h2
    rw [nb_cl (by omega)]
    exact ⟨h1, by omega, by rw [show 48 + (j - 48) = j by omega]⟩
theorem numB_of {X : Nat × (Nat → Int32)} {p : Nat} {q : Nat × Nat} (h : numB X p = some q) : q.1 < 100 ∧ p + 1 ≤ q.2 ∧ q.2 ≤ p + 2 := by
  unfold numB at h
  split at h
  · rename_i h1
    have a1 := (figV_of h1).2.1
    split at h
    · rename_i h2
      have a2 := (figV_of h2).2.1
      cases h
      exact ⟨by show 10 * figV X p + figV X (p + 1) < 100; omega, by show p + 1 ≤ p + 2; omega, Nat.le_refl _⟩
    · cases h
      exact ⟨by show figV X p < 100; omega, Nat.le_refl _, by show p + 1 ≤ p + 2; omega⟩
  · cases h
theorem numE_of {X : Nat × (Nat → Int32)} {p lo hx c : Nat} {q : Nat × Nat} (h : numE X p lo hx c = some q) : lo ≤ q.1 ∧ q.1 < hx ∧ q.1 < 100 ∧ p + 2 ≤ q.2 ∧ q.2 ≤ X.1 := by
  unfold numE at h
  cases h1 : numB X p with
  | none => rw [h1] at h; cases h
  | some t =>
    rw [h1] at h
    have h2 : (if chrB X t.2 c = true ∧ lo ≤ t.1 ∧ t.1 < hx then some (t.1, t.2 + 1) else none) = some q := h
    obtain ⟨b1, b2, b3⟩ := numB_of h1
    split at h2
    · rename_i h3
      cases h2
      have h4 := h3.1
      unfold chrB at h4
      simp only [decide_eq_true_eq] at h4
      exact ⟨h3.2.1, h3.2.2, b1, by show p + 2 ≤ t.2 + 1; omega, by show t.2 + 1 ≤ X.1; omega⟩
    · cases h2
theorem rdI_of {X : Nat × (Nat → Int32)} {b : Bo} {p : Nat} {q : Nat × Bo} (D : WFd b) (h : rdI X b p = some q) : p + 3 ≤ q.1 ∧ q.1 ≤ X.1 ∧ WFd q.2 := by
  obtain ⟨d1, d2, d3, d4, d5⟩ := D
  unfold rdI at h
  split at h
  · obtain ⟨t, e1, e2⟩ := mx_bS h
    cases e2
    have := numE_of e1
    exact ⟨by show p + 3 ≤ t.2; omega, this.2.2.2.2, d1, d2, d3, this.2.1, d5⟩
  · split at h
    · obtain ⟨t, e1, e2⟩ := mx_bS h
      obtain ⟨u, e3, e4⟩ := mx_bS e2
      cases e4
      have h1 := numE_of e1
      have h2 := numE_of e3
      refine ⟨by show p + 3 ≤ u.2; omega, h2.2.2.2.2, d1, fun w hw => ⟨(d2 w hw).1, (d2 w hw).2.1, ?_⟩, d3, d4, d5⟩
      show (if w = t.1 then bE b w ||| 2 ^ u.1 else bE b w) < 2 ^ bN b
      split
      · exact or_lt (d2 w hw).2.2 (bit_lt h2.2.1)
      · exact (d2 w hw).2.2
    · split at h
      · obtain ⟨t, e1, e2⟩ := mx_bS h
        obtain ⟨u, e3, e4⟩ := mx_bS e2
        cases e4
        have h1 := numE_of e1
        have h2 := numE_of e3
        refine ⟨by show p + 3 ≤ u.2; omega, h2.2.2.2.2, d1, d2, d3, d4, fun i hi => ?_⟩
        show (if i = t.1 then bY b i ||| 2 ^ u.1 else bY b i) < 2 ^ bN b
        split
        · exact or_lt (d5 i hi) (bit_lt h2.2.1)
        · exact d5 i hi
      · split at h
        · obtain ⟨t, e1, e2⟩ := mx_bS h
          cases e2
          have := numE_of e1
          exact ⟨by show p + 3 ≤ t.2; omega, this.2.2.2.2, d1, d2, ⟨this.1, by show t.1 ≤ 4; omega⟩, d4, d5⟩
        · split at h
          · obtain ⟨t, e1, e2⟩ := mx_bS h
            obtain ⟨u, e3, e4⟩ := mx_bS e2
            split at e4
            · cases e4
            · rename_i h10
              cases e4
              have h1 := numE_of e1
              have h2 := numE_of e3
              have hp : 2 ^ bN b ≤ 2 ^ (bN b + 1) := Nat.pow_le_pow_right (by decide) (by omega)
              refine ⟨by show p + 3 ≤ u.2; omega, h2.2.2.2.2, by show bN b + 1 ≤ 10; omega, fun w hw => ?_, d3, d4, fun i hi => Nat.lt_of_lt_of_le (d5 i hi) hp⟩
              have hw : w < bN b + 1 := hw
              show (if w = bN b then t.1 else bK b w) < 4 ∧ (if w = bN b then u.1 else bW b w) < 10 ∧ (if w = bN b then 0 else bE b w) < 2 ^ (bN b + 1)
              by_cases he : w = bN b
              · rw [if_pos he, if_pos he, if_pos he]
                exact ⟨h1.2.1, h2.2.1, Nat.two_pow_pos _⟩
              · rw [if_neg he, if_neg he, if_neg he]
                have := d2 w (by omega)
                exact ⟨this.1, this.2.1, Nat.lt_of_lt_of_le this.2.2 hp⟩
          · cases h
theorem wd0 : WFd bo0 := ⟨by decide, fun w hw => absurd hw (Nat.not_lt_zero w), by decide, by decide, fun i _ => by show 0 < 2 ^ 0; decide⟩
theorem rdA_wf {X : Nat × (Nat → Int32)} : ∀ (f p : Nat) (b : Bo), WFd b → WFd (rdA X f p b).2 := by
  intro f
  induction f with
  | zero => intro p b D; exact D
  | succ f ih =>
    intro p b D
    unfold rdA
    split
    · exact D
    · split
      · exact D
      · rename_i q hq
        exact ih _ _ (rdI_of D hq).2.2
theorem wo_lay {A : Ab} (W : WFa A) : WFa (o_lay A).2 := by
  unfold o_lay
  split
  · rename_i h
    have D : WFd (rdT (aX A)).2 := rdA_wf _ _ _ wd0
    generalize (rdT (aX A)).2 = b at *
    have B : WFb b := ⟨⟨by have := h.2; omega, D.1⟩, D.2⟩
    exact ⟨W.1, B, ⟨Nat.zero_le _, fun i hi => absurd hi (Nat.not_lt_zero i), B.2.2.2.2, B.2.2.2.1⟩, ⟨Nat.zero_le _, fun i hi => absurd hi (Nat.not_lt_zero i)⟩, ⟨Nat.zero_le _, fun i hi => absurd hi (Nat.not_lt_zero i)⟩, ⟨Nat.zero_le _, fun i hi => absurd hi (Nat.not_lt_zero i)⟩⟩
  · exact W
