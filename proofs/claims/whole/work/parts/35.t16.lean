/-! the text: the reference -/
def XT (m : Nat → Nat → Int32) (X : Nat × (Nat → Int32)) : Prop := m 114 1 = nI X.1 ∧ ∀ i, i < X.1 → m 115 i = X.2 i
def letM (X : Nat × (Nat → Int32)) (p : Nat) : Int32 := if p < X.1 then X.2 p else -1
def numR (o : Option (Nat × Nat)) : Int32 := match o with
  | some q => nI q.1
  | none => -1
/-- the draft -/
def TD (f : Nat → Int32) (b : Bo) : Prop := TO f b ∧ ∀ w, bN b ≤ w → w < 10 → f (23 + w) = 0
theorem letM_chr {X : Nat × (Nat → Int32)} {p c : Nat} (hc : c < 2 ^ 31) : (letM X p = nI c) ↔ chrB X p c = true := by
  unfold letM chrB
  simp only [decide_eq_true_eq]
  by_cases h : p < X.1
  · rw [if_pos h]
    exact ⟨fun q => ⟨h, q⟩, fun q => q.2⟩
  · rw [if_neg h]
    exact ⟨fun q => absurd q.symm (nI_ne_m1 hc), fun q => absurd q.1 h⟩
section M16
variable {m : Nat → Nat → Int32} {r : Nat → Nat → Option Nat} {b : Bo} {A : Ab} {X : Nat × (Nat → Int32)}
theorem gdm (m' : Nat → Nat → Int32) : 114 < ((130, m', r) : mx_Hp).1 ∧ (mx_lay 114).1 = 15 := ⟨by show 114 < 130; decide, ly_m⟩
theorem XT.up (P : XT m X) {v : Int32} : XT (mx_up m 114 11 v) X := ⟨by rw [hb_up_ne (by omega)]; exact P.1, fun i hi => by rw [hb_up_ne (by omega)]; exact P.2 i hi⟩
theorem m_let (H : MR r) (P : XT m X) (hX : X.1 ≤ 200) {p : Nat} (hp : p < 1000) : f_X12_letterAt 114 (nI p) (130, m, r) = some (letM X p) := by
  unfold f_X12_letterAt letM
  rw [bnd gi_typed, P.1, bnd_id]
  by_cases h : p < X.1
  · rw [if_neg (by rw [nb_le (by omega) (by omega)]; omega), if_pos h, bnd (gr_text H), bnd (al_text (by omega)), P.2 p h]
  · rw [if_pos (by rw [nb_le (by omega) (by omega)]; omega), if_neg h]
theorem m_fig {p : Nat} {h : mx_Hp} : f_X12_isFigure (letM X p) h = some (if figB X p = true then 1 else 0) := by
  unfold f_X12_isFigure
  rw [bnd (mb_in _ _ _ _)]
  have e : (letM X p < 48 ∨ 57 < letM X p) ↔ ¬ figB X p = true := by
    unfold letM figB
    simp only [decide_eq_true_eq]
    by_cases h : p < X.1
    · rw [if_pos h]
      have e1 : (48 : Int32) = nI 48 := rfl
      have e2 : (57 : Int32) = nI 57 := rfl
      rw [e1, e2]
      constructor
      · rintro (q | q) ⟨-, q1, q2⟩
        · exact q1 q
        · exact q2 q
      · intro q
        by_cases q1 : X.2 p < nI 48
        · exact Or.inl q1
        · exact Or.inr (Decidable.byContradiction fun q2 => q ⟨h, q1, q2⟩)
    · rw [if_neg h]
      exact ⟨fun _ q => h q.1, fun _ => Or.inl (by decide)⟩
  by_cases h : figB X p = true
  · rw [if_neg (fun q => e.mp q h), if_pos h]
    rfl
  · rw [if_pos (e.mpr h), if_neg h]
    rfl
theorem m_num (H : MR r) (P : XT m X) (hX : X.1 ≤ 200) {p lo hx c : Nat} {lo' hi c' : Int32} (hp : p ≤ 300) (h11 : m 114 11 = nI p) (hlo : lo < 100) (hlo' : lo' = nI lo) (hhi : ∀ v, v < 100 → (hi < nI v ↔ hx ≤ v)) (hc : c < 128) (hc' : c' = nI c) : ∃ v' : Nat, f_X12_number 114 lo' hi c' (130, m, r) = some (numR (numE X p lo hx c), (130, mx_up m 114 11 (nI v'), r)) ∧ ∀ q, numE X p lo hx c = some q → v' = q.2 := by
  subst hlo' hc'
  unfold f_X12_number
  rw [bnd gi_at, h11, if_pos (gdm m), bnd (m_let H P hX (by omega)), bnd m_fig]
  by_cases f1 : figB X p = true
  · obtain ⟨a1, a2, a3⟩ := figV_of f1
    have l1 : letM X p = nI (48 + figV X p) := by unfold letM; rw [if_pos a1, a3]
    rw [if_pos f1, if_pos (show ¬ (1 : Int32) = 0 by decide), bnd gi_at, h11, if_pos (gdm m), bnd (m_let H P hX (by omega)), bnd gi_at, h11, nI_1, bnd (pi_at _), bnd gi_at, hb_up_same, if_pos (gdm _), bnd (m_let H P.up hX (by omega)), bnd m_fig, l1]
    have s1 : nI (48 + figV X p) - 48 = nI (figV X p) := by
      have := nb_sub (a := 48 + figV X p) (b := 48) (by omega)
      rw [show 48 + figV X p - 48 = figV X p by omega] at this
      exact this
    -- the number itself
    have mid : ∃ v q : Nat, numB X p = some (v, q) ∧ q ≤ p + 2 ∧ ((if (if figB X (p + 1) = true then (1 : Int32) else 0) = 0 then some ((nI (48 + figV X p) - 48), (130, mx_up m 114 11 (nI (p + 1)), r)) else (mx_gi (130, mx_up m 114 11 (nI (p + 1)), r) 114 12 11).bind fun x16 => if 114 < ((130, mx_up m 114 11 (nI (p + 1)), r) : mx_Hp).1 ∧ (mx_lay 114).1 = 15 then ((f_X12_letterAt 114 x16 (130, mx_up m 114 11 (nI (p + 1)), r)).bind fun x17 => (mx_gi (130, mx_up m 114 11 (nI (p + 1)), r) 114 12 11).bind fun x19 => (mx_pi (130, mx_up m 114 11 (nI (p + 1)), r) 114 12 11 (x19 + 1)).bind fun h20 => some ((((10 * (nI (48 + figV X p) - 48)) + x17) - 48), h20)) else none : Option (Int32 × mx_Hp)) = some (nI v, (130, mx_up m 114 11 (nI q), r))) := by
      by_cases f2 : figB X (p + 1) = true
      · obtain ⟨b1, b2, b3⟩ := figV_of f2
        have l2 : letM X (p + 1) = nI (48 + figV X (p + 1)) := by unfold letM; rw [if_pos b1, b3]
        refine ⟨10 * figV X p + figV X (p + 1), p + 2, by unfold numB; rw [if_pos f1, if_pos f2], Nat.le_refl _, ?_⟩
        rw [if_pos f2, if_neg (show ¬ (1 : Int32) = 0 by decide), bnd gi_at, hb_up_same, if_pos (gdm _), bnd (m_let H P.up hX (by omega)), bnd gi_at, hb_up_same, nI_1, bnd (pi_at _), up_up, s1, l2]
        have s2 : 10 * nI (figV X p) + nI (48 + figV X (p + 1)) - 48 = nI (10 * figV X p + figV X (p + 1)) := by
          have e1 : nI 10 * nI (figV X p) + nI (48 + figV X (p + 1)) - nI 48 = nI (10 * figV X p + figV X (p + 1)) := by
            rw [pk_mul, nI_add, nb_sub (by omega)]
            congr 1
            omega
          exact e1
        rw [s2]
      · refine ⟨figV X p, p + 1, by unfold numB; rw [if_pos f1, if_neg f2], by omega, ?_⟩
        rw [if_neg f2, if_pos rfl, s1]
    obtain ⟨v, q, n1, n2, n3⟩ := mid
    have hv := (numB_of n1).1
    have hv : v < 100 := hv
    rw [bnd n3]
    show ∃ v', ((mx_gi (130, mx_up m 114 11 (nI q), r) 114 12 11).bind fun x22 => _) = _ ∧ _
    rw [bnd gi_at, hb_up_same, if_pos (gdm _), bnd (m_let H P.up hX (by omega))]
    have nE : numE X p lo hx c = if chrB X q c = true ∧ lo ≤ v ∧ v < hx then some (v, q + 1) else none := by unfold numE; rw [n1]; rfl
    have tst : ((if ¬ letM X q = nI c then some 0 else (f_X12_in (nI v) (nI lo) hi (130, mx_up m 114 11 (nI q), r)).bind fun x26 => if x26 = 0 then some 0 else some 1 : Option Int32)) = some (if chrB X q c = true ∧ lo ≤ v ∧ v < hx then 1 else 0) := by
      by_cases d1 : chrB X q c = true
      · rw [if_neg (not_not_intro ((letM_chr (by omega)).mpr d1)), bnd (mb_in _ _ _ _)]
        have e2 : (nI v < nI lo ∨ hi < nI v) ↔ ¬ (lo ≤ v ∧ v < hx) := by
          rw [nb_lt (by omega) (by omega), hhi v hv]
          omega
        by_cases d2 : lo ≤ v ∧ v < hx
        · have dd : chrB X q c = true ∧ lo ≤ v ∧ v < hx := ⟨d1, d2⟩
          rw [if_neg (fun z => e2.mp z d2), if_pos dd]
          rfl
        · have dd : ¬ (chrB X q c = true ∧ lo ≤ v ∧ v < hx) := fun z => d2 z.2
          rw [if_pos (e2.mpr d2), if_neg dd]
          rfl
      · rw [if_pos (fun z => d1 ((letM_chr (by omega)).mp z)), if_neg (fun z => d1 z.1)]
    refine ⟨q + 1, ?_, fun t ht => ?_⟩
    · rw [bnd tst, bnd gi_at, hb_up_same, nI_1, bnd (pi_at _), up_up, nE]
      by_cases d : chrB X q c = true ∧ lo ≤ v ∧ v < hx
      · rw [if_pos d, if_pos d]
        rfl
      · rw [if_neg d, if_neg d]
        rfl
    · rw [nE] at ht
      split at ht
      · cases ht; rfl
      · cases ht
  · have n1 : numB X p = none := by unfold numB; rw [if_neg f1]
    have nE : numE X p lo hx c = none := by unfold numE; rw [n1]; rfl
    refine ⟨p, ?_, fun q hq => by rw [nE] at hq; cases hq⟩
    rw [if_neg f1, if_neg (show ¬ ¬ (0 : Int32) = 0 by decide), nE, up_id h11]
    rfl
end M16
