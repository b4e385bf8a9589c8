/-! faults and boroughs laid: the reference -/
def ansF (o : Option Nat) : Int32 := match o with
  | some p => nI p
  | none => -nI 4
theorem ng_lt0 {j : Nat} (hj : j < 2 ^ 31) : -nI 4 < nI j := Int32.lt_of_lt_of_le (show (-nI 4 : Int32) < 0 by decide) (nb_pos hj)
theorem v_fault_eq (A : Ab) : v_fault A = ansF (rdT (aX A)).1 := by
  unfold v_fault ansF
  cases (rdT (aX A)).1 <;> rfl
section M18
variable {m : Nat → Nat → Int32} {r : Nat → Nat → Option Nat} {b : Bo} {A : Ab} {X : Nat × (Nat → Int32)}
theorem m_begin (H : MR r) : ∃ m', f_X12_begins 114 (130, m, r) = some (130, m', r) ∧ TD (m' 117) bo0 ∧ ∀ a, a ≠ 117 → m' a = m a := by
  unfold f_X12_begins
  have key : mx_fix (f_X12_begins_L2 114) 2000 (0, (130, m, r)) = some (130, mx_up (cpy m 117 0 (fun _ => 0) 35) 117 1 (nI 2), r) := by
    have := fix_up (F := f_X12_begins_L2 114) (fun i => (nI i, (130, cpy m 117 0 (fun _ => 0) i, r))) 35 (y := some (130, mx_up (cpy m 117 0 (fun _ => 0) 35) 117 1 (nI 2), r)) (fun i hi self => ?_) (fun self => ?_) (fuel := 2000) (by omega)
    · simp only [cpy_0] at this
      exact this
    · unfold f_X12_begins_L2
      simp only [nb_lit]
      rw [if_neg (by rw [nb_le (by omega) (by omega)]; omega), bnd (gr_draft H), bnd (as_draft hi _), nI_add, show nI 0 = (fun _ : Nat => (0 : Int32)) i from rfl, cpy_s0 (f := fun _ => 0)]
    · unfold f_X12_begins_L2
      simp only [nb_lit]
      rw [if_pos (by rw [nb_le (by omega) (by omega)]; omega), bnd (gr_draft H), bnd (as_draft (by decide) _)]
  refine ⟨_, key, ⟨⟨?_, hb_up_same, ?_, fun w hw => absurd hw (Nat.not_lt_zero w), fun i hi => ?_⟩, fun w _ hw => ?_⟩, fun a ha => by rw [up_ne ha, cpy_ne ha]⟩
  · rw [hb_up_ne (by omega), cpy_in (by omega) (by omega)]; rfl
  · rw [hb_up_ne (by omega), cpy_in (by omega) (by omega)]; rfl
  · rw [hb_up_ne (by omega), cpy_in (by omega) (by omega)]; rfl
  · rw [hb_up_ne (by omega), cpy_in (by omega) (by omega)]
theorem m_rd (H : MR r) (hX : X.1 ≤ 200) : ∀ (f p : Nat) (b : Bo) (m : Nat → Nat → Int32), XT m X → WFd b → TD (m 117) b → m 114 11 = nI p → p ≤ 300 → X.1 < p + f + 1 → ∀ F, f < F → ∃ m', mx_fix (f_X12_readsAll_L9 114) F (130, m, r) = some (ansF (rdA X f p b).1, (130, m', r)) ∧ ((rdA X f p b).1 = none → TD (m' 117) (rdA X f p b).2) ∧ (∀ a, a ≠ 114 → a ≠ 117 → m' a = m a) ∧ ∀ j, j ≠ 11 → m' 114 j = m 114 j := by
  have stop : ∀ (p : Nat) (m : Nat → Nat → Int32) (self : mx_Hp → Option (Int32 × mx_Hp)), XT m X → m 114 11 = nI p → p ≤ 300 → X.1 ≤ p → f_X12_readsAll_L9 114 self (130, m, r) = some (-nI 4, (130, m, r)) := by
    intro p m self P h11 hp hx
    unfold f_X12_readsAll_L9
    simp only [nb_lit]
    rw [bnd gi_at, bnd gi_typed, h11, P.1, if_pos (by rw [nb_le (by omega) (by omega)]; exact hx)]
  intro f
  induction f with
  | zero =>
    intro p b m P D T h11 hp hf F hF
    obtain ⟨F', rfl⟩ : ∃ F', F = F' + 1 := ⟨F - 1, by omega⟩
    exact ⟨m, stop p m _ P h11 hp (by omega), fun _ => T, fun _ _ _ => rfl, fun _ _ => rfl⟩
  | succ f ih =>
    intro p b m P D T h11 hp hf F hF
    obtain ⟨F', rfl⟩ : ∃ F', F = F' + 1 := ⟨F - 1, by omega⟩
    rw [fix_1]
    by_cases hx : X.1 ≤ p
    · have e : rdA X (f + 1) p b = (none, b) := by
        show (if X.1 ≤ p then (none, b) else _) = _
        rw [if_pos hx]
      rw [e]
      exact ⟨m, stop p m _ P h11 hp hx, fun _ => T, fun _ _ _ => rfl, fun _ _ => rfl⟩
    · have P1 : XT (mx_up m 114 11 (nI (p + 1))) X := P.up
      have T1 : TD ((mx_up m 114 11 (nI (p + 1))) 117) b := by rw [up_ne (by decide)]; exact T
      obtain ⟨m2, e1, e2, e3, e4⟩ := m_item H P1 hX D T1 (show p < X.1 by omega) hb_up_same
      have body : f_X12_readsAll_L9 114 (mx_fix (f_X12_readsAll_L9 114) F') (130, m, r) = (if ¬ (if (rdI X b p).isSome = true then nI 1 else nI 0) = nI 0 then mx_fix (f_X12_readsAll_L9 114) F' (130, m2, r) else some (nI p, (130, m2, r))) := by
        unfold f_X12_readsAll_L9
        simp only [nb_lit]
        rw [bnd gi_at, bnd gi_typed, h11, P.1, if_neg (by rw [nb_le (by omega) (by omega)]; omega), bnd gi_at, bnd gi_at, h11, nI_add, bnd (pi_at _), bnd (gr_text H), bnd (al_text (by omega)), up_ne (by decide), P.2 p (by omega), if_pos gdn, bnd e1]
      rw [body]
      have fr : ∀ a, a ≠ 114 → a ≠ 117 → m2 a = m a := fun a ha hb => by rw [e3 a ha hb, up_ne ha]
      have fr4 : ∀ j, j ≠ 11 → m2 114 j = m 114 j := fun j hj => by rw [e4 j hj, hb_up_ne (Or.inr hj)]
      cases hI : rdI X b p with
      | none =>
        have er : rdA X (f + 1) p b = (some p, b) := by simp only [rdA, if_neg hx, hI]
        rw [er, if_neg (show ¬ ¬ (if (none : Option (Nat × Bo)).isSome = true then nI 1 else nI 0) = nI 0 from not_not_intro rfl)]
        exact ⟨m2, rfl, fun q => (by cases q), fr, fr4⟩
      | some q =>
        have er : rdA X (f + 1) p b = rdA X f q.1 q.2 := by simp only [rdA, if_neg hx, hI]
        have hq := rdI_of D hI
        obtain ⟨t1, t2⟩ := e2 q hI
        have P2 : XT m2 X := ⟨by rw [fr4 1 (by decide)]; exact P.1, fun i hi => by rw [fr 115 (by decide) (by decide)]; exact P.2 i hi⟩
        obtain ⟨m3, j1, j2, j3, j4⟩ := ih q.1 q.2 m2 P2 hq.2.2 t2 t1 (by omega) (by omega) F' (by omega)
        rw [er, if_pos (show ¬ (if (some q : Option (Nat × Bo)).isSome = true then nI 1 else nI 0) = nI 0 by rw [if_pos (show (some q).isSome = true from rfl)]; decide)]
        exact ⟨m3, j1, j2, fun a ha hb => by rw [j3 a ha hb, fr a ha hb], fun j hj => by rw [j4 j hj, fr4 j hj]⟩
theorem m_all2 (H : MR r) (R : RelM m A) (W : WFa A) : ∃ m', f_X12_readsAll 114 (130, m, r) = some (ansF (rdT (aX A)).1, (130, m', r)) ∧ ((rdT (aX A)).1 = none → TD (m' 117) (rdT (aX A)).2) ∧ RelM m' A ∧ (∀ a, a ≠ 114 → a ≠ 117 → m' a = m a) ∧ ∀ j, j ≠ 11 → m' 114 j = m 114 j := by
  have hX := W.1
  obtain ⟨m1, e1, t1, f1⟩ := m_begin (m := m) H
  have P1 : XT (mx_up m1 114 11 (nI 0)) (aX A) := ⟨by rw [hb_up_ne (by omega), f1 114 (by decide)]; exact R.1.1, fun i hi => by rw [up_ne (by decide), f1 115 (by decide)]; exact R.1.2 i hi⟩
  obtain ⟨m2, e2, t2, f2, f3⟩ := m_rd H hX 201 0 bo0 (mx_up m1 114 11 (nI 0)) P1 wd0 (by rw [up_ne (by decide)]; exact t1) hb_up_same (by omega) (by omega) 2000 (by omega)
  have F1 : ∀ a, a ≠ 114 → a ≠ 117 → m2 a = m a := fun a ha hb => by rw [f2 a ha hb, up_ne ha, f1 a hb]
  have F2 : ∀ j, j ≠ 11 → m2 114 j = m 114 j := fun j hj => by rw [f3 j hj, hb_up_ne (Or.inr hj), f1 114 (by decide)]
  refine ⟨m2, ?_, t2, ?_, F1, F2⟩
  · unfold f_X12_readsAll
    rw [if_pos gdn, bnd e1, show (0 : Int32) = nI 0 from rfl, bnd (pi_at _)]
    exact e2
  · exact R.act (by rw [F1 118 (by decide) (by decide)]; exact R.2.2.1) ⟨by rw [F2 6 (by decide)]; exact R.2.2.2.1.1, fun i hi => by rw [F1 119 (by decide) (by decide)]; exact R.2.2.2.1.2 i hi⟩ (F1 _ (by decide) (by decide)) (F1 _ (by decide) (by decide)) (F1 _ (by decide) (by decide)) (F1 _ (by decide) (by decide)) (F2 _ (by decide)) (F2 _ (by decide)) (F2 _ (by decide))
theorem mc_fault (H : MR r) (R : RelM m A) (W : WFa A) : MOk (f_X12_fault 114 (130, m, r)) m r (v_fault A) A := by
  obtain ⟨m1, e1, t1, r1, f1, f2⟩ := m_all2 H R W
  unfold f_X12_fault
  rw [if_pos gdn, bnd e1, v_fault_eq]
  exact ⟨m1, rfl, r1, fun a ha => f1 a (by omega) (by omega)⟩
theorem m_lays (H : MR r) (T : TD (m 117) b) (D : WFd b) : ∃ m', f_X12_lays 114 (130, m, r) = some (130, m', r) ∧ TO (m' 116) b ∧ SM (m' 118) 0 (newS b) ∧ (m' 114 6 = nI 0 ∧ m' 114 8 = nI 0 ∧ m' 114 10 = nI 0) ∧ (∀ a, a ≠ 114 → a ≠ 116 → a ≠ 118 → m' a = m a) ∧ ∀ j, j ≠ 6 → j ≠ 8 → j ≠ 10 → m' 114 j = m 114 j := by
  have d1 := D.1
  have k2 : ∀ K : Int32 × mx_Hp → Option mx_Hp, mx_fix (f_X12_lays_L2 114 K) 2000 (nI 0, (130, m, r)) = K (nI 35, (130, cpy m 116 0 (m 117) 35, r)) := by
    intro K
    have := fix_up (F := f_X12_lays_L2 114 K) (fun i => (nI i, (130, cpy m 116 0 (m 117) i, r))) 35 (y := K (nI 35, (130, cpy m 116 0 (m 117) 35, r))) (fun i hi self => ?_) (fun self => ?_) (fuel := 2000) (by omega)
    · simp only [cpy_0] at this
      exact this
    · unfold f_X12_lays_L2
      simp only [nb_lit]
      rw [if_neg (by rw [nb_le (by omega) (by omega)]; omega), bnd (gr_told H), bnd (gr_draft H), bnd (al_draft hi), cpy_ne (by decide), bnd (as_told hi _), nI_add, cpy_s0 (f := m 117)]
    · unfold f_X12_lays_L2
      simp only [nb_lit]
      rw [if_pos (by rw [nb_le (by omega) (by omega)]; omega)]
  have k28 : ∀ (m1 : Nat → Nat → Int32) (K : Int32 × mx_Hp → Option mx_Hp), mx_fix (f_X12_lays_L28 114 K) 2000 (nI 0, (130, m1, r)) = K (nI 22, (130, cpy m1 118 0 (fun _ => 0) 22, r)) := by
    intro m1 K
    have := fix_up (F := f_X12_lays_L28 114 K) (fun i => (nI i, (130, cpy m1 118 0 (fun _ => 0) i, r))) 22 (y := K (nI 22, (130, cpy m1 118 0 (fun _ => 0) 22, r))) (fun i hi self => ?_) (fun self => ?_) (fuel := 2000) (by omega)
    · simp only [cpy_0] at this
      exact this
    · unfold f_X12_lays_L28
      simp only [nb_lit]
      rw [if_neg (by rw [nb_le (by omega) (by omega)]; omega), bnd (gr_s H), bnd (as_s hi _), nI_add, show nI 0 = (fun _ : Nat => (0 : Int32)) i from rfl, cpy_s0 (f := fun _ => 0)]
    · unfold f_X12_lays_L28
      simp only [nb_lit]
      rw [if_pos (by rw [nb_le (by omega) (by omega)]; omega)]
  have c16 : ∀ j, j < 35 → (cpy (cpy m 116 0 (m 117) 35) 118 0 (fun _ => 0) 22) 116 j = m 117 j := fun j hj => by rw [cpy_ne (by decide), cpy_in (by omega) (by omega)]; rfl
  have c18 : ∀ j, j < 22 → (cpy (cpy m 116 0 (m 117) 35) 118 0 (fun _ => 0) 22) 118 j = 0 := fun j hj => cpy_in (by omega) (by omega)
  obtain ⟨⟨t1, t2, t3, t4, t5⟩, t6⟩ := T
  unfold f_X12_lays
  simp only [nb_lit]
  rw [k2]
  dsimp only
  rw [k28]
  dsimp only
  generalize hg : cpy (cpy m 116 0 (m 117) 35) 118 0 (fun _ => 0) 22 = g at *
  have cf : ∀ a, a ≠ 116 → a ≠ 118 → g a = m a := fun a h1 h2 => by rw [← hg, cpy_ne h2, cpy_ne h1]
  refine ⟨mx_up (mx_up (mx_up (mx_up (mx_up (mx_up g 118 13 (nI (bC b))) 118 19 (nI (bY b 0))) 118 20 (nI (bY b 1))) 114 6 (nI 0)) 114 8 (nI 0)) 114 10 (nI 0), ?_, ?_, ⟨fun i hi => absurd hi (Nat.not_lt_zero i), ?_, ?_, ?_, fun i hi => ⟨?_, ?_, ?_⟩, ?_⟩, ⟨?_, ?_, hb_up_same⟩, fun a h1 h2 h3 => ?_, fun j h1 h2 h3 => ?_⟩
  · rw [bnd (gr_s H), bnd (gr_told H), bnd (al_told (by decide)), c16 2 (by decide), t3, bnd (as_s (by decide) _), bnd (gr_s H), bnd (gr_told H), bnd (al_told (by decide)), up_ne (by decide), c16 33 (by decide), show m 117 33 = nI (bY b 0) from t5 0 (by decide), bnd (as_s (by decide) _), bnd (gr_s H), bnd (gr_told H), bnd (al_told (by decide)), up_ne (by decide), up_ne (by decide), c16 34 (by decide), show m 117 34 = nI (bY b 1) from t5 1 (by decide), bnd (as_s (by decide) _), bnd (pi_known _), bnd (pi_kept _), bnd (pi_noted _)]
  · rw [up_ne (by decide), up_ne (by decide), up_ne (by decide), up_ne (by decide), up_ne (by decide), up_ne (by decide)]
    exact ⟨by rw [c16 0 (by decide)]; exact t1, by rw [c16 1 (by decide)]; exact t2, by rw [c16 2 (by decide)]; exact t3, fun w hw => by rw [c16 _ (by omega), c16 _ (by omega), c16 _ (by omega)]; exact t4 w hw, fun i hi => by rw [c16 _ (by omega)]; exact t5 i hi⟩
  · rw [up_ne (by decide), up_ne (by decide), up_ne (by decide), hb_up_ne (by omega), hb_up_ne (by omega), hb_up_ne (by omega), c18 _ (by omega)]; rfl
  · rw [up_ne (by decide), up_ne (by decide), up_ne (by decide), hb_up_ne (by omega), hb_up_ne (by omega), Nat.zero_add, hb_up_same]; rfl
  · rw [up_ne (by decide), up_ne (by decide), up_ne (by decide), hb_up_ne (by omega), hb_up_ne (by omega), hb_up_ne (by omega), c18 _ (by omega)]; rfl
  · rw [up_ne (by decide), up_ne (by decide), up_ne (by decide), hb_up_ne (by omega), hb_up_ne (by omega), hb_up_ne (by omega), c18 _ (by omega)]; rfl
  · rw [up_ne (by decide), up_ne (by decide), up_ne (by decide), hb_up_ne (by omega), hb_up_ne (by omega), hb_up_ne (by omega), c18 _ (by omega)]; rfl
  · rw [up_ne (by decide), up_ne (by decide), up_ne (by decide)]
    have : i = 0 ∨ i = 1 := by omega
    rcases this with rfl | rfl
    · rw [hb_up_ne (by omega), show 0 + 19 + 0 = 19 from rfl, hb_up_same]; rfl
    · rw [show 0 + 19 + 1 = 20 from rfl, hb_up_same]; rfl
  · rw [up_ne (by decide), up_ne (by decide), up_ne (by decide), hb_up_ne (by omega), hb_up_ne (by omega), hb_up_ne (by omega), c18 _ (by omega)]; rfl
  · rw [hb_up_ne (by omega), hb_up_ne (by omega), hb_up_same]
  · rw [hb_up_ne (by omega), hb_up_same]
  · rw [up_ne h1, up_ne h1, up_ne h1, up_ne h3, up_ne h3, up_ne h3, cf a h2 h3]
  · rw [hb_up_ne (Or.inr h3), hb_up_ne (Or.inr h2), hb_up_ne (Or.inr h1), up_ne (by decide), up_ne (by decide), up_ne (by decide), cf 114 (by decide) (by decide)]
theorem mc_lay (H : MR r) (R : RelM m A) (W : WFa A) : MOk (f_X12_lay 114 (130, m, r)) m r (o_lay A).1 (o_lay A).2 := by
  obtain ⟨m1, e1, t1, r1, f1, f2⟩ := m_all2 H R W
  have D : WFd (rdT (aX A)).2 := rdA_wf _ _ _ wd0
  unfold f_X12_lay o_lay
  simp only [nb_lit]
  rw [if_pos gdn, bnd e1]
  dsimp only
  cases hr : (rdT (aX A)).1 with
  | some p =>
    have hp : p < 2 ^ 31 := by
      have : ∀ (f p0 : Nat) (b : Bo) (q : Nat), (rdA (aX A) f p0 b).1 = some q → q < (aX A).1 := by
        intro f
        induction f with
        | zero => intro p0 b q h; cases h
        | succ f ih =>
          intro p0 b q h
          unfold rdA at h
          split at h
          · cases h
          · split at h
            · cases h; omega
            · exact ih _ _ _ h
      have := this 201 0 bo0 p hr
      have := W.1
      omega
    rw [if_pos (show ¬ ansF (some p) = -nI 4 from fun q => absurd (show -nI 4 < nI p from ng_lt0 hp) (by rw [show nI p = -nI 4 from q]; exact Int32.lt_irrefl)), if_neg (fun q => by cases q.1)]
    exact ⟨m1, rfl, r1, fun a ha => f1 a (by omega) (by omega)⟩
  | none =>
    rw [if_neg (show ¬ ¬ ansF none = -nI 4 from not_not_intro rfl)]
    have T := t1 hr
    rw [bnd (gr_draft H), bnd (al_draft (by decide)), td_N T]
    by_cases h0 : bN (rdT (aX A)).2 = 0
    · rw [h0, if_neg (not_not_intro rfl), if_neg (fun q => q.2 rfl)]
      exact ⟨m1, rfl, r1, fun a ha => f1 a (by omega) (by omega)⟩
    · obtain ⟨m2, e2, l1, l2, ⟨l3, l4, l5⟩, l6, l7⟩ := m_lays H T D
      rw [if_pos (by rw [nb_eq (by have := D.1; omega) (by decide)]; exact h0), if_pos gdn, bnd e2, bnd (gr_told H), bnd (al_told (by decide)), l1.1, if_pos ⟨rfl, h0⟩]
      refine ⟨m2, rfl, ⟨⟨?_, fun i hi => ?_⟩, l1, l2, ⟨l3, fun i hi => absurd hi (Nat.not_lt_zero i)⟩, ⟨l4, fun i hi => absurd hi (Nat.not_lt_zero i)⟩, ⟨l5, fun i hi => absurd hi (Nat.not_lt_zero i)⟩⟩, fun a ha => by rw [l6 a (by omega) (by omega) (by omega), f1 a (by omega) (by omega)]⟩
      · rw [l7 1 (by decide) (by decide) (by decide)]; exact r1.1.1
      · rw [l6 115 (by decide) (by decide) (by decide)]; exact r1.1.2 i hi
end M18
