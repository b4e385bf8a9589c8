/-! items, faults, boroughs laid: the reference -/
theorem gdn : 114 < 130 ∧ (mx_lay 114).1 = 15 := ⟨by decide, ly_m⟩
theorem hh_sub {n : Nat} (hn : n ≤ 10) : ∀ v, v < 100 → (nI n - nI 1 < nI v ↔ n ≤ v) := by
  intro v hv
  by_cases h : n = 0
  · subst h
    refine ⟨fun _ => Nat.zero_le _, fun _ => ?_⟩
    rw [show nI 0 - nI 1 = -1 by decide]
    exact Int32.lt_of_lt_of_le (show (-1 : Int32) < 0 by decide) (nb_pos (by omega))
  · rw [nb_sub (by omega), nb_lt (by omega) (by omega)]
    omega
theorem hh_lit {k : Nat} (hk : k < 100) : ∀ v, v < 100 → (nI k < nI v ↔ k + 1 ≤ v) := by
  intro v hv
  rw [nb_lt (by omega) (by omega)]
  omega
theorem numR_some {q : Nat × Nat} : numR (some q) = nI q.1 := rfl
theorem numR_none : numR none = -nI 1 := rfl
section M17
variable {m : Nat → Nat → Int32} {r : Nat → Nat → Option Nat} {b : Bo} {A : Ab} {X : Nat × (Nat → Int32)}
theorem td_N (hd : TD (m 117) b) : m 117 0 = nI (bN b) := hd.1.1
theorem nb_pos0 {j : Nat} (h : j < 2 ^ 31) : nI 0 ≤ nI j := nb_pos h
theorem nI_pos0 {j : Nat} (h : j < 2 ^ 31) : ¬ nI j < nI 0 := nI_pos h
theorem nI_nle0 {j : Nat} (h0 : 0 < j) (h : j < 2 ^ 31) : ¬ nI j ≤ nI 0 := nI_nle h0 h
theorem neg_m1 : -nI 1 < nI 0 := by decide
theorem nneg_m1 : ¬ nI 0 ≤ -nI 1 := by decide
set_option maxHeartbeats 4000000 in
theorem m_item (H : MR r) (P : XT m X) (hX : X.1 ≤ 200) (D : WFd b) (hd : TD (m 117) b) {p : Nat} (hp : p < X.1) (h11 : m 114 11 = nI (p + 1)) : ∃ m', f_X12_readsItem 114 (X.2 p) (130, m, r) = some ((if (rdI X b p).isSome = true then nI 1 else nI 0), (130, m', r)) ∧ (∀ q, rdI X b p = some q → m' 114 11 = nI q.1 ∧ TD (m' 117) q.2) ∧ (∀ a, a ≠ 114 → a ≠ 117 → m' a = m a) ∧ ∀ j, j ≠ 11 → m' 114 j = m 114 j := by
  obtain ⟨d1, d2, d3, d4, d5⟩ := id D
  obtain ⟨⟨t1, t2, t3, t4, t5⟩, t6⟩ := id hd
  unfold f_X12_readsItem rdI
  simp only [nb_lit]
  have fr : ∀ v : Int32, (∀ a, a ≠ 114 → a ≠ 117 → (mx_up m 114 11 v) a = m a) ∧ ∀ j, j ≠ 11 → (mx_up m 114 11 v) 114 j = m 114 j := fun v => ⟨fun a ha _ => up_ne ha, fun j hj => hb_up_ne (Or.inr hj)⟩
  have fr2 : ∀ (v w : Int32) (k : Nat), (∀ a, a ≠ 114 → a ≠ 117 → (mx_up (mx_up m 114 11 v) 117 k w) a = m a) ∧ ∀ j, j ≠ 11 → (mx_up (mx_up m 114 11 v) 117 k w) 114 j = m 114 j := fun v w k => ⟨fun a ha hb => by rw [up_ne hb, up_ne ha], fun j hj => by rw [up_ne (by decide), hb_up_ne (Or.inr hj)]⟩
  have e117 : ∀ v : Int32, (mx_up m 114 11 v) 117 = m 117 := fun v => up_ne (by decide)
  have td : ∀ v : Int32, TD ((mx_up m 114 11 v) 117) b := fun v => by rw [e117]; exact hd
  by_cases c1 : X.2 p = nI 99
  · rw [if_pos c1, if_pos c1, bnd (gr_draft H), if_pos gdn]
    obtain ⟨v', e1, e2⟩ := m_num (lo := 0) (hx := 2) (c := 59) (hi := nI 1) H P hX (by omega) h11 (by decide) rfl (hh_lit (by decide)) (by decide) rfl
    rw [bnd e1]
    dsimp only
    rw [bnd (as_draft (by decide) _), bnd (gr_draft H), bnd (al_draft (by decide)), hb_up_same]
    cases hE : numE X (p + 1) 0 2 59 with
    | none =>
      refine ⟨mx_up (mx_up m 114 11 (nI v')) 117 2 (numR none), ?_, fun q hq => (by cases hq), (fr2 _ _ _).1, (fr2 _ _ _).2⟩
      rw [numR_none, if_pos neg_m1, bnd rfl, if_pos (Or.inl rfl)]
      rfl
    | some q =>
      have hq := numE_of hE
      refine ⟨mx_up (mx_up m 114 11 (nI v')) 117 2 (numR (some q)), ?_, fun t ht => ?_, (fr2 _ _ _).1, (fr2 _ _ _).2⟩
      · rw [numR_some, if_neg (nI_pos0 (by omega)), bnd rfl, if_pos (Or.inr rfl)]
        rfl
      · cases ht
        refine ⟨?_, ⟨?_, ?_, ?_, fun w hw => ?_, fun i hi => ?_⟩, fun w h1 h2 => ?_⟩
        · rw [up_ne (by decide), hb_up_same, e2 q hE]
        · rw [hb_up_ne (by omega), e117]; exact t1
        · rw [hb_up_ne (by omega), e117]; exact t2
        · rw [hb_up_same]; rfl
        · rw [hb_up_ne (by omega), hb_up_ne (by omega), hb_up_ne (by omega), hb_up_ne (by omega), hb_up_ne (by omega), hb_up_ne (by omega)]; exact t4 w hw
        · rw [hb_up_ne (by omega), e117]; exact t5 i hi
        · rw [hb_up_ne (by omega), e117]; exact t6 w h1 h2
  · rw [if_neg c1, if_neg c1]
    by_cases c2 : X.2 p = nI 103
    · rw [if_pos c2, if_pos c2, bnd (gr_draft H), bnd (al_draft (by decide)), t1, if_pos gdn]
      obtain ⟨v', e1, e2⟩ := m_num (lo := 0) (hx := bN b) (c := 44) (hi := nI (bN b) - nI 1) H P hX (by omega) h11 (by decide) rfl (hh_sub d1) (by decide) rfl
      rw [bnd e1]
      dsimp only
      cases hE : numE X (p + 1) 0 (bN b) 44 with
      | none =>
        refine ⟨mx_up m 114 11 (nI v'), ?_, fun q hq => (by cases hq), (fr _).1, (fr _).2⟩
        rw [numR_none, if_neg nneg_m1, bnd rfl]
        dsimp only
        rw [if_neg nneg_m1]
        rfl
      | some q =>
        have hq := numE_of hE
        obtain ⟨v2, e3, e4⟩ := m_num (m := mx_up m 114 11 (nI v')) (p := v') (lo := 0) (hx := bN b) (c := 59) (hi := nI (bN b) - nI 1) H P.up hX (by rw [e2 q hE]; omega) hb_up_same (by decide) rfl (hh_sub d1) (by decide) rfl
        rw [up_up] at e3
        rw [numR_some, if_pos (nb_pos0 (by omega)), bnd (gr_draft H), bnd (al_draft (by decide)), e117, t1, if_pos gdn, bnd e3, e2 q hE]
        rw [e2 q hE] at e4
        dsimp only
        rw [bnd rfl]
        dsimp only
        cases hF : numE X q.2 0 (bN b) 59 with
        | none =>
          refine ⟨mx_up m 114 11 (nI v2), ?_, fun q hq => (by simp only [Option.bind_some, hF] at hq; cases hq), (fr _).1, (fr _).2⟩
          rw [numR_none, if_neg nneg_m1, Option.bind_some, hF]
          rfl
        | some t =>
          have ht := numE_of hF
          have hu := t4 q.1 hq.2.1
          refine ⟨mx_up (mx_up m 114 11 (nI v2)) 117 (23 + q.1) (nI (bE b q.1 ||| 2 ^ t.1)), ?_, fun z hz => ?_, (fr2 _ _ _).1, (fr2 _ _ _).2⟩
          · rw [numR_some, if_pos (nb_pos0 (by omega)), bnd (gr_draft H), nI_add, bnd (al_draft (by omega)), bnd (as_draft (by omega) _), e117, hu.2.2, nb_shl (by omega), nb_or, Option.bind_some, hF]
            rfl
          · simp only [Option.bind_some, hF] at hz
            cases hz
            refine ⟨?_, ⟨?_, ?_, ?_, fun w hw => ⟨?_, ?_, ?_⟩, fun i hi => ?_⟩, fun w h1 h2 => ?_⟩
            · rw [up_ne (by decide), hb_up_same, e4 t hF]
            · rw [hb_up_ne (by omega), e117]; exact t1
            · rw [hb_up_ne (by omega), e117]; exact t2
            · rw [hb_up_ne (by omega), e117]; exact t3
            · have hw : w < bN b := hw
              rw [hb_up_ne (by omega), e117]; exact (t4 w hw).1
            · have hw : w < bN b := hw
              rw [hb_up_ne (by omega), e117]; exact (t4 w hw).2.1
            · show _ = nI (if w = q.1 then bE b w ||| 2 ^ t.1 else bE b w)
              by_cases he : w = q.1
              · rw [he, hb_up_same, if_pos rfl]
              · rw [hb_up_ne (by omega), e117, if_neg he]; exact (t4 w hw).2.2
            · rw [hb_up_ne (by omega), e117]; exact t5 i hi
            · have h1 : bN b ≤ w := h1
              rw [hb_up_ne (by omega), e117]; exact t6 w h1 h2
    · rw [if_neg c2, if_neg c2]
      by_cases c3 : X.2 p = nI 107
      · rw [if_pos c3, if_pos c3, if_pos gdn]
        obtain ⟨v', e1, e2⟩ := m_num (lo := 0) (hx := 2) (c := 44) (hi := nI 1) H P hX (by omega) h11 (by decide) rfl (hh_lit (by decide)) (by decide) rfl
        rw [bnd e1]
        dsimp only
        cases hE : numE X (p + 1) 0 2 44 with
        | none =>
          refine ⟨mx_up m 114 11 (nI v'), ?_, fun q hq => (by cases hq), (fr _).1, (fr _).2⟩
          rw [numR_none, if_neg nneg_m1, bnd rfl]
          dsimp only
          rw [if_neg nneg_m1]
          rfl
        | some q =>
          have hq := numE_of hE
          obtain ⟨v2, e3, e4⟩ := m_num (m := mx_up m 114 11 (nI v')) (p := v') (lo := 0) (hx := bN b) (c := 59) (hi := nI (bN b) - nI 1) H P.up hX (by rw [e2 q hE]; omega) hb_up_same (by decide) rfl (hh_sub d1) (by decide) rfl
          rw [up_up] at e3
          rw [numR_some, if_pos (nb_pos0 (by omega)), bnd (gr_draft H), bnd (al_draft (by decide)), e117, t1, if_pos gdn, bnd e3, e2 q hE]
          rw [e2 q hE] at e4
          dsimp only
          rw [bnd rfl]
          dsimp only
          cases hF : numE X q.2 0 (bN b) 59 with
          | none =>
            refine ⟨mx_up m 114 11 (nI v2), ?_, fun q hq => (by simp only [Option.bind_some, hF] at hq; cases hq), (fr _).1, (fr _).2⟩
            rw [numR_none, if_neg nneg_m1, Option.bind_some, hF]
            rfl
          | some t =>
            have ht := numE_of hF
            have hu := t5 q.1 hq.2.1
            refine ⟨mx_up (mx_up m 114 11 (nI v2)) 117 (33 + q.1) (nI (bY b q.1 ||| 2 ^ t.1)), ?_, fun z hz => ?_, (fr2 _ _ _).1, (fr2 _ _ _).2⟩
            · rw [numR_some, if_pos (nb_pos0 (by omega)), bnd (gr_draft H), nI_add, bnd (al_draft (by omega)), bnd (as_draft (by omega) _), e117, hu, nb_shl (by omega), nb_or, Option.bind_some, hF]
              rfl
            · simp only [Option.bind_some, hF] at hz
              cases hz
              refine ⟨?_, ⟨?_, ?_, ?_, fun w hw => ⟨?_, ?_, ?_⟩, fun i hi => ?_⟩, fun w h1 h2 => ?_⟩
              · rw [up_ne (by decide), hb_up_same, e4 t hF]
              · rw [hb_up_ne (by omega), e117]; exact t1
              · rw [hb_up_ne (by omega), e117]; exact t2
              · rw [hb_up_ne (by omega), e117]; exact t3
              · have hw : w < bN b := hw
                rw [hb_up_ne (by omega), e117]; exact (t4 w hw).1
              · have hw : w < bN b := hw
                rw [hb_up_ne (by omega), e117]; exact (t4 w hw).2.1
              · have hw : w < bN b := hw
                rw [hb_up_ne (by omega), e117]; exact (t4 w hw).2.2
              · show _ = nI (if i = q.1 then bY b i ||| 2 ^ t.1 else bY b i)
                by_cases he : i = q.1
                · rw [he, hb_up_same, if_pos rfl]
                · rw [hb_up_ne (by omega), e117, if_neg he]; exact t5 i hi
              · have h1 : bN b ≤ w := h1
                rw [hb_up_ne (by omega), e117]; exact t6 w h1 h2
      · rw [if_neg c3, if_neg c3]
        by_cases c4 : X.2 p = nI 108
        · rw [if_pos c4, if_pos c4, bnd (gr_draft H), if_pos gdn]
          obtain ⟨v', e1, e2⟩ := m_num (lo := 1) (hx := 5) (c := 59) (hi := nI 4) H P hX (by omega) h11 (by decide) rfl (hh_lit (by decide)) (by decide) rfl
          rw [bnd e1]
          dsimp only
          rw [bnd (as_draft (by decide) _), bnd (gr_draft H), bnd (al_draft (by decide)), hb_up_same]
          cases hE : numE X (p + 1) 1 5 59 with
          | none =>
            refine ⟨mx_up (mx_up m 114 11 (nI v')) 117 1 (numR none), ?_, fun q hq => (by cases hq), (fr2 _ _ _).1, (fr2 _ _ _).2⟩
            rw [numR_none, if_pos (show -nI 1 ≤ nI 0 by decide), bnd rfl, if_pos (Or.inl rfl)]
            rfl
          | some q =>
            have hq := numE_of hE
            refine ⟨mx_up (mx_up m 114 11 (nI v')) 117 1 (numR (some q)), ?_, fun t ht => ?_, (fr2 _ _ _).1, (fr2 _ _ _).2⟩
            · rw [numR_some, if_neg (nI_nle0 (by omega) (by omega)), bnd rfl, if_pos (Or.inr rfl)]
              rfl
            · cases ht
              refine ⟨?_, ⟨?_, ?_, ?_, fun w hw => ?_, fun i hi => ?_⟩, fun w h1 h2 => ?_⟩
              · rw [up_ne (by decide), hb_up_same, e2 q hE]
              · rw [hb_up_ne (by omega), e117]; exact t1
              · rw [hb_up_same]; rfl
              · rw [hb_up_ne (by omega), e117]; exact t3
              · rw [hb_up_ne (by omega), hb_up_ne (by omega), hb_up_ne (by omega), hb_up_ne (by omega), hb_up_ne (by omega), hb_up_ne (by omega)]; exact t4 w hw
              · rw [hb_up_ne (by omega), e117]; exact t5 i hi
              · rw [hb_up_ne (by omega), e117]; exact t6 w h1 h2
        · rw [if_neg c4, if_neg c4]
          by_cases c5 : X.2 p = nI 119
          · rw [if_pos c5, if_pos c5, if_pos gdn]
            obtain ⟨v', e1, e2⟩ := m_num (lo := 0) (hx := 4) (c := 44) (hi := nI 3) H P hX (by omega) h11 (by decide) rfl (hh_lit (by decide)) (by decide) rfl
            rw [bnd e1]
            dsimp only
            cases hE : numE X (p + 1) 0 4 44 with
            | none =>
              refine ⟨mx_up m 114 11 (nI v'), ?_, fun q hq => (by cases hq), (fr _).1, (fr _).2⟩
              rw [numR_none, if_neg nneg_m1, bnd rfl]
              dsimp only
              rw [if_pos neg_m1]
              rfl
            | some q =>
              have hq := numE_of hE
              obtain ⟨v2, e3, e4⟩ := m_num (m := mx_up m 114 11 (nI v')) (p := v') (lo := 0) (hx := 10) (c := 59) (hi := nI 9) H P.up hX (by rw [e2 q hE]; omega) hb_up_same (by decide) rfl (hh_lit (by decide)) (by decide) rfl
              rw [up_up] at e3
              rw [numR_some, if_pos (nb_pos0 (by omega)), if_pos gdn, bnd e3, e2 q hE]
              rw [e2 q hE] at e4
              dsimp only
              rw [bnd rfl]
              dsimp only
              cases hF : numE X q.2 0 10 59 with
              | none =>
                refine ⟨mx_up m 114 11 (nI v2), ?_, fun q hq => (by simp only [Option.bind_some, hF] at hq; cases hq), (fr _).1, (fr _).2⟩
                rw [numR_none, if_pos neg_m1, Option.bind_some, hF]
                rfl
              | some t =>
                have ht := numE_of hF
                rw [numR_some, if_neg (nI_pos0 (by omega)), bnd (gr_draft H), bnd (al_draft (by decide)), e117, t1]
                by_cases h10 : bN b = 10
                · refine ⟨mx_up m 114 11 (nI v2), ?_, fun q hq => (by simp only [Option.bind_some, hF, h10, if_true] at hq; cases hq), (fr _).1, (fr _).2⟩
                  rw [if_neg (not_not_intro (by rw [h10])), Option.bind_some, hF, Option.bind_some, if_pos h10]
                  rfl
                · have g0 : (mx_up m 114 11 (nI v2)) 117 0 = nI (bN b) := by rw [e117]; exact t1
                  refine ⟨mx_up (mx_up (mx_up (mx_up m 114 11 (nI v2)) 117 (3 + bN b) (nI q.1)) 117 (13 + bN b) (nI t.1)) 117 0 (nI (bN b + 1)), ?_, fun z hz => ?_, fun a ha hb => ?_, fun j hj => ?_⟩
                  · rw [if_pos (by rw [nb_eq (by omega) (by decide)]; exact h10), if_pos gdn]
                    unfold f_X12_wordOf
                    simp only [nb_lit]
                    rw [bnd (gr_draft H), bnd (gr_draft H), bnd (al_draft (by decide)), g0, nI_add, bnd (as_draft (by omega) _), bnd (gr_draft H), bnd (gr_draft H), bnd (al_draft (by decide)), hb_up_ne (by omega), g0, nI_add, bnd (as_draft (by omega) _), bnd (gr_draft H), bnd (al_draft (by decide)), hb_up_ne (by omega), hb_up_ne (by omega), g0, nI_add, bnd (as_draft (by omega) _), Option.bind_some, Option.bind_some, hF, Option.bind_some, if_neg h10]
                    rfl
                  · simp only [Option.bind_some, hF, h10, if_false] at hz
                    cases hz
                    refine ⟨?_, ⟨?_, ?_, ?_, fun w hw => ⟨?_, ?_, ?_⟩, fun i hi => ?_⟩, fun w h1 h2 => ?_⟩
                    · rw [up_ne (by decide), up_ne (by decide), up_ne (by decide), hb_up_same, e4 t hF]
                    · rw [hb_up_same]; rfl
                    · rw [hb_up_ne (by omega), hb_up_ne (by omega), hb_up_ne (by omega), e117]; exact t2
                    · rw [hb_up_ne (by omega), hb_up_ne (by omega), hb_up_ne (by omega), e117]; exact t3
                    · have hw : w < bN b + 1 := hw
                      show _ = nI (if w = bN b then q.1 else bK b w)
                      by_cases he : w = bN b
                      · rw [hb_up_ne (by omega), hb_up_ne (by omega), he, hb_up_same, if_pos rfl]
                      · rw [hb_up_ne (by omega), hb_up_ne (by omega), hb_up_ne (by omega), e117, if_neg he]; exact (t4 w (by omega)).1
                    · have hw : w < bN b + 1 := hw
                      show _ = nI (if w = bN b then t.1 else bW b w)
                      by_cases he : w = bN b
                      · rw [hb_up_ne (by omega), he, hb_up_same, if_pos rfl]
                      · rw [hb_up_ne (by omega), hb_up_ne (by omega), hb_up_ne (by omega), e117, if_neg he]; exact (t4 w (by omega)).2.1
                    · have hw : w < bN b + 1 := hw
                      show _ = nI (if w = bN b then 0 else bE b w)
                      rw [hb_up_ne (by omega), hb_up_ne (by omega), hb_up_ne (by omega), e117]
                      by_cases he : w = bN b
                      · rw [if_pos he]; exact t6 w (by omega) (by omega)
                      · rw [if_neg he]; exact (t4 w (by omega)).2.2
                    · rw [hb_up_ne (by omega), hb_up_ne (by omega), hb_up_ne (by omega), e117]; exact t5 i hi
                    · have h1 : bN b + 1 ≤ w := h1
                      rw [hb_up_ne (by omega), hb_up_ne (by omega), hb_up_ne (by omega), e117]; exact t6 w (by omega) h2
                  · rw [up_ne hb, up_ne hb, up_ne hb, up_ne ha]
                  · rw [up_ne (by decide), up_ne (by decide), up_ne (by decide), hb_up_ne (Or.inr hj)]
          · rw [if_neg c5, if_neg c5]
            refine ⟨m, rfl, fun q hq => (by cases hq), fun a _ _ => rfl, fun j _ => rfl⟩
end M17
