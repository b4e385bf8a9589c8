/-! the other side: safe sentences, lures -/
theorem opA_or (b : Bo) (f : Nat) : opA b f = 78 ∨ opA b f = 92 := by
  unfold opA
  split
  · exact Or.inl rfl
  · exact Or.inr rfl
section X9
variable {m m' : Nat → Nat → Int32} {r r' : Nat → Nat → Option Nat} {a c d n B D k w i j u v kn : Nat} {f g P : Nat → Nat} {b : Bo} {s : St} {x y : Int32} {A : Ab}
theorem z_safe (X : XR r) (hB : isB B) (R : BR m B b) (W : WFb b) (S : SX m 12 s) (F : WFs (bN b) s) (hw : w < bN b) : ∃ m', f_X8_findSafe 75 B 12 (nI w) (130, m, r) = some (130, m', r) ∧ RW m' 76 (sfC b s w) (sfR b s w) ∧ ∀ d, ¬ (71 ≤ d ∧ d ≤ 105) → m' d = m d := by
  have hb := b_ly hB
  have hn := W.1
  obtain ⟨m1, e1, z1, p1, p2, f1⟩ := z_prep X hB R W S F
  have R1 : BR m1 B b := R.congr (fun c c1 c2 => f1 c (by omega) (by omega) (by omega))
  obtain ⟨m2, e2, l1, f2⟩ := o_safe X hB R1 W o78 p1.2.2 hw
  have R2 : BR m2 B b := R1.congr (fun c c1 c2 => f2 c (by omega) (by omega))
  have q2 : OP m2 b s 92 := p2.congr (f2 92 (by decide) (by decide))
  obtain ⟨m3, e3, l2, f3⟩ := o_safe X hB R2 W o92 q2.2.2 hw
  have R3 : BR m3 B b := R2.congr (fun c c1 c2 => f3 c (by omega) (by omega))
  have L1 : ∀ k, k < 10 → m3 (78 + 1) k = nI (ldS b (dO b s 78) w k) ∧ m3 (78 + 2) k = nI (late b (dO b s 78) k) := fun k hk => by rw [f3 _ (by decide) (by decide), f3 _ (by decide) (by decide)]; exact l1 k hk
  have LO : ∀ f, f < bN b → ∀ k, k < 10 → m3 (opA b f + 1) k = nI (ldS b (dF b s f) w k) ∧ m3 (opA b f + 2) k = nI (late b (dF b s f) k) := by
    intro f hf k hk
    rw [← dF_op]
    rcases opA_or b f with h | h
    · rw [h]; exact L1 k hk
    · rw [h]; exact l2 k hk
  obtain ⟨m4, e4, w4, f4⟩ := z_short (s := s) (x := nI w) (pb := fun k f => sfB b s w k f) (L1 := ldS b (dO b s 78) w) (L2 := ldS b (dO b s 92) w) (rr := fun k i => (pathS b (dF b s (fst (fun f => sfB b s w k f) (bN b))) w (k + 1) (fst (fun f => sfB b s w k f) (bN b)) i).1) X hB R3 W (by rw [f3 _ (by decide) (by decide), f2 _ (by decide) (by decide)]; exact z1) (p1.congr (by rw [f3 _ (by decide) (by decide), f2 _ (by decide) (by decide)])) (q2.congr (f3 _ (by decide) (by decide))) (fun k hk => ⟨(L1 k hk).1, lt1024 (ldS_lt k) W.1.2⟩) (fun k hk => ⟨(l2 k hk).1, lt1024 (ldS_lt k) W.1.2⟩) (fun k hk f hf => by
      rw [sfB_eq W hf, ← dF_op]
      rcases opA_or b f with h | h
      · rw [h, if_pos rfl]
      · rw [h, if_neg (by decide)]) (fun k hk hF => by
      have hsf : sfB b s w k (fst (fun f => sfB b s w k f) (bN b)) = true := by
        rcases (fst_spec (fun f => sfB b s w k f) (bN b)).1 with q | q
        · omega
        · exact q.2
      generalize fst (fun f => sfB b s w k f) (bN b) = ff at *
      have hinv := pathS_inv W hw hsf
      have := z_follow (m := m3) (x := nI w) (many := k + 1) (p := pathS b (dF b s ff) w (k + 1) ff) (L := ldS b (dF b s ff) w) (O := late b (dF b s ff)) X hB R3 W (by omega) (by omega) (by rw [f3 _ (by decide) (by decide), f2 _ (by decide) (by decide)]; exact z1) (fun j hj => (LO ff hF j hj).1) (fun _ _ _ j hj => (LO ff hF j hj).2) (fun j hj => pInv_lt (hinv j hj)) (by
        show bI (decide (ff = w)) = if ¬ nI ff = nI w then nI 0 else nI 1
        by_cases q : ff = w
        · rw [if_neg (not_not_intro (show nI ff = nI w by rw [q]))]
          simp [q, bI]
        · rw [if_pos (show ¬ nI ff = nI w from n_ne q (by omega) (by omega))]
          simp [q, bI]) (fun j hj => by
        have hpl := pInv_lt (hinv (j + 1) hj)
        refine ⟨?_, ?_⟩
        · show _ = fst (fun x => (nxtS b (dF b s ff) w (k + 1 - 1 - (j + 1)) (pathS b (dF b s ff) w (k + 1) ff j)).testBit x) (bN b)
          generalize pathS b (dF b s ff) w (k + 1) ff j = q
          unfold nxtS
          rw [ldS_eq W]
          by_cases hq : q.2 = true
          · rw [if_pos hq, if_pos hq]
          · rw [if_neg hq, if_neg hq]
        · have e : (pathS b (dF b s ff) w (k + 1) ff (j + 1)).2 = ((pathS b (dF b s ff) w (k + 1) ff j).2 || decide ((pathS b (dF b s ff) w (k + 1) ff (j + 1)).1 = w)) := rfl
          rw [e]
          generalize (pathS b (dF b s ff) w (k + 1) ff (j + 1)).1 = z at *
          generalize (pathS b (dF b s ff) w (k + 1) ff j).2 = q
          cases q with
          | true => rw [if_pos (show ¬ bI true = nI 0 by decide)]; rfl
          | false =>
            rw [if_neg (not_not_intro (show bI false = nI 0 from rfl))]
            by_cases hz : z = w
            · rw [if_neg (not_not_intro (by rw [hz]))]
              simp [hz, bI]
            · rw [if_pos (n_ne hz (by omega) (by omega))]
              simp [hz, bI])
      exact this)
  refine ⟨m4, ?_, w4, fun d hd => by rw [f4 d (by omega) (by omega), f3 d (by omega) (by omega), f2 d (by omega) (by omega), f1 d (by omega) (by omega) (by omega)]⟩
  unfold f_X8_findSafe
  rw [if_pos zgd, bnd e1, bnd (zr1 X), if_pos (ogd o78), bnd e2, bnd (zr2 X), if_pos (ogd o92), bnd e3, if_pos zgd, bnd e4]
theorem sfC_le : sfC b s w ≤ 10 := by
  unfold sfC
  have := fst_le (fun k => decide (fst (fun f => sfB b s w k f) (bN b) < bN b)) 10
  have e : sfK b s w = fst (fun k => decide (fst (fun f => sfB b s w k f) (bN b) < bN b)) 10 := rfl
  split <;> omega
theorem x_safe (R : RelX m r A) (W : WFa A) (x y : Int32) : XOk (f_X11_safe 0 x y (130, m, r)) m r (v_safe A x y) A := by
  obtain ⟨B, D, Y, S, U⟩ := id R
  obtain ⟨X, ⟨q1, q2, q3, q4, q5⟩, t, Rb, k, G⟩ := id Y
  unfold f_X11_safe v_safe
  simp only [nb_lit]
  rw [bnd (xb Y), if_pos (bgd q3)]
  by_cases hx : x < nI 0 ∨ nI (bN (aB A)) ≤ x
  · rw [bnd (bo_no q3 Rb hx), if_pos rfl, if_pos (Or.inl hx)]
    exact XOk.mk0 R rfl
  · obtain ⟨w, hw, rfl, e⟩ := nword W.2.1 hx
    rw [bnd (bo_has q3 Rb W.2.1 hw), if_neg (n_ne (by decide) (by decide) (by decide) : ¬ nI 1 = nI 0)]
    by_cases h1 : y < -nI 1
    · rw [if_pos h1, if_pos (Or.inr (Or.inl h1))]
      exact XOk.mk0 R rfl
    · rw [if_neg h1]
      by_cases h2 : nI 9 < y
      · rw [if_neg (fun q => (lt_sc (n := 9) (by decide)).mp q h2), if_pos (Or.inr (Or.inr h2))]
        exact XOk.mk0 R rfl
      · obtain ⟨m1, e1, w1, f1⟩ := z_safe X q3 Rb W.2.1 S W.2.2.1 hw
        rw [if_pos ((lt_sc (n := 9) (by decide)).mpr h2), if_neg (not_or.mpr ⟨hx, not_or.mpr ⟨h1, h2⟩⟩), e, bnd (xs X), bnd (xb Y), bnd (xn X), if_pos zgd, bnd e1, bnd (xs X), bnd (zr0 X), bnd (x_told (z_rw X) w1 (by have := sfC_le (b := aB A) (s := aS A) (w := w); omega) h1)]
        exact ⟨m1, r, rfl, R.quiet W (fun d hd => f1 d (by omega)), fun a ha => ⟨f1 a (by omega), rfl⟩⟩
theorem o_lures (X : XR r) (hB : isB B) (R : BR m B b) (W : WFb b) (h : isOp a) (hk : kn < 1024) (h1 : m a 1 = nI kn) (h2 : m a 2 = nI (lostF b kn)) (hw : w < bN b) : ∃ m', f_X5_luresTo a B 71 (nI w) (130, m, r) = some (nI (lure0 b kn w), (130, m', r)) ∧ ∀ d, d ≠ 72 → d ≠ 73 → d ≠ 74 → m' d = m d := by
  have hb := b_ly hB
  have ho := o_ly h
  have hn := W.1
  unfold f_X5_luresTo lure0
  refine fix_rel (fun i q => ∃ m1 : Nat → Nat → Int32, q = (nI (mk (fun x => saysW b kn w x) i), nI i, (130, m1, r)) ∧ ∀ d, d ≠ 72 → d ≠ 73 → d ≠ 74 → m1 d = m d) (bN b) (Q := fun o => ∃ m' : Nat → Nat → Int32, o = some (nI (mk (fun x => saysW b kn w x) (bN b)), (130, m', r)) ∧ ∀ d, d ≠ 72 → d ≠ 73 → d ≠ 74 → m' d = m d) ?_ ?_ (by omega) ?_
  · rintro i q hi ⟨m1, rfl, g⟩
    have R1 : BR m1 B b := R.congr (fun c c1 c2 => g c (by omega) (by omega) (by omega))
    have lb : (lostF b kn).testBit i = decide (0 < fmany b kn i) := by
      unfold lostF
      rw [mk_bit]
      simp [hi]
    have hl := lostF_2 (kn := kn) W
    by_cases hd : 0 < fmany b kn i
    · obtain ⟨m2, e1, e2, e3⟩ := fi_find X hB R1 W hk hi
      have hfl := fmany_le (kn := kn) (w := i) W
      have eh := rw_holds (w := w) (f_rw X) e2 (by omega) (fun j hj => by have := fword_lt W hj; omega) (by omega)
      refine ⟨(nI (mk (fun x => saysW b kn w x) (i + 1)), nI (i + 1), (130, m2, r)), ⟨m2, rfl, fun d d1 d2 d3 => by rw [e3 d d1 d2 d3, g d d1 d2 d3]⟩, fun self => ?_⟩
      unfold f_X5_luresTo_L6
      simp only [nb_lit]
      have ebit : ¬ (nI (lostF b kn) &&& nI (2 ^ i) = nI 0) := fun q => by rw [nb_bit0 (by omega), lb] at q; simp at q; omega
      rw [bnd (bg hB (by decide)), R1.1.1, if_neg (n_nle hi (by omega)), bnd (og h (by decide)), g a (by omega) (by omega) (by omega), h2, bnd (bo_bit (by omega) _), if_neg ebit, bnd (og h (by decide)), g a (by omega) (by omega) (by omega), h1, if_pos fgd, bnd e1, bnd (fr0 X), if_pos (rgd (f_rw X)), bnd eh]
      have es : saysW b kn w i = anyB (fun j => decide (fword b kn (fmany b kn i) i j = w)) (fmany b kn i) := rfl
      rw [← es]
      by_cases hs : saysW b kn w i = true
      · rw [if_pos hs, if_neg (n_ne (by decide) (by decide) (by decide) : ¬ nI 1 = nI 0), bnd (bo_bit (by omega) _), Option.bind_some, Option.bind_some, nb_or, nI_add]
        simp [mk, hs]
      · rw [if_neg hs, if_pos rfl, Option.bind_some, Option.bind_some, nb_or, nI_add]
        simp [mk, hs]
    · have hz : fmany b kn i = 0 := by omega
      have hs : saysW b kn w i = false := by
        unfold saysW
        rw [hz]
        rfl
      refine ⟨(nI (mk (fun x => saysW b kn w x) (i + 1)), nI (i + 1), (130, m1, r)), ⟨m1, rfl, g⟩, fun self => ?_⟩
      unfold f_X5_luresTo_L6
      simp only [nb_lit]
      rw [bnd (bg hB (by decide)), R1.1.1, if_neg (n_nle hi (by omega)), bnd (og h (by decide)), g a (by omega) (by omega) (by omega), h2, bnd (bo_bit (by omega) _), if_pos (by rw [nb_bit0 (by omega), lb]; simp [hz]), Option.bind_some, nI_add]
      simp [mk, hs]
  · rintro q ⟨m1, rfl, g⟩ self
    have R1 : BR m1 B b := R.congr (fun c c1 c2 => g c (by omega) (by omega) (by omega))
    unfold f_X5_luresTo_L6
    dsimp only
    rw [bnd (bg hB (by decide)), R1.1.1, if_pos (n_le (Nat.le_refl _) (by omega))]
    exact ⟨m1, rfl, g⟩
  · exact ⟨m, rfl, fun _ _ _ _ => rfl⟩
theorem o_lure (X : XR r) (hB : isB B) (R : BR m B b) (W : WFb b) (h : isOp a) (hk : kn < 1024) (h1 : m a 1 = nI kn) (h2 : m a 2 = nI (lostF b kn)) (hw : w < bN b) : ∃ m', f_X5_seekLure a B 71 (nI w) (130, m, r) = some (130, m', r) ∧ (∀ k, k < 10 → m' (a + 1) k = nI (lrch b (lostF b kn) (lure0 b kn w) k)) ∧ ∀ d, d ≠ a + 1 → d ≠ 72 → d ≠ 73 → d ≠ 74 → m' d = m d := by
  have hb := b_ly hB
  have ho := o_ly h
  obtain ⟨m0, e0, f0⟩ := o_lures X hB R W h hk h1 h2 hw
  unfold f_X5_seekLure
  rw [bnd (or3 X h), if_pos (ogd h), bnd e0]
  dsimp only
  rw [show (0 : Int32) = nI 0 from rfl, bnd (os1 h (by decide) _)]
  refine fix_rel (fun t q => ∃ m1 : Nat → Nat → Int32, q = (nI (t + 1), (130, m1, r)) ∧ (∀ k, k < t + 1 → m1 (a + 1) k = nI (lrch b (lostF b kn) (lure0 b kn w) k)) ∧ ∀ d, d ≠ a + 1 → d ≠ 72 → d ≠ 73 → d ≠ 74 → m1 d = m d) 9 (Q := fun o => ∃ m' : Nat → Nat → Int32, o = some (130, m', r) ∧ (∀ k, k < 10 → m' (a + 1) k = nI (lrch b (lostF b kn) (lure0 b kn w) k)) ∧ ∀ d, d ≠ a + 1 → d ≠ 72 → d ≠ 73 → d ≠ 74 → m' d = m d) ?_ ?_ (by omega) ?_
  · rintro t q ht ⟨m1, rfl, g1, g2⟩
    have R1 : BR m1 B b := R.congr (fun c c1 c2 => g2 c (by omega) (by omega) (by omega) (by omega))
    have d1 : m1 a 2 = nI (lostF b kn) := by rw [g2 a (by omega) (by omega) (by omega) (by omega)]; exact h2
    refine ⟨(nI (t + 1 + 1), (130, mx_up m1 (a + 1) (t + 1) (nI (lrch b (lostF b kn) (lure0 b kn w) (t + 1))), r)), ⟨_, rfl, fun k hk => ?_, fun d d1 d2 d3 d4 => by rw [up_ne d1]; exact g2 d d1 d2 d3 d4⟩, fun self => ?_⟩
    · by_cases he : k = t + 1
      · rw [he, hb_up_same]
      · rw [hb_up_ne (by omega)]
        exact g1 k (by omega)
    · unfold f_X5_seekLure_L16
      simp only [nb_lit]
      rw [if_neg (n_nle (by omega) (by decide)), bnd (or3 X h), bnd (or3 X h), nb_sub (by omega), Nat.add_sub_cancel, bnd (oa1 h (by omega)), g1 t (by omega), if_pos (bgd hB), bnd (bo_ahead X hB R1 W _), bnd (og h (by decide)), d1, nb_andn2 (lt1024 ahead_lt W.1.2), ahead_dif W, bnd (os1 h (by omega) _), nI_add]
      rfl
  · rintro q ⟨m1, rfl, g1, g2⟩ self
    unfold f_X5_seekLure_L16
    simp only [nb_lit]
    rw [if_pos (n_le (by decide) (by decide))]
    exact ⟨m1, rfl, g1, g2⟩
  · refine ⟨_, rfl, fun k hk => ?_, fun d d1 d2 d3 d4 => by rw [up_ne d1]; exact f0 d d2 d3 d4⟩
    have : k = 0 := by omega
    subst this
    rw [hb_up_same]
    rfl
theorem z_lure (X : XR r) (hB : isB B) (R : BR m B b) (W : WFb b) (S : SX m 12 s) (F : WFs (bN b) s) (hw : w < bN b) : ∃ m', f_X8_findLure 75 B 12 (nI w) (130, m, r) = some (130, m', r) ∧ RW m' 76 (lrC b s w) (lrR b s w) ∧ ∀ d, ¬ (71 ≤ d ∧ d ≤ 105) → m' d = m d := by
  have hb := b_ly hB
  have hn := W.1
  obtain ⟨m1, e1, z1, p1, p2, f1⟩ := z_prep X hB R W S F
  have R1 : BR m1 B b := R.congr (fun c c1 c2 => f1 c (by omega) (by omega) (by omega))
  obtain ⟨m2, e2, l1, f2⟩ := o_lure X hB R1 W o78 (lt1024 (knO_lt F) W.1.2) p1.2.1 p1.2.2 hw
  have R2 : BR m2 B b := R1.congr (fun c c1 c2 => f2 c (by omega) (by omega) (by omega) (by omega))
  have q2 : OP m2 b s 92 := p2.congr (f2 92 (by decide) (by decide) (by decide) (by decide))
  obtain ⟨m3, e3, l2, f3⟩ := o_lure X hB R2 W o92 (lt1024 (knO_lt F) W.1.2) q2.2.1 q2.2.2 hw
  have R3 : BR m3 B b := R2.congr (fun c c1 c2 => f3 c (by omega) (by omega) (by omega) (by omega))
  have L1 : ∀ k, k < 10 → m3 (78 + 1) k = nI (lrch b (dO b s 78) (lure0 b (knO b s 78) w) k) := fun k hk => by rw [f3 _ (by decide) (by decide) (by decide) (by decide)]; exact l1 k hk
  have LO : ∀ f, f < bN b → ∀ k, k < 10 → m3 (opA b f + 1) k = nI (lrch b (dF b s f) (l0F b s w f) k) := by
    intro f hf k hk
    unfold l0F
    rw [← dF_op, ← knF_op]
    rcases opA_or b f with h | h
    · rw [h]; exact L1 k hk
    · rw [h]; exact l2 k hk
  obtain ⟨m4, e4, w4, f4⟩ := z_short (s := s) (x := -4) (pb := fun k f => lrB b s w k f) (L1 := lrch b (dO b s 78) (lure0 b (knO b s 78) w)) (L2 := lrch b (dO b s 92) (lure0 b (knO b s 92) w)) (rr := fun k i => pathL b (dF b s (fst (fun f => lrB b s w k f) (bN b))) (l0F b s w (fst (fun f => lrB b s w k f) (bN b))) (k + 1) (fst (fun f => lrB b s w k f) (bN b)) i) X hB R3 W (by rw [f3 _ (by decide) (by decide) (by decide) (by decide), f2 _ (by decide) (by decide) (by decide) (by decide)]; exact z1) (p1.congr (by rw [f3 _ (by decide) (by decide) (by decide) (by decide), f2 _ (by decide) (by decide) (by decide) (by decide)])) (q2.congr (f3 _ (by decide) (by decide) (by decide) (by decide))) (fun k hk => ⟨L1 k hk, lt1024 (lrch_lt lure0_lt k) W.1.2⟩) (fun k hk => ⟨l2 k hk, lt1024 (lrch_lt lure0_lt k) W.1.2⟩) (fun k hk f hf => by
      show _ = isLr b (dF b s f) (l0F b s w f) f (k + 1)
      unfold isLr l0F
      rw [← dF_op, ← knF_op, Nat.add_sub_cancel]
      rcases opA_or b f with h | h
      · rw [h, if_pos rfl]
      · rw [h, if_neg (by decide)]) (fun k hk hF => by
      have hsf : lrB b s w k (fst (fun f => lrB b s w k f) (bN b)) = true := by
        rcases (fst_spec (fun f => lrB b s w k f) (bN b)).1 with q | q
        · omega
        · exact q.2
      generalize fst (fun f => lrB b s w k f) (bN b) = ff at *
      have hinv := pathL_inv W (lure0_lt (b := b) (w := w) (kn := knF b s ff)) hsf
      have hlt : ∀ j, j < k + 1 → pathL b (dF b s ff) (l0F b s w ff) (k + 1) ff j < bN b := by
        intro j hj
        apply Decidable.byContradiction
        intro hc
        have h1 : (lrch b (dF b s ff) (l0F b s w ff) (k + 1 - 1 - j)).testBit (pathL b (dF b s ff) (l0F b s w ff) (k + 1) ff j) = true := hinv j hj
        rw [lt_bit (lrch_lt (show l0F b s w ff < 2 ^ bN b from lure0_lt) _) (Nat.le_of_not_lt hc)] at h1
        cases h1
      have := z_follow (m := m3) (x := -4) (many := k + 1) (p := fun j => (pathL b (dF b s ff) (l0F b s w ff) (k + 1) ff j, false)) (L := lrch b (dF b s ff) (l0F b s w ff)) (O := fun _ => 0) X hB R3 W (by omega) (by omega) (by rw [f3 _ (by decide) (by decide) (by decide) (by decide), f2 _ (by decide) (by decide) (by decide) (by decide)]; exact z1) (fun j hj => LO ff hF j hj) (fun _ _ q => (by cases q)) (fun j hj => hlt j hj) (by
        show bI false = if ¬ nI ff = -nI 4 then nI 0 else nI 1
        rw [if_pos (show ¬ nI ff = -nI 4 from ng_ne (by decide) (by decide) (by omega))]
        rfl) (fun j hj => ⟨rfl, by
          have := hlt (j + 1) hj
          show bI false = if ¬ bI false = nI 0 then nI 1 else if ¬ nI (pathL b (dF b s ff) (l0F b s w ff) (k + 1) ff (j + 1)) = -nI 4 then nI 0 else nI 1
          rw [if_neg (not_not_intro (show bI false = nI 0 from rfl)), if_pos (show ¬ nI _ = -nI 4 from ng_ne (by decide) (by decide) (by omega))]
          rfl⟩)
      exact this)
  refine ⟨m4, ?_, w4, fun d hd => by rw [f4 d (by omega) (by omega), f3 d (by omega) (by omega) (by omega) (by omega), f2 d (by omega) (by omega) (by omega) (by omega), f1 d (by omega) (by omega) (by omega)]⟩
  unfold f_X8_findLure
  rw [if_pos zgd, bnd e1, bnd (zr1 X), bnd (zr3 X), if_pos (ogd o78), bnd e2, bnd (zr2 X), bnd (zr3 X), if_pos (ogd o92), bnd e3, if_pos zgd, bnd e4]
theorem lrC_le : lrC b s w ≤ 10 := by
  unfold lrC
  have := fst_le (fun k => decide (fst (fun f => lrB b s w k f) (bN b) < bN b)) 10
  have e : lrK b s w = fst (fun k => decide (fst (fun f => lrB b s w k f) (bN b) < bN b)) 10 := rfl
  split <;> omega
theorem x_lure (R : RelX m r A) (W : WFa A) (x y : Int32) : XOk (f_X11_lure 0 x y (130, m, r)) m r (v_lure A x y) A := by
  obtain ⟨B, D, Y, S, U⟩ := id R
  obtain ⟨X, ⟨q1, q2, q3, q4, q5⟩, t, Rb, k, G⟩ := id Y
  unfold f_X11_lure v_lure
  simp only [nb_lit]
  rw [bnd (xb Y), if_pos (bgd q3)]
  by_cases hx : x < nI 0 ∨ nI (bN (aB A)) ≤ x
  · rw [bnd (bo_no q3 Rb hx), if_pos rfl, if_pos (Or.inl hx)]
    exact XOk.mk0 R rfl
  · obtain ⟨w, hw, rfl, e⟩ := nword W.2.1 hx
    rw [bnd (bo_has q3 Rb W.2.1 hw), if_neg (n_ne (by decide) (by decide) (by decide) : ¬ nI 1 = nI 0)]
    by_cases h1 : y < -nI 1
    · rw [if_pos h1, if_pos (Or.inr (Or.inl h1))]
      exact XOk.mk0 R rfl
    · rw [if_neg h1]
      by_cases h2 : nI 9 < y
      · rw [if_neg (fun q => (lt_sc (n := 9) (by decide)).mp q h2), if_pos (Or.inr (Or.inr h2))]
        exact XOk.mk0 R rfl
      · obtain ⟨m1, e1, w1, f1⟩ := z_lure X q3 Rb W.2.1 S W.2.2.1 hw
        rw [if_pos ((lt_sc (n := 9) (by decide)).mpr h2), if_neg (not_or.mpr ⟨hx, not_or.mpr ⟨h1, h2⟩⟩), e, bnd (xs X), bnd (xb Y), bnd (xn X), if_pos zgd, bnd e1, bnd (xs X), bnd (zr0 X), bnd (x_told (z_rw X) w1 (by have := lrC_le (b := aB A) (s := aS A) (w := w); omega) h1)]
        exact ⟨m1, r, rfl, R.quiet W (fun d hd => f1 d (by omega)), fun a ha => ⟨f1 a (by omega), rfl⟩⟩
end X9
