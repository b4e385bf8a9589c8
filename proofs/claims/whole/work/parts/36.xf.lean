/-! the other side: pairs taken, faults, boroughs laid -/
section X15
variable {m m' : Nat → Nat → Int32} {r r' : Nat → Nat → Option Nat} {a c d n B D k w i j u v t p q : Nat} {b : Bo} {l x y : Int32} {A : Ab} {X : Nat × (Nat → Int32)} {P : Nat → Nat}
theorem x_addG (H : XR r) (hD : isB D) (R : BR m D b) (W : bN b ≤ 10) (hv : v < 100) (hu : u < 100) : ∃ m', f_X0_addBehind D (nI v) (nI u) (130, m, r) = some ((if v < bN b ∧ u < bN b then nI 1 else nI 0), (130, m', r)) ∧ ((v < bN b ∧ u < bN b) → BR m' D (addG b v u)) ∧ ∀ d, (d < D ∨ D + 3 < d) → m' d = m d := by
  obtain ⟨⟨r1, r2, r3, r4, r5, r6, r7, r8⟩, r9⟩ := id R
  unfold f_X0_addBehind
  simp only [nb_lit]
  rw [if_pos (bgd hD)]
  by_cases h1 : v < bN b
  · rw [bnd (bo_hasN hD r1 W h1), if_neg (n_ne (by decide) (by decide) (by decide) : ¬ nI 1 = nI 0), if_pos (bgd hD)]
    by_cases h2 : u < bN b
    · rw [bnd (bo_hasN hD r1 W h2), if_pos (n_ne (by decide) (by decide) (by decide) : ¬ nI 1 = nI 0), bnd (br2 H hD), bnd (ba3 hD (by omega)), (r9 v h1).2.2, bnd (bo_bit (by omega) _), nb_or, bnd (bs3 hD (by omega) _), if_pos (show v < bN b ∧ u < bN b from ⟨h1, h2⟩)]
      refine ⟨_, rfl, fun _ => ⟨?_, fun w hw => ?_⟩, fun d hd => up_ne (by omega)⟩
      · rw [up_ne (by omega)]
        exact ⟨r1, r2, r3, r4, r5, r6, r7, r8⟩
      · have hw : w < bN b := hw
        show _ ∧ _ ∧ _ = nI (if w = v then bE b w ||| 2 ^ u else bE b w)
        rw [up_ne (by omega), up_ne (by omega)]
        refine ⟨(r9 w hw).1, (r9 w hw).2.1, ?_⟩
        by_cases he : w = v
        · rw [he, hb_up_same, if_pos rfl]
        · rw [hb_up_ne (by omega), if_neg he]; exact (r9 w hw).2.2
    · rw [bnd (bo_noN hD r1 (Or.inr (n_le (by omega) (by omega)))), if_neg (not_not_intro rfl), if_neg (show ¬ (v < bN b ∧ u < bN b) from fun z => h2 z.2)]
      exact ⟨m, rfl, fun z => absurd z.2 h2, fun _ _ => rfl⟩
  · rw [bnd (bo_noN hD r1 (Or.inr (n_le (by omega) (by omega)))), if_pos rfl, if_neg (show ¬ (v < bN b ∧ u < bN b) from fun z => h1 z.1)]
    exact ⟨m, rfl, fun z => absurd z.1 h1, fun _ _ => rfl⟩
theorem x_addK (H : XR r) (hD : isB D) (R : BR m D b) (W : bN b ≤ 10) (hv : v < 100) (hu : u < 100) : ∃ m', f_X0_addKnown D (nI v) (nI u) (130, m, r) = some ((if v < 2 ∧ u < bN b then nI 1 else nI 0), (130, m', r)) ∧ ((v < 2 ∧ u < bN b) → BR m' D (addK b v u)) ∧ ∀ d, (d < D ∨ D + 3 < d) → m' d = m d := by
  obtain ⟨⟨r1, r2, r3, r4, r5, r6, r7, r8⟩, r9⟩ := id R
  unfold f_X0_addKnown
  simp only [nb_lit]
  by_cases h1 : v < 2
  · rw [bnd (im_yes h1), if_neg (n_ne (by decide) (by decide) (by decide) : ¬ nI 1 = nI 0), if_pos (bgd hD)]
    by_cases h2 : u < bN b
    · rw [bnd (bo_hasN hD r1 W h2), if_pos (n_ne (by decide) (by decide) (by decide) : ¬ nI 1 = nI 0), if_pos (show v < 2 ∧ u < bN b from ⟨h1, h2⟩)]
      have hc : v = 0 ∨ v = 1 := by omega
      rcases hc with rfl | rfl
      · rw [if_neg (not_not_intro rfl), bnd (bg hD (by decide)), r5, bnd (bo_bit (by omega) _), nb_or, bnd (bp hD (by decide) _), Option.bind_some]
        refine ⟨_, rfl, fun _ => ⟨⟨?_, ?_, ?_, ?_, ?_, ?_, ?_, ?_⟩, fun w hw => ?_⟩, fun d hd => up_ne (by omega)⟩
        · rw [hb_up_ne (by omega)]; exact r1
        · rw [hb_up_ne (by omega)]; exact r2
        · rw [hb_up_ne (by omega)]; exact r3
        · rw [hb_up_ne (by omega)]; exact r4
        · rw [hb_up_same]; rfl
        · rw [hb_up_ne (by omega)]; exact r6
        · rw [hb_up_ne (by omega)]; exact r7
        · rw [hb_up_ne (by omega)]; exact r8
        · rw [up_ne (by omega), up_ne (by omega), up_ne (by omega)]; exact r9 w hw
      · rw [if_pos (n_ne (by decide) (by decide) (by decide) : ¬ nI 1 = nI 0), bnd (bg hD (by decide)), r6, bnd (bo_bit (by omega) _), nb_or, bnd (bp hD (by decide) _), Option.bind_some]
        refine ⟨_, rfl, fun _ => ⟨⟨?_, ?_, ?_, ?_, ?_, ?_, ?_, ?_⟩, fun w hw => ?_⟩, fun d hd => up_ne (by omega)⟩
        · rw [hb_up_ne (by omega)]; exact r1
        · rw [hb_up_ne (by omega)]; exact r2
        · rw [hb_up_ne (by omega)]; exact r3
        · rw [hb_up_ne (by omega)]; exact r4
        · rw [hb_up_ne (by omega)]; exact r5
        · rw [hb_up_same]; rfl
        · rw [hb_up_ne (by omega)]; exact r7
        · rw [hb_up_ne (by omega)]; exact r8
        · rw [up_ne (by omega), up_ne (by omega), up_ne (by omega)]; exact r9 w hw
    · rw [bnd (bo_noN hD r1 (Or.inr (n_le (by omega) (by omega)))), if_neg (not_not_intro rfl), if_neg (show ¬ (v < 2 ∧ u < bN b) from fun z => h2 z.2)]
      exact ⟨m, rfl, fun z => absurd z.2 h2, fun _ _ => rfl⟩
  · rw [bnd (im_no (Or.inr (show 1 < nI v from n_lt (i := 1) (by omega) (by omega)))), if_pos rfl, if_neg (show ¬ (v < 2 ∧ u < bN b) from fun z => h1 z.1)]
    exact ⟨m, rfl, fun z => absurd z.1 h1, fun _ _ => rfl⟩
theorem x_tkP (H : XR r) (hD : isB D) (R : BR m D b) (W : bN b ≤ 10) (hv : v < 100) (hu : u < 100) (q : Nat) : ∃ m', f_X0_takePair D l (nI v) (nI u) (130, m, r) = some ((if (tkP b l v u q).isSome = true then nI 1 else nI 0), (130, m', r)) ∧ (∀ z, tkP b l v u q = some z → z.1 = q ∧ BR m' D z.2) ∧ ∀ d, (d < D ∨ D + 3 < d) → m' d = m d := by
  have key : ∀ (c : Prop) [Decidable c] (b' : Bo) (res : Option (Int32 × mx_Hp)), (∃ m', res = some ((if c then nI 1 else nI 0), (130, m', r)) ∧ (c → BR m' D b') ∧ ∀ d, (d < D ∨ D + 3 < d) → m' d = m d) → ∃ m', (res.bind fun x2 => if x2.1 = nI 0 ∨ x2.1 = nI 1 then some (x2.1, x2.2) else none) = some ((if (if c then some (q, b') else none : Option (Nat × Bo)).isSome = true then nI 1 else nI 0), (130, m', r)) ∧ (∀ z, (if c then some (q, b') else none : Option (Nat × Bo)) = some z → z.1 = q ∧ BR m' D z.2) ∧ ∀ d, (d < D ∨ D + 3 < d) → m' d = m d := by
    intro c _ b' res hr
    obtain ⟨m1, e1, e2, e3⟩ := hr
    refine ⟨m1, ?_, fun z hz => ?_, e3⟩
    · rw [bnd e1]
      dsimp only
      rw [if_pos (is01 c)]
      by_cases hc : c
      · rw [if_pos hc, if_pos hc]; rfl
      · rw [if_neg hc, if_neg hc]; rfl
    · by_cases hc : c
      · rw [if_pos hc] at hz
        cases hz
        exact ⟨rfl, e2 hc⟩
      · rw [if_neg hc] at hz
        cases hz
  unfold f_X0_takePair tkP
  simp only [nb_lit]
  by_cases l1 : l = nI 103
  · rw [if_pos l1, if_pos l1, if_pos (bgd hD)]
    exact key (v < bN b ∧ u < bN b) (addG b v u) _ (x_addG H hD R W hv hu)
  · rw [if_neg l1, if_neg l1]
    by_cases l2 : l = nI 107
    · rw [if_pos l2, if_pos l2, if_pos (bgd hD)]
      exact key (v < 2 ∧ u < bN b) (addK b v u) _ (x_addK H hD R W hv hu)
    · rw [if_neg l2, if_neg l2]
      by_cases l3 : l = nI 119
      · rw [if_pos l3, if_pos l3, if_pos (bgd hD)]
        exact key (v < 4 ∧ u < 10 ∧ bN b ≠ 10) (addW b v u) _ (x_addW H hD R W hv hu)
      · rw [if_neg l3, if_neg l3]
        exact ⟨m, rfl, fun z hz => (by cases hz), fun _ _ => rfl⟩
theorem rdX_of {z : Nat × Option Nat × Nat} (h : rdX X p = some z) : z.1 < 100 ∧ (∀ u, z.2.1 = some u → u < 100) ∧ z.2.2 ≤ p + 10 := by
  unfold rdX at h
  cases h1 : numB X (p + 1) with
  | none => simp only [h1] at h; cases h
  | some t =>
    have b1 := numB_of h1
    simp only [h1] at h
    split at h
    · cases h
      exact ⟨b1.1, fun u hu => (by cases hu), by show t.2 + 1 ≤ p + 10; omega⟩
    · split at h
      · cases h2 : numB X (t.2 + 1) with
        | none => simp only [h2] at h; cases h
        | some u =>
          have b2 := numB_of h2
          simp only [h2] at h
          split at h
          · cases h
            exact ⟨b1.1, fun u' hu => by cases hu; exact b2.1, by show u.2 + 1 ≤ p + 10; omega⟩
          · cases h
      · cases h
theorem x_take (H : XR r) (hD : isB D) (R : BR m D b) (W : bN b ≤ 10) {z : Nat × Option Nat × Nat} (hz : rdX X p = some z) (h30 : m 3 0 = nI z.1) (h13 : match z.2.1 with | none => m 1 3 = nI 1 | some u => m 1 3 = nI 2 ∧ m 3 1 = nI u) : ∃ m', f_X10_takeItem 1 D (X.2 p) (130, m, r) = some ((if (rdI X b p).isSome = true then nI 1 else nI 0), (130, m', r)) ∧ (∀ y, rdI X b p = some y → y.1 = z.2.2 ∧ BR m' D y.2) ∧ ∀ d, (d < D ∨ D + 3 < d) → m' d = m d := by
  obtain ⟨b1, b2, b3⟩ := rdX_of hz
  rw [rdI_eq, hz]
  obtain ⟨v, o, q⟩ := z
  unfold f_X10_takeItem
  simp only [nb_lit]
  cases o with
  | none =>
    have h13 : m 1 3 = nI 1 := h13
    have h30 : m 3 0 = nI v := h30
    obtain ⟨m1, e1, e2, e3⟩ := x_tkS (l := X.2 p) (r := r) hD R (show v < 100 from b1) q
    rw [bnd (tg (by decide)), h13, if_pos (n_ne (by decide) (by decide) (by decide) : ¬ nI 1 = nI 2), bnd (tr1 H), bnd (ta3 (by decide)), h30, if_pos (bgd hD), bnd e1]
    dsimp only
    rw [if_pos (is01 _)]
    exact ⟨m1, rfl, e2, e3⟩
  | some u =>
    have h13 : m 1 3 = nI 2 ∧ m 3 1 = nI u := h13
    have h30 : m 3 0 = nI v := h30
    obtain ⟨m1, e1, e2, e3⟩ := x_tkP (l := X.2 p) H hD R W (show v < 100 from b1) (b2 u rfl) q
    rw [bnd (tg (by decide)), h13.1, if_neg (not_not_intro rfl), bnd (tr1 H), bnd (ta3 (by decide)), h30, bnd (tr1 H), bnd (ta3 (by decide)), h13.2, if_pos (bgd hD), bnd e1]
    dsimp only
    rw [if_pos (is01 _)]
    exact ⟨m1, rfl, e2, e3⟩
theorem x_rd (H : XR r) (hX : X.1 ≤ 200) (hD : isB D) : ∀ (f p i : Nat) (b : Bo) (m : Nat → Nat → Int32), XX m X → WFd b → BR m D b → p ≤ 300 → 3 * i ≤ p → X.1 < p + f + 1 → ∀ F, f < F → ∃ m', mx_fix (f_X10_readInto_L8 1 D) F (nI p, nI i, (130, m, r)) = some (ansF (rdA X f p b).1, (130, m', r)) ∧ ((rdA X f p b).1 = none → BR m' D (rdA X f p b).2) ∧ (∀ d, d ≠ 1 → d ≠ 3 → (d < D ∨ D + 3 < d) → m' d = m d) ∧ m' 1 2 = m 1 2 := by
  have hb := b_ly hD
  have stop : ∀ (p i : Nat) (m : Nat → Nat → Int32) (self : Int32 × Int32 × mx_Hp → Option (Int32 × mx_Hp)), XX m X → p ≤ 300 → X.1 ≤ p → f_X10_readInto_L8 1 D self (nI p, nI i, (130, m, r)) = some (-nI 4, (130, m, r)) := by
    intro p i m self T hp hx
    unfold f_X10_readInto_L8
    simp only [nb_lit]
    by_cases h66 : nI 66 < nI i
    · rw [if_pos h66]
    · rw [if_neg h66, bnd (tg (by decide)), T.1, if_pos (n_le hx (by omega))]
  intro f
  induction f with
  | zero =>
    intro p i b m T W R hp hi hf F hF
    obtain ⟨F', rfl⟩ : ∃ F', F = F' + 1 := ⟨F - 1, by omega⟩
    exact ⟨m, stop p i m _ T hp (by omega), fun _ => R, fun _ _ _ _ => rfl, rfl⟩
  | succ f ih =>
    intro p i b m T W R hp hi hf F hF
    obtain ⟨F', rfl⟩ : ∃ F', F = F' + 1 := ⟨F - 1, by omega⟩
    rw [fix_1]
    by_cases hx : X.1 ≤ p
    · have e : rdA X (f + 1) p b = (none, b) := by simp only [rdA, if_pos hx]
      rw [e]
      exact ⟨m, stop p i m _ T hp hx, fun _ => R, fun _ _ _ _ => rfl, rfl⟩
    · obtain ⟨m1, e1, g1, f1, c1⟩ := x_ritem H T hX (show p < 400 by omega)
      have T1 : XX m1 X := ⟨by rw [c1]; exact T.1, fun j hj => by rw [f1 2 (by decide) (by decide)]; exact T.2 j hj⟩
      have R1 : BR m1 D b := R.congr (fun c h1 h2 => f1 c (by omega) (by omega))
      have lx : lX X p = X.2 p := by unfold lX; rw [if_pos (by omega)]
      cases hz : rdX X p with
      | none =>
        have hI : rdI X b p = none := by rw [rdI_eq, hz]; rfl
        have er : rdA X (f + 1) p b = (some p, b) := by simp only [rdA, if_neg hx, hI]
        rw [er]
        rw [hz] at e1
        refine ⟨m1, ?_, fun q => (by cases q), fun d d1 d2 d3 => f1 d d1 d2, c1⟩
        unfold f_X10_readInto_L8
        simp only [nb_lit]
        rw [if_neg (n_nlt (by omega) (by omega)), bnd (tg (by decide)), T.1, if_neg (n_nle (by omega) (by omega)), if_pos tgd, bnd e1]
        dsimp only
        rw [if_pos rfl]
        rfl
      | some z =>
        rw [hz] at e1
        obtain ⟨z1, z2⟩ := g1 z hz
        have zb := (rdX_of hz).2.2
        obtain ⟨m2, e2, g2, f2⟩ := x_take (X := X) (p := p) H hD R1 W.1 hz z1 z2
        have T2 : XX m2 X := ⟨by rw [f2 1 (by omega)]; exact T1.1, fun j hj => by rw [f2 2 (by omega)]; exact T1.2 j hj⟩
        have body : f_X10_readInto_L8 1 D (mx_fix (f_X10_readInto_L8 1 D) F') (nI p, nI i, (130, m, r)) = (if ¬ (if (rdI X b p).isSome = true then nI 1 else nI 0) = nI 0 then mx_fix (f_X10_readInto_L8 1 D) F' (nI z.2.2, nI (i + 1), (130, m2, r)) else some (nI p, (130, m2, r))) := by
          unfold f_X10_readInto_L8
          simp only [nb_lit]
          rw [if_neg (n_nlt (by omega) (by omega)), bnd (tg (by decide)), T.1, if_neg (n_nle (by omega) (by omega)), if_pos tgd, bnd e1]
          dsimp only
          rw [if_neg (nI_ne_m1 (by omega)), if_pos tgd, bnd (x_let H T1 hX (by omega)), lx, if_pos tgd, bnd e2, nI_add]
        have F1 : ∀ d, d ≠ 1 → d ≠ 3 → (d < D ∨ D + 3 < d) → m2 d = m d := fun d d1 d2 d3 => by rw [f2 d d3, f1 d d1 d2]
        have C1 : m2 1 2 = m 1 2 := by rw [f2 1 (by omega)]; exact c1
        rw [body]
        cases hI : rdI X b p with
        | none =>
          have er : rdA X (f + 1) p b = (some p, b) := by simp only [rdA, if_neg hx, hI]
          rw [er, if_neg (show ¬ ¬ (if (none : Option (Nat × Bo)).isSome = true then nI 1 else nI 0) = nI 0 from not_not_intro rfl)]
          exact ⟨m2, rfl, fun q => (by cases q), F1, C1⟩
        | some y =>
          have er : rdA X (f + 1) p b = rdA X f y.1 y.2 := by simp only [rdA, if_neg hx, hI]
          have hy := rdI_of W hI
          obtain ⟨y1, y2⟩ := g2 y hI
          obtain ⟨m3, j1, j2, j3, j4⟩ := ih y.1 (i + 1) y.2 m2 T2 hy.2.2 y2 (by omega) (by omega) (by omega) F' (by omega)
          rw [er, if_pos (show ¬ (if (some y : Option (Nat × Bo)).isSome = true then nI 1 else nI 0) = nI 0 by rw [if_pos (show (some y).isSome = true from rfl)]; decide), ← y1]
          exact ⟨m3, j1, j2, fun d d1 d2 d3 => by rw [j3 d d1 d2 d3, F1 d d1 d2 d3], by rw [j4, C1]⟩
theorem x_read (H : XR r) (hD : isB D) (T : XX m X) (hX : X.1 ≤ 200) : ∃ m', f_X10_readInto 1 D (130, m, r) = some (ansF (rdT X).1, (130, m', r)) ∧ ((rdT X).1 = none → BR m' D (rdT X).2) ∧ (∀ d, d ≠ 1 → d ≠ 3 → (d < D ∨ D + 3 < d) → m' d = m d) ∧ m' 1 2 = m 1 2 := by
  have hb := b_ly hD
  obtain ⟨g, hg⟩ : ∃ g, g = mx_up (mx_up (mx_up (mx_up (mx_up (mx_up (mx_up (mx_up m D 3 0) D 4 0) D 5 0) D 6 0) D 7 0) D 8 0) D 9 2) D 10 0 := ⟨_, rfl⟩
  have e0 : f_X0_clear D (130, m, r) = some (130, g, r) := by
    unfold f_X0_clear
    rw [bnd (bp hD (by decide) _), bnd (bp hD (by decide) _), bnd (bp hD (by decide) _), bnd (bp hD (by decide) _), bnd (bp hD (by decide) _), bnd (bp hD (by decide) _), bnd (bp hD (by decide) _), bnd (bp hD (by decide) _), hg]
  have fr : ∀ d, d ≠ D → g d = m d := fun d hd => by rw [hg, up_ne hd, up_ne hd, up_ne hd, up_ne hd, up_ne hd, up_ne hd, up_ne hd, up_ne hd]
  have R0 : BR g D bo0 := by
    refine ⟨⟨?_, ?_, ?_, ?_, ?_, ?_, ?_, ?_⟩, fun w hw => absurd hw (Nat.not_lt_zero w)⟩
    all_goals (rw [hg]; simp [mx_up]; rfl)
  obtain ⟨m1, e1, e2, e3, e4⟩ := x_rd H hX hD 201 0 0 bo0 g ⟨by rw [fr 1 (by omega)]; exact T.1, fun i hi => by rw [fr 2 (by omega)]; exact T.2 i hi⟩ wd0 R0 (by omega) (by omega) (by omega) 2000 (by omega)
  refine ⟨m1, ?_, e2, fun d d1 d2 d3 => by rw [e3 d d1 d2 d3, fr d (by omega)], by rw [e4, fr 1 (by omega)]⟩
  unfold f_X10_readInto
  rw [if_pos (bgd hD), bnd e0]
  exact e1
theorem RelX.draft (R : RelX m r A) (W : WFa A) {B D : Nat} (Y : RelY m r B D A) (h : ∀ d, d ≠ 1 → d ≠ 3 → (d < D ∨ D + 3 < d) → m' d = m d) (h12 : m' 1 2 = m 1 2) (S : SX m 12 (aS A)) (U : UX m r (aU A)) : RelX m' r A := by
  obtain ⟨X, ⟨q1, q2, q3, q4, q5⟩, t, Rb, ⟨k1, k2⟩, G⟩ := Y
  have hb := b_ly q3
  have hd := b_ly q4
  have hK := W.2.2.2.2.1.1
  have bd : B + 3 < D ∨ D + 3 < B := by
    rcases q3 with rfl | rfl <;> rcases q4 with rfl | rfl <;> omega
  refine ⟨B, D, ⟨X, ⟨q1, q2, q3, q4, q5⟩, ⟨by rw [h12]; exact t.1, fun i hi => by rw [h 2 (by decide) (by decide) (by omega)]; exact t.2 i hi⟩, Rb.congr (fun c c1 c2 => h c (by omega) (by omega) (by omega)), ⟨by rw [h 59 (by decide) (by decide) (by omega)]; exact k1, fun i hi => (k2 i hi).congr (fun c c1 c2 => h c (by omega) (by omega) (by omega))⟩, G.congr (h _ (by decide) (by decide) (by omega)) (h _ (by decide) (by decide) (by omega))⟩, S.congr (fun c c1 c2 => h c (by omega) (by omega) (by omega)), U.congr W.2.2.2.1.1 (fun d d1 d2 => h d (by omega) (by omega) (by omega))⟩
theorem x_fault (R : RelX m r A) (W : WFa A) : XOk (f_X11_fault 0 (130, m, r)) m r (v_fault A) A := by
  obtain ⟨B, D, Y, S, U⟩ := id R
  have hd := b_ly Y.2.1.2.2.2.1
  obtain ⟨m1, e1, e2, e3, e4⟩ := x_read (X := aX A) Y.1 Y.2.1.2.2.2.1 Y.2.2.1 W.1
  unfold f_X11_fault
  rw [bnd (xt Y.1), bnd (xd Y), if_pos tgd, bnd e1, v_fault_eq]
  exact ⟨m1, r, rfl, R.draft W Y e3 e4 S U, fun a ha => ⟨e3 a (by omega) (by omega) (by omega), rfl⟩⟩
theorem x_layC (H : XR r) (q1 : r 0 1 = some B) (q2 : r 0 2 = some D) (q3 : isB B) (q4 : isB D) (q5 : B ≠ D) (PL : PLU r P) (T : XX m X) (hX : X.1 ≤ 200) (hn : (rdT X).1 = none) (h0 : bN (rdT X).2 ≠ 0) (fU fK : Nat → St) (fO : Nat → Nat × Nat) : ∃ m' r', f_X11_layText 0 (130, m, r) = some (nI (bN (rdT X).2), (130, m', r')) ∧ RelX m' r' (X, (rdT X).2, newS (rdT X).2, (0, fU), (0, fK), (0, fO)) ∧ ∀ a, 114 ≤ a → m' a = m a ∧ r' a = r a := by
  have hb := b_ly q3
  have hd := b_ly q4
  have Wd : WFd (rdT X).2 := rdA_wf _ _ _ wd0
  have w10 := Wd.1
  obtain ⟨m1, e1, e2, e3, e4⟩ := x_read H q4 T hX
  have R1 := e2 hn
  rw [hn] at e1
  obtain ⟨r1, hr1⟩ : ∃ r1, r1 = mx_up (mx_up r 0 1 (some D)) 0 2 (some B) := ⟨_, rfl⟩
  have H1 : XR r1 := H.congr (fun a j h1 h2 => by rw [hr1, hb_up_ne (by omega), hb_up_ne (by omega)])
  have r01 : r1 0 1 = some D := by rw [hr1, hb_up_ne (by omega), hb_up_same]
  have r02 : r1 0 2 = some B := by rw [hr1, hb_up_same]
  have rfr : ∀ a, a ≠ 0 → r1 a = r a := fun a ha => by rw [hr1, up_ne ha, up_ne ha]
  have PL1 : PLU r1 P := fun i hi => by rw [rfr 18 (by decide)]; exact PL i hi
  obtain ⟨m2, e5, s2, f2⟩ := st_start H1 q4 R1 st12
  obtain ⟨g, hg⟩ : ∃ g, g = mx_up (mx_up (mx_up (mx_up (mx_up (mx_up m2 17 1 0) 59 1 0) 106 1 0) 106 2 (nI 0)) 106 3 (nI 0)) 106 4 (nI 0) := ⟨_, rfl⟩
  have gfr : ∀ d, d ≠ 17 → d ≠ 59 → d ≠ 106 → g d = m2 d := fun d d1 d2 d3 => by rw [hg, up_ne d3, up_ne d3, up_ne d3, up_ne d3, up_ne d2, up_ne d1]
  have G1 : ∀ d, d ≠ 1 → d ≠ 3 → (d < D ∨ D + 3 < d) → (d < 12 ∨ 16 < d) → d ≠ 17 → d ≠ 59 → d ≠ 106 → g d = m d := fun d d1 d2 d3 d4 d5 d6 d7 => by rw [gfr d d5 d6 d7, f2 d d4, e3 d d1 d2 d3]
  have RD : BR g D (rdT X).2 := R1.congr (fun c c1 c2 => by rw [gfr c (by omega) (by omega) (by omega), f2 c (by omega)])
  have p1 : mx_pr (130, m1, r) 0 11 1 D = some (130, m1, mx_up r 0 1 (some D)) := by
    unfold mx_pr
    rw [if_pos ⟨by show 0 < 130; decide, by decide +kernel, by decide⟩]
  have p2 : mx_pr (130, m1, mx_up r 0 1 (some D)) 0 11 2 B = some (130, m1, r1) := by
    unfold mx_pr
    rw [if_pos ⟨by show 0 < 130; decide, by decide +kernel, by decide⟩, hr1]
  refine ⟨g, r1, ?_, ⟨D, B, ⟨H1, ⟨r01, r02, q4, q3, fun z => q5 z.symm⟩, ⟨?_, fun i hi => ?_⟩, RD, ⟨?_, fun i hi => absurd hi (Nat.not_lt_zero i)⟩, ?_⟩, s2.congr (fun c c1 c2 => gfr c (by omega) (by omega) (by omega)), P, PL1, ?_, fun i hi => absurd hi (Nat.not_lt_zero i)⟩, fun a ha => ⟨G1 a (by omega) (by omega) (by omega) (by omega) (by omega) (by omega) (by omega), rfr a (by omega)⟩⟩
  · unfold f_X11_layText
    simp only [nb_lit]
    rw [bnd (xt H), bnd (xr q2 (by decide)), if_pos tgd, bnd e1]
    dsimp only
    rw [if_neg (show ¬ ¬ ansF none = -nI 4 from not_not_intro rfl), bnd (xr q2 (by decide)), bnd (bg q4 (by decide)), R1.1.1, if_pos (n_ne h0 (by omega) (by decide)), bnd (xr q1 (by decide)), bnd (xr q2 (by decide)), bnd p1, bnd p2, bnd (xn H1), bnd (xr r01 (by decide)), if_pos (sgd st12), bnd e5, bnd (xu H1), if_pos (pgd (pl_u H1))]
    unfold f_X6_clear f_X3_startAnew
    rw [bnd (pp_n (pl_u H1) _), Option.bind_some, bnd (xk H1), if_pos (pgd (pl_k H1)), bnd (pp_n (pl_k H1) _), Option.bind_some, bnd (xq H1), if_pos qgd, bnd (qpb (Or.inl rfl)), if_pos qgd, bnd x_qclear, Option.bind_some, ← hg, bnd (xr r01 (by decide)), bnd (bg q4 (by decide)), RD.1.1]
  · rw [gfr 1 (by decide) (by decide) (by decide), f2 1 (by decide), e4]; exact T.1
  · rw [G1 2 (by decide) (by decide) (by omega) (by decide) (by decide) (by decide) (by decide)]; exact T.2 i hi
  · rw [hg, up_ne (by decide), up_ne (by decide), up_ne (by decide), up_ne (by decide), hb_up_same]; rfl
  · refine ⟨?_, ?_, ?_, Or.inl ?_⟩
    · rw [hg, hb_up_ne (by omega), hb_up_ne (by omega), hb_up_same]; rfl
    · rw [hg, hb_up_ne (by omega), hb_up_same]; rfl
    · rw [hg, hb_up_same]; rfl
    · rw [hg, hb_up_ne (by omega), hb_up_ne (by omega), hb_up_ne (by omega), hb_up_same]; rfl
  · rw [hg, up_ne (by decide), up_ne (by decide), up_ne (by decide), up_ne (by decide), up_ne (by decide), hb_up_same]; rfl
theorem x_lay (R : RelX m r A) (W : WFa A) : XOk (f_X11_lay 0 (130, m, r)) m r (o_lay A).1 (o_lay A).2 := by
  obtain ⟨B, D, Y, S, U⟩ := id R
  obtain ⟨H, ⟨q1, q2, q3, q4, q5⟩, T, Rb, k, G⟩ := id Y
  have hd := b_ly q4
  have Wd : WFd (rdT (aX A)).2 := rdA_wf _ _ _ wd0
  have w10 := Wd.1
  unfold f_X11_lay o_lay
  rw [if_pos gd0]
  by_cases hc : (rdT (aX A)).1 = none ∧ bN (rdT (aX A)).2 ≠ 0
  · obtain ⟨P, p1, p2, p3⟩ := U
    obtain ⟨m1, r1, e1, e2, e3⟩ := x_layC H q1 q2 q3 q4 q5 p1 T W.1 hc.1 hc.2 (aU A).2 (aK A).2 (aO A).2
    rw [if_pos hc, bnd e1]
    exact ⟨m1, r1, rfl, e2, e3⟩
  · rw [if_neg hc]
    obtain ⟨m1, e1, e2, e3, e4⟩ := x_read (X := aX A) H q4 T W.1
    have R1 := R.draft W Y e3 e4 S U
    have el : f_X11_layText 0 (130, m, r) = some (-nI 2, (130, m1, r)) := by
      unfold f_X11_layText
      simp only [nb_lit]
      rw [bnd (xt H), bnd (xr q2 (by decide)), if_pos tgd, bnd e1]
      dsimp only
      cases hr : (rdT (aX A)).1 with
      | some p =>
        have hp : p < 2 ^ 31 := by
          have : ∀ (f p0 : Nat) (b : Bo) (q : Nat), (rdA (aX A) f p0 b).1 = some q → q < (aX A).1 := by
            intro f
            induction f with
            | zero => intro p0 b q h; cases h
            | succ f ih =>
              intro p0 b q h
              unfold rdA at h
              split at h
              · cases h
              · split at h
                · cases h; omega
                · exact ih _ _ _ h
          have := this 201 0 bo0 p hr
          have := W.1
          omega
        rw [if_pos (show ¬ ansF (some p) = -nI 4 from ng_ne (i := 4) (by decide) (by decide) hp)]
      | none =>
        have h0 : bN (rdT (aX A)).2 = 0 := by
          apply Decidable.byContradiction
          intro z
          exact hc ⟨hr, z⟩
        rw [if_neg (show ¬ ¬ ansF none = -nI 4 from not_not_intro rfl), bnd (xr q2 (by decide)), bnd (bg q4 (by decide)), (e2 hr).1.1, h0, if_neg (not_not_intro rfl)]
    rw [bnd el]
    exact ⟨m1, r, rfl, R1, fun a ha => ⟨e3 a (by omega) (by omega) (by omega), rfl⟩⟩
end X15
