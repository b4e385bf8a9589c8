/-! the other side: items taken, faults, boroughs laid -/
section X14
variable {m m' : Nat → Nat → Int32} {r r' : Nat → Nat → Option Nat} {a c d n B D k w i j u v t p q : Nat} {b : Bo} {l x y : Int32} {A : Ab} {X : Nat × (Nat → Int32)} {P : Nat → Nat}
theorem is01 (c : Prop) [Decidable c] : (if c then nI 1 else nI 0) = nI 0 ∨ (if c then nI 1 else nI 0) = nI 1 := by
  by_cases h : c
  · exact Or.inr (if_pos h)
  · exact Or.inl (if_neg h)
theorem x_tkS (hD : isB D) (R : BR m D b) (hv : v < 100) (q : Nat) : ∃ m', f_X0_takeSingle D l (nI v) (130, m, r) = some ((if (tkS b l v q).isSome = true then nI 1 else nI 0), (130, m', r)) ∧ (∀ z, tkS b l v q = some z → z.1 = q ∧ BR m' D z.2) ∧ ∀ d, (d < D ∨ D + 3 < d) → m' d = m d := by
  obtain ⟨⟨r1, r2, r3, r4, r5, r6, r7, r8⟩, r9⟩ := id R
  unfold f_X0_takeSingle tkS
  simp only [nb_lit]
  by_cases l1 : l = nI 99
  · rw [if_pos l1, if_pos (bgd hD), if_pos l1]
    unfold f_X0_setChain
    simp only [nb_lit]
    by_cases hv2 : v < 2
    · rw [bnd (im_yes hv2), if_pos (n_ne (by decide) (by decide) (by decide) : ¬ nI 1 = nI 0), bnd (bp hD (by decide) _), Option.bind_some, if_pos (Or.inr rfl), if_pos hv2]
      refine ⟨_, rfl, fun z hz => ?_, fun d hd => up_ne (by omega)⟩
      cases hz
      refine ⟨rfl, ⟨?_, ?_, ?_, ?_, ?_, ?_, ?_, hb_up_same⟩, fun w hw => ?_⟩
      · rw [hb_up_ne (by omega)]; exact r1
      · rw [hb_up_ne (by omega)]; exact r2
      · rw [hb_up_ne (by omega)]; exact r3
      · rw [hb_up_ne (by omega)]; exact r4
      · rw [hb_up_ne (by omega)]; exact r5
      · rw [hb_up_ne (by omega)]; exact r6
      · rw [hb_up_ne (by omega)]; exact r7
      · rw [up_ne (by omega), up_ne (by omega), up_ne (by omega)]; exact r9 w hw
    · rw [bnd (im_no (Or.inr (show 1 < nI v from n_lt (i := 1) (by omega) (by omega)))), if_neg (not_not_intro rfl), Option.bind_some, if_pos (Or.inl rfl), if_neg hv2]
      exact ⟨m, rfl, fun z hz => (by cases hz), fun _ _ => rfl⟩
  · rw [if_neg l1, if_neg l1]
    by_cases l2 : l = nI 108
    · rw [if_pos l2, if_pos (bgd hD), if_pos l2]
      unfold f_X0_setLongest
      simp only [nb_lit]
      by_cases h1 : 1 ≤ v
      · rw [if_neg (n_nlt h1 (by omega))]
        by_cases h5 : v < 5
        · rw [if_pos (n_le (by omega) (by decide)), bnd (bp hD (by decide) _), Option.bind_some, if_pos (Or.inr rfl), if_pos (show 1 ≤ v ∧ v < 5 from ⟨h1, h5⟩)]
          refine ⟨_, rfl, fun z hz => ?_, fun d hd => up_ne (by omega)⟩
          cases hz
          refine ⟨rfl, ⟨?_, ?_, ?_, ?_, ?_, ?_, hb_up_same, ?_⟩, fun w hw => ?_⟩
          · rw [hb_up_ne (by omega)]; exact r1
          · rw [hb_up_ne (by omega)]; exact r2
          · rw [hb_up_ne (by omega)]; exact r3
          · rw [hb_up_ne (by omega)]; exact r4
          · rw [hb_up_ne (by omega)]; exact r5
          · rw [hb_up_ne (by omega)]; exact r6
          · rw [hb_up_ne (by omega)]; exact r8
          · rw [up_ne (by omega), up_ne (by omega), up_ne (by omega)]; exact r9 w hw
        · rw [if_neg (n_nle (by omega) (by omega)), Option.bind_some, if_pos (Or.inl rfl), if_neg (show ¬ (1 ≤ v ∧ v < 5) from fun z => h5 z.2)]
          exact ⟨m, rfl, fun z hz => (by cases hz), fun _ _ => rfl⟩
      · rw [if_pos (n_lt (by omega) (by decide)), Option.bind_some, if_pos (Or.inl rfl), if_neg (show ¬ (1 ≤ v ∧ v < 5) from fun z => h1 z.1)]
        exact ⟨m, rfl, fun z hz => (by cases hz), fun _ _ => rfl⟩
    · rw [if_neg l2, if_neg l2]
      exact ⟨m, rfl, fun z hz => (by cases hz), fun _ _ => rfl⟩
theorem mk_addW {k c j : Nat} : kindS (addW b k c) j = if k = j then kindS b j ||| 2 ^ bN b else kindS b j := by
  have e : mk (fun w => decide (bK (addW b k c) w = j)) (bN b) = kindS b j := mk_congr (fun i hi => by
    show decide ((if i = bN b then k else bK b i) = j) = _
    rw [if_neg (by omega)])
  show (if decide (bK (addW b k c) (bN b) = j) = true then mk (fun w => decide (bK (addW b k c) w = j)) (bN b) ||| 2 ^ bN b else mk (fun w => decide (bK (addW b k c) w = j)) (bN b)) = _
  rw [e]
  have e2 : bK (addW b k c) (bN b) = k := if_pos rfl
  rw [e2]
  simp
set_option maxHeartbeats 1000000 in
theorem x_addW (H : XR r) (hD : isB D) (R : BR m D b) (W : bN b ≤ 10) (hv : v < 100) (hu : u < 100) : ∃ m', f_X0_addWord D (nI v) (nI u) (130, m, r) = some ((if v < 4 ∧ u < 10 ∧ bN b ≠ 10 then nI 1 else nI 0), (130, m', r)) ∧ ((v < 4 ∧ u < 10 ∧ bN b ≠ 10) → BR m' D (addW b v u)) ∧ ∀ d, (d < D ∨ D + 3 < d) → m' d = m d := by
  obtain ⟨⟨r1, r2, r3, r4, r5, r6, r7, r8⟩, r9⟩ := id R
  have hb := b_ly hD
  unfold f_X0_addWord
  simp only [nb_lit]
  rw [if_neg (nI_pos0 (by omega))]
  by_cases h4 : v < 4
  · rw [if_neg (n_nlt (by omega) (by omega)), if_neg (nI_pos0 (by omega))]
    by_cases h10 : u < 10
    · rw [if_neg (n_nlt (by omega) (by omega)), bnd (bg hD (by decide)), r1]
      by_cases hN : bN b = 10
      · rw [if_neg (by rw [hN]; exact n_nlt (Nat.le_refl _) (by decide)), if_neg (fun z => z.2.2 hN)]
        exact ⟨m, rfl, fun z => absurd hN z.2.2, fun _ _ => rfl⟩
      · have cc : v < 4 ∧ u < 10 ∧ bN b ≠ 10 := ⟨h4, h10, hN⟩
        rw [if_pos (n_lt (by omega) (by decide)), if_pos cc]
        have e3 : ∀ (g : Nat → Nat → Int32) (j : Nat), j < 100 → g D 3 = nI (bN b) → ((if ¬ nI v = nI j then some (nI 0) else (mx_gi (130, g, r) D 0 3).bind fun x18 => (f_X11_bit x18 (130, g, r)).bind fun x19 => some x19 : Option Int32)) = some (nI (if v = j then 2 ^ bN b else 0)) := by
          intro g j hj100 hg
          by_cases hj : v = j
          · rw [if_neg (not_not_intro (by rw [hj])), bnd (bg hD (by decide)), hg, bnd (bo_bit (by omega) _), if_pos hj]
          · rw [if_neg hj, if_pos (n_ne hj (by omega) (by omega))]
        obtain ⟨g, hg⟩ : ∃ g, g = mx_up (mx_up (mx_up m (D + 1) (bN b) (nI v)) (D + 2) (bN b) (nI u)) (D + 3) (bN b) (nI 0) := ⟨_, rfl⟩
        have gD : g D = m D := by rw [hg, up_ne (by omega), up_ne (by omega), up_ne (by omega)]
        refine ⟨mx_up (mx_up (mx_up (mx_up g D 4 (nI (kindS b 1 ||| if v = 1 then 2 ^ bN b else 0))) D 5 (nI (kindS b 2 ||| if v = 2 then 2 ^ bN b else 0))) D 6 (nI (kindS b 3 ||| if v = 3 then 2 ^ bN b else 0))) D 3 (nI (bN b + 1)), ?_, fun _ => ⟨⟨hb_up_same, ?_, ?_, ?_, ?_, ?_, ?_, ?_⟩, fun w hw => ?_⟩, fun d hd => ?_⟩
        · rw [bnd (br0 H hD), bnd (bg hD (by decide)), r1, bnd (bs1 hD (by omega) _), bnd (br1 H hD), bnd (bg hD (by decide)), up_ne (by omega), r1, bnd (bs2 hD (by omega) _), bnd (br2 H hD), bnd (bg hD (by decide)), up_ne (by omega), up_ne (by omega), r1, bnd (bs3 hD (by omega) _), ← hg]
          rw [bnd (bg hD (by decide)), bnd (e3 g 1 (by decide) (by rw [gD]; exact r1)), gD, r2, nb_or, bnd (bp hD (by decide) _)]
          rw [bnd (bg hD (by decide)), bnd (e3 _ 2 (by decide) (by rw [hb_up_ne (by omega), gD]; exact r1)), hb_up_ne (by omega), gD, r3, nb_or, bnd (bp hD (by decide) _)]
          rw [bnd (bg hD (by decide)), bnd (e3 _ 3 (by decide) (by rw [hb_up_ne (by omega), hb_up_ne (by omega), gD]; exact r1)), hb_up_ne (by omega), hb_up_ne (by omega), gD, r4, nb_or, bnd (bp hD (by decide) _)]
          rw [bnd (bg hD (by decide)), hb_up_ne (by omega), hb_up_ne (by omega), hb_up_ne (by omega), gD, r1, nI_add, bnd (bp hD (by decide) _)]
          rfl
        · rw [hb_up_ne (by omega), hb_up_ne (by omega), hb_up_ne (by omega), hb_up_same, mk_addW]
          split
          · rfl
          · rw [Nat.or_zero]
        · show _ = nI (kindS (addW b v u) 2)
          rw [hb_up_ne (by omega), hb_up_ne (by omega), hb_up_same, mk_addW]
          split
          · rfl
          · rw [Nat.or_zero]
        · rw [hb_up_ne (by omega), hb_up_same, mk_addW]
          split
          · rfl
          · rw [Nat.or_zero]
        · rw [hb_up_ne (by omega), hb_up_ne (by omega), hb_up_ne (by omega), hb_up_ne (by omega), gD]; exact r5
        · rw [hb_up_ne (by omega), hb_up_ne (by omega), hb_up_ne (by omega), hb_up_ne (by omega), gD]; exact r6
        · rw [hb_up_ne (by omega), hb_up_ne (by omega), hb_up_ne (by omega), hb_up_ne (by omega), gD]; exact r7
        · rw [hb_up_ne (by omega), hb_up_ne (by omega), hb_up_ne (by omega), hb_up_ne (by omega), gD]; exact r8
        · have hw : w < bN b + 1 := hw
          show _ = nI (if w = bN b then v else bK b w) ∧ _ = nI (if w = bN b then u else bW b w) ∧ _ = nI (if w = bN b then 0 else bE b w)
          have g1 : ∀ c, c ≠ D → (mx_up (mx_up (mx_up (mx_up g D 4 (nI (kindS b 1 ||| if v = 1 then 2 ^ bN b else 0))) D 5 (nI (kindS b 2 ||| if v = 2 then 2 ^ bN b else 0))) D 6 (nI (kindS b 3 ||| if v = 3 then 2 ^ bN b else 0))) D 3 (nI (bN b + 1))) c = g c := fun c hc => by rw [up_ne hc, up_ne hc, up_ne hc, up_ne hc]
          rw [g1 _ (by omega), g1 _ (by omega), g1 _ (by omega), hg]
          by_cases he : w = bN b
          · rw [he, if_pos rfl, if_pos rfl, if_pos rfl, up_ne (by omega), up_ne (by omega), hb_up_same, up_ne (by omega), hb_up_same, hb_up_same]
            exact ⟨rfl, rfl, rfl⟩
          · rw [if_neg he, if_neg he, if_neg he, up_ne (by omega), up_ne (by omega), hb_up_ne (by omega), up_ne (by omega), hb_up_ne (by omega), up_ne (by omega), hb_up_ne (by omega), up_ne (by omega), up_ne (by omega)]
            exact r9 w (by omega)
        · rw [up_ne (by omega), up_ne (by omega), up_ne (by omega), up_ne (by omega), hg, up_ne (by omega), up_ne (by omega), up_ne (by omega)]
    · rw [if_pos (n_lt (by omega) (by omega)), if_neg (fun z => h10 z.2.1)]
      exact ⟨m, rfl, fun z => absurd z.2.1 h10, fun _ _ => rfl⟩
  · rw [if_pos (n_lt (by omega) (by omega)), if_neg (fun z => h4 z.1)]
    exact ⟨m, rfl, fun z => absurd z.1 h4, fun _ _ => rfl⟩
end X14
