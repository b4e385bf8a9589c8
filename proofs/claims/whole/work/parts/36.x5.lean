/-! the other side: plain calls -/
theorem lt_sc {x : Int32} {n : Nat} (hn : n < 2 ^ 30) : x < nI (n + 1) ↔ ¬ nI n < x := by
  rw [Int32.lt_iff_toInt_lt, Int32.lt_iff_toInt_lt, show (nI (n + 1)).toInt = ((n + 1 : Nat) : Int) from Int32.toInt_ofNat_of_lt (by omega), show (nI n).toInt = (n : Int) from Int32.toInt_ofNat_of_lt (by omega)]
  omega
theorem not_lt_le {x y : Int32} (h : ¬ x < y) : y ≤ x := Int32.not_lt.mp h
section X5
variable {m m' : Nat → Nat → Int32} {r r' : Nat → Nat → Option Nat} {a c d n B D k w i u v : Nat} {f g P : Nat → Nat} {b : Bo} {s : St} {x y : Int32} {A : Ab} {U : Nat × (Nat → St)}
theorem gd0 : 0 < 130 ∧ (mx_lay 0).1 = 14 := ⟨by decide, by decide +kernel⟩
theorem xr (h : r 0 k = some v) (hk : mx_fk 11 k = 1) : mx_gr (130, m, r) 0 11 k = some v := hb_gr (by decide) (by decide +kernel) hk h
theorem xt (H : XR r) : mx_gr (130, m, r) 0 11 0 = some 1 := xr H.1.1 (by decide)
theorem xn (H : XR r) : mx_gr (130, m, r) 0 11 3 = some 12 := xr H.1.2.1 (by decide)
theorem xu (H : XR r) : mx_gr (130, m, r) 0 11 4 = some 17 := xr H.1.2.2.1 (by decide)
theorem xk (H : XR r) : mx_gr (130, m, r) 0 11 5 = some 59 := xr H.1.2.2.2.1 (by decide)
theorem xf (H : XR r) : mx_gr (130, m, r) 0 11 6 = some 71 := xr H.1.2.2.2.2.1 (by decide)
theorem xs (H : XR r) : mx_gr (130, m, r) 0 11 7 = some 75 := xr H.1.2.2.2.2.2.1 (by decide)
theorem xq (H : XR r) : mx_gr (130, m, r) 0 11 8 = some 106 := xr H.1.2.2.2.2.2.2.1 (by decide)
theorem xc (H : XR r) : mx_gr (130, m, r) 0 11 9 = some 108 := xr H.1.2.2.2.2.2.2.2 (by decide)
theorem xb (Y : RelY m r B D A) {m' : Nat → Nat → Int32} : mx_gr (130, m', r) 0 11 1 = some B := xr Y.2.1.1 (by decide)
theorem xd (Y : RelY m r B D A) {m' : Nat → Nat → Int32} : mx_gr (130, m', r) 0 11 2 = some D := xr Y.2.1.2.1 (by decide)
theorem tgd : 1 < 130 ∧ (mx_lay 1).1 = 13 := ⟨by decide, by decide +kernel⟩
theorem tg (hf : mx_fk 10 k = 0 ∨ mx_fk 10 k = 2) : mx_gi (130, m, r) 1 10 k = some (m 1 k) := hb_gi (by decide) (by decide +kernel) hf
theorem tp (hf : mx_fk 10 k = 0) (v : Int32) : mx_pi (130, m, r) 1 10 k v = some (130, mx_up m 1 k v, r) := hb_pi (by decide) (by decide +kernel) hf v
theorem tr0 (H : XR r) : mx_gr (130, m, r) 1 10 0 = some 2 := hb_gr (by decide) (by decide +kernel) (by decide) H.2.1.1
theorem tr1 (H : XR r) : mx_gr (130, m, r) 1 10 1 = some 3 := hb_gr (by decide) (by decide +kernel) (by decide) H.2.1.2
theorem tln : mx_ln (130, m, r) 2 = some (nI 200) := by
  unfold mx_ln
  rw [if_pos ⟨by show 2 < 130; decide, Or.inl (by decide +kernel)⟩]
  rfl
theorem tln3 : mx_ln (130, m, r) 3 = some (nI 2) := by
  unfold mx_ln
  rw [if_pos ⟨by show 3 < 130; decide, Or.inl (by decide +kernel)⟩]
  rfl
theorem ta (hk : k < 200) : mx_al (130, m, r) 2 (nI k) = some (m 2 k) := hb_al (by decide) (by decide +kernel) (by rw [show mx_lay 2 = (0, 200) by decide +kernel]; exact hk)
theorem tas (hk : k < 200) (v : Int32) : mx_as (130, m, r) 2 (nI k) v = some (130, mx_up m 2 k v, r) := hb_as (by decide) (by decide +kernel) (by rw [show mx_lay 2 = (0, 200) by decide +kernel]; exact hk) v
theorem ta3 (hk : k < 2) : mx_al (130, m, r) 3 (nI k) = some (m 3 k) := hb_al (by decide) (by decide +kernel) (by rw [show mx_lay 3 = (0, 2) by decide +kernel]; exact hk)
theorem tas3 (hk : k < 2) (v : Int32) : mx_as (130, m, r) 3 (nI k) v = some (130, mx_up m 3 k v, r) := hb_as (by decide) (by decide +kernel) (by rw [show mx_lay 3 = (0, 2) by decide +kernel]; exact hk) v
theorem im_yes (hi : i < 2) {h : mx_Hp} : f_X11_isMayor (nI i) h = some (nI 1) := by
  unfold f_X11_isMayor
  simp only [nb_lit]
  have : i = 0 ∨ i = 1 := by omega
  rcases this with rfl | rfl
  · rw [if_pos rfl, Option.bind_some, if_pos (Or.inr rfl)]
  · rw [if_neg (n_ne (by decide) (by decide) (by decide)), if_neg (not_not_intro rfl), Option.bind_some, if_pos (Or.inr rfl)]
theorem im_no (hx : x < 0 ∨ 1 < x) {h : mx_Hp} : f_X11_isMayor x h = some (nI 0) := by
  unfold f_X11_isMayor
  have h0 : ¬ x = 0 := by
    rintro rfl
    rcases hx with q | q
    · exact absurd q (by decide)
    · exact absurd q (by decide)
  have h1 : ¬ x = 1 := by
    rintro rfl
    rcases hx with q | q
    · exact absurd q (by decide)
    · exact absurd q (by decide)
  rw [if_neg h0, if_pos h1, Option.bind_some, if_pos (Or.inl rfl)]
  rfl
/-- the text has changed -/
theorem RelX.text (R : RelX m r A) (W : WFa A) {X' : Nat × (Nat → Int32)} (hX : m' 1 2 = nI X'.1 ∧ ∀ i, i < X'.1 → m' 2 i = X'.2 i) (h : ∀ d, d ≠ 1 → d ≠ 2 → m' d = m d) : RelX m' r (X', A.2) := by
  obtain ⟨B, D, ⟨X, q, t, Rb, ⟨k1, k2⟩, G⟩, S, U⟩ := R
  have hb := b_ly q.2.2.1
  have hK := W.2.2.2.2.1.1
  refine ⟨B, D, ⟨X, q, hX, Rb.congr (fun c c1 c2 => h c (by omega) (by omega)), ⟨by rw [h 59 (by decide) (by decide)]; exact k1, fun i hi => (k2 i hi).congr (fun c c1 c2 => h c (by omega) (by omega))⟩, G.congr (h _ (by decide) (by decide)) (h _ (by decide) (by decide))⟩, S.congr (fun c c1 c2 => h c (by omega) (by omega)), U.congr W.2.2.2.1.1 (fun d d1 d2 => h d (by omega) (by omega))⟩
theorem x_tadd (X : XR r) (h1 : m 1 2 = nI n) (hn : n < 200) (v : Int32) : f_X10_add 1 v (130, m, r) = some (nI 1, (130, mx_up (mx_up m 2 n v) 1 2 (nI (n + 1)), r)) := by
  unfold f_X10_add
  simp only [nb_lit]
  rw [bnd (tg (by decide)), h1, if_neg (nI_pos0 (by omega)), bnd (tg (by decide)), h1, bnd (tr0 X), bnd tln, if_pos (n_lt hn (by decide)), bnd (tr0 X), bnd (tg (by decide)), h1, bnd (tas hn v), bnd (tg (by decide)), hb_up_ne (by omega), h1, nI_add, bnd (tp (by decide) _)]
theorem x_write (R : RelX m r A) (W : WFa A) (x : Int32) : XOk (f_X11_write 0 x (130, m, r)) m r (o_write A x).1 (o_write A x).2 := by
  obtain ⟨B, D, Y, S, U⟩ := id R
  have X := Y.1
  have hl := W.1
  have t1 := Y.2.2.1.1
  unfold f_X11_write o_write
  by_cases h1 : x < 32
  · rw [if_pos h1, if_pos (Or.inl h1)]
    exact XOk.mk0 R rfl
  · rw [if_neg h1]
    by_cases h2 : 126 < x
    · rw [if_neg (Int32.not_le.mpr h2), if_pos (Or.inr h2)]
      exact XOk.mk0 R rfl
    · rw [if_pos (not_lt_le h2), if_neg (fun q => q.elim h1 h2), bnd (xt X), if_pos tgd]
      by_cases h3 : (aX A).1 = 200
      · have e : f_X10_add 1 x (130, m, r) = some (nI 0, (130, m, r)) := by
          unfold f_X10_add
          simp only [nb_lit]
          rw [bnd (tg (by decide)), t1, if_neg (nI_pos0 (by omega)), bnd (tg (by decide)), t1, bnd (tr0 X), bnd tln, h3, if_neg (n_nlt (Nat.le_refl _) (by decide))]
        rw [if_pos h3, bnd e]
        exact XOk.mk0 R rfl
      · rw [if_neg h3, bnd (x_tadd X t1 (by omega) x)]
        dsimp only
        rw [if_neg (show ¬ nI 1 = 0 by decide), bnd (xt X), bnd (tg (by decide)), hb_up_same]
        refine ⟨_, r, rfl, R.text W ⟨hb_up_same, fun i hi => ?_⟩ (fun d d1 d2 => by rw [up_ne d1, up_ne d2]), fun a ha => ⟨by rw [up_ne (by omega), up_ne (by omega)], rfl⟩⟩
        have hi : i < (aX A).1 + 1 := hi
        show _ = if i = (aX A).1 then x else (aX A).2 i
        rw [hb_up_ne (by omega)]
        by_cases he : i = (aX A).1
        · rw [he, hb_up_same, if_pos rfl]
        · rw [hb_up_ne (by omega), if_neg he]
          exact Y.2.2.1.2 i (by omega)
theorem x_wipe (R : RelX m r A) (W : WFa A) : XOk (f_X11_wipe 0 (130, m, r)) m r (o_wipe A).1 (o_wipe A).2 := by
  obtain ⟨B, D, Y, S, U⟩ := id R
  have X := Y.1
  unfold f_X11_wipe f_X10_clear o_wipe
  rw [bnd (xt X), bnd (tg (by decide)), bnd (xt X), if_pos tgd, bnd (tp (by decide) _), Option.bind_some, Y.2.2.1.1]
  exact ⟨_, r, rfl, R.text W ⟨hb_up_same, fun i hi => absurd hi (Nat.not_lt_zero i)⟩ (fun d d1 _ => up_ne d1), fun a ha => ⟨up_ne (by omega), rfl⟩⟩
theorem x_word (R : RelX m r A) (W : WFa A) (x y : Int32) : f_X11_word 0 x y (130, m, r) = some (v_word A x y) := by
  obtain ⟨B, D, Y, S, U⟩ := id R
  obtain ⟨X, ⟨q1, q2, q3, q4, q5⟩, t, Rb, k, G⟩ := id Y
  unfold f_X11_word v_word
  simp only [nb_lit]
  rw [bnd (xb Y), if_pos (bgd q3)]
  by_cases hx : x < nI 0 ∨ nI (bN (aB A)) ≤ x
  · rw [bnd (bo_no q3 Rb hx), if_neg (not_not_intro rfl), if_pos hx]
  · obtain ⟨w, hw, rfl, e⟩ := nword W.2.1 hx
    rw [if_neg hx, e, bnd (bo_has q3 Rb W.2.1 hw), if_pos (n_ne (by decide) (by decide) (by decide) : ¬ nI 1 = nI 0)]
    by_cases y0 : y = nI 0
    · rw [if_pos y0, if_pos y0, bnd (xb Y), if_pos (bgd q3), bnd (bo_kind X q3 Rb W.2.1 hw)]
    · rw [if_neg y0, if_neg y0]
      by_cases y1 : y = nI 1
      · rw [if_pos y1, if_pos y1, bnd (xb Y), if_pos (bgd q3), bnd (bo_worth X q3 Rb W.2.1 hw)]
      · rw [if_neg y1, if_neg y1]
        by_cases y2 : y = nI 2
        · rw [if_pos y2, if_pos y2, bnd (xb Y), if_pos (bgd q3), bnd (bo_behind X q3 Rb W.2.1 hw)]
        · rw [if_neg y2, if_neg y2]
          by_cases y3 : y = nI 3
          · rw [if_pos y3, if_pos y3, bnd (xn X), if_pos (sgd st12), bnd (st_knowers X W.2.1 st12 S W.2.2.1 hw)]
          · rw [if_neg y3, if_neg y3]
theorem x_mayor (R : RelX m r A) (W : WFa A) (x y : Int32) : f_X11_mayor 0 x y (130, m, r) = some (v_mayor A x y) := by
  obtain ⟨B, D, Y, S, U⟩ := id R
  have X := Y.1
  unfold f_X11_mayor v_mayor
  simp only [nb_lit]
  by_cases hx : x < nI 0 ∨ nI 1 < x
  · rw [bnd (im_no hx), if_neg (not_not_intro rfl), if_pos hx]
  · obtain ⟨i, hi, rfl, e⟩ := mayor_or hx
    have hc := W.2.2.1.2.2.2
    rw [if_neg hx, e, bnd (im_yes hi), if_pos (n_ne (by decide) (by decide) (by decide) : ¬ nI 1 = nI 0), bnd (xn X), if_pos (sgd st12), bnd (st_mo X st12 hi)]
    by_cases y0 : y = nI 0
    · rw [if_pos y0, if_pos y0, bnd (xn X), bnd (sg st12 (by decide)), S.2.2.1]
      by_cases hq : nI (sC (aS A)) = nI i
      · rw [if_neg (not_not_intro hq), if_pos hq]
        rfl
      · rw [if_pos hq, if_neg hq]
        rfl
    · rw [if_neg y0, if_neg y0]
      by_cases y1 : y = nI 1
      · rw [if_pos y1, if_pos y1, bnd (mg (st_my st12 hi) (by decide)), (S.2.1 i hi).1]
      · rw [if_neg y1, if_neg y1]
        by_cases y2 : y = nI 2
        · rw [if_pos y2, if_pos y2, bnd (mg (st_my st12 hi) (by decide)), (S.2.1 i hi).2.1]
        · rw [if_neg y2, if_neg y2]
          by_cases y3 : y = nI 3
          · rw [if_pos y3, if_pos y3, bnd (mg (st_my st12 hi) (by decide)), (S.2.1 i hi).2.2]
          · rw [if_neg y3, if_neg y3]
theorem x_said (R : RelX m r A) (W : WFa A) (x : Int32) : f_X11_said 0 x (130, m, r) = some (v_said A x) := by
  obtain ⟨B, D, Y, S, U⟩ := id R
  have X := Y.1
  have hs := W.2.2.1.1
  unfold f_X11_said v_said
  simp only [nb_lit]
  by_cases h0 : x < nI 0
  · rw [if_neg (Int32.not_le.mpr h0), if_pos h0]
    rfl
  · rw [if_pos (not_lt_le h0), if_neg h0, bnd (xn X), bnd (sr0 X st12), if_pos (rgd (st_rw X st12))]
    by_cases h1 : nI (sN (aS A)) ≤ x
    · rw [if_pos h1, bnd (rw_out (st_rw X st12) S.1 (Or.inr h1))]
      rfl
    · rw [if_neg h1]
      rcases nb_three x (sN (aS A)) (by omega) with q | q | ⟨j, hj, rfl⟩
      · exact absurd q h0
      · exact absurd q h1
      · rw [bnd (rw_at (st_rw X st12) S.1 hs hj), nb_cl (by omega)]
        rfl
theorem x_count (R : RelX m r A) (x : Int32) : f_X11_count 0 x (130, m, r) = some (v_count A x) := by
  obtain ⟨B, D, Y, S, U⟩ := id R
  obtain ⟨X, ⟨q1, q2, q3, q4, q5⟩, t, Rb, k, G⟩ := id Y
  obtain ⟨P, p1, p2, p3⟩ := U
  unfold f_X11_count v_count
  simp only [nb_lit]
  by_cases x0 : x = nI 0
  · rw [if_pos x0, if_pos x0, bnd (xb Y), bnd (bg q3 (by decide)), Rb.1.1]
  · rw [if_neg x0, if_neg x0]
    by_cases x1 : x = nI 1
    · rw [if_pos x1, if_pos x1, bnd (xn X), bnd (sg st12 (by decide)), S.2.2.2.1]
    · rw [if_neg x1, if_neg x1]
      by_cases x2 : x = nI 2
      · rw [if_pos x2, if_pos x2, bnd (xn X), bnd (sr0 X st12), bnd (rg_n (st_rw X st12)), S.1.1]
      · rw [if_neg x2, if_neg x2]
        by_cases x3 : x = nI 3
        · rw [if_pos x3, if_pos x3, bnd (xn X), if_pos (sgd st12), bnd (st_both X st12 S)]
        · rw [if_neg x3, if_neg x3]
          by_cases x4 : x = nI 4
          · rw [if_pos x4, if_pos x4, bnd (xn X), bnd (sg st12 (by decide)), S.2.2.2.2]
          · rw [if_neg x4, if_neg x4]
            by_cases x5 : x = nI 5
            · rw [if_pos x5, if_pos x5, bnd (xb Y), bnd (bg q3 (by decide)), Rb.1.2.2.2.2.2.2.1]
            · rw [if_neg x5, if_neg x5]
              by_cases x6 : x = nI 6
              · rw [if_pos x6, if_pos x6, bnd (xq X), bnd (hb_gi (by decide) (by decide +kernel) (by decide)), G.1]
              · rw [if_neg x6, if_neg x6]
                by_cases x7 : x = nI 7
                · rw [if_pos x7, if_pos x7, bnd (xu X), bnd (pg_n (pl_u X)), p2]
                · rw [if_neg x7, if_neg x7]
                  by_cases x8 : x = nI 8
                  · rw [if_pos x8, if_pos x8, bnd (xk X), bnd (pg_n (pl_k X)), k.1]
                  · rw [if_neg x8, if_neg x8]
                    by_cases x9 : x = nI 9
                    · rw [if_pos x9, if_pos x9, bnd (xt X), bnd (tg (by decide)), t.1]
                    · rw [if_neg x9, if_neg x9]
theorem x_say (R : RelX m r A) (W : WFa A) (x : Int32) : XOk (f_X11_say 0 x (130, m, r)) m r (o_say A x).1 (o_say A x).2 := by
  obtain ⟨B, D, Y, S, U⟩ := id R
  obtain ⟨X, ⟨q1, q2, q3, q4, q5⟩, t, Rb, k, G⟩ := id Y
  have hs := W.2.2.1.1
  unfold f_X11_say o_say
  simp only [nb_lit]
  rw [bnd (xb Y), if_pos (bgd q3)]
  by_cases hx : x < nI 0 ∨ nI (bN (aB A)) ≤ x
  · rw [bnd (bo_no q3 Rb hx), if_neg (not_not_intro rfl), if_pos hx]
    exact XOk.mk0 R rfl
  · obtain ⟨w, hw, rfl, e⟩ := nword W.2.1 hx
    rw [if_neg hx, e, bnd (bo_has q3 Rb W.2.1 hw), if_pos (n_ne (by decide) (by decide) (by decide) : ¬ nI 1 = nI 0), bnd (xn X), bnd (xb Y), if_pos (sgd st12), bnd (st_fits X q3 Rb W.2.1 st12 S W.2.2.1 hw)]
    by_cases hf : fitsW (aB A) (aS A) w = true
    · rw [if_pos hf, if_pos hf, if_pos (n_ne (by decide) (by decide) (by decide) : ¬ nI 1 = nI 0), bnd (xn X), bnd (sr0 X st12), bnd (rg_n (st_rw X st12)), S.1.1]
      by_cases h12 : sN (aS A) = 12
      · rw [if_pos h12, h12, if_neg (n_nlt (Nat.le_refl _) (by decide))]
        exact XOk.mk0 R rfl
      · rw [if_neg h12, if_pos (n_lt (by omega) (by decide)), bnd (xu X), bnd (xn X), if_pos (pgd (pl_u X))]
        obtain ⟨m1, r1, e1, R1, f1, g1⟩ := x_put R W
        obtain ⟨B1, D1, Y1, S1, U1⟩ := id R1
        have S1 : SX m1 12 (aS A) := S1
        obtain ⟨m2, e2, S2, f2⟩ := st_speak (w := w) Y1.1 st12 S1 (by omega)
        refine ⟨m2, r1, ?_, R1.std (wf_act W W.2.2.1) S2 f2, fun a ha => ⟨by rw [f2 a (by omega), g1 a (by omega) (by omega)], f1 a (by omega)⟩⟩
        rw [bnd e1, bnd (xn Y1.1), if_pos (sgd st12), bnd e2, bnd (xn Y1.1), bnd (sr0 Y1.1 st12), bnd (rg_n (st_rw Y1.1 st12)), S2.1.1]
        rfl
    · rw [if_neg hf, if_neg hf, if_neg (not_not_intro rfl)]
      exact XOk.mk0 R rfl
theorem x_end (R : RelX m r A) (W : WFa A) : XOk (f_X11_end 0 (130, m, r)) m r (o_end A).1 (o_end A).2 := by
  obtain ⟨B, D, Y, S, U⟩ := id R
  obtain ⟨X, ⟨q1, q2, q3, q4, q5⟩, t, Rb, k, G⟩ := id Y
  unfold f_X11_end o_end
  simp only [nb_lit]
  rw [bnd (xn X), bnd (xb Y), if_pos (sgd st12), bnd (st_endable X q3 Rb W.2.1 st12 S W.2.2.1)]
  by_cases hf : mayEnd (aB A) (aS A) = true
  · rw [if_pos hf, if_pos hf, if_pos (n_ne (by decide) (by decide) (by decide) : ¬ nI 1 = nI 0), bnd (xu X), bnd (xn X), if_pos (pgd (pl_u X))]
    obtain ⟨m1, r1, e1, R1, f1, g1⟩ := x_put R W
    obtain ⟨B1, D1, Y1, S1, U1⟩ := id R1
    have S1 : SX m1 12 (aS A) := S1
    have Rb1 : BR m1 B1 (aB A) := Y1.2.2.2.1
    obtain ⟨m2, e2, S2, f2⟩ := st_decree Y1.1 Y1.2.1.2.2.1 Rb1 W.2.1 st12 S1 W.2.2.1
    refine ⟨m2, r1, ?_, R1.std (wf_act W W.2.2.1) S2 f2, fun a ha => ⟨by rw [f2 a (by omega), g1 a (by omega) (by omega)], f1 a (by omega)⟩⟩
    rw [bnd e1, bnd (xn Y1.1), bnd (xb Y1), if_pos (sgd st12), bnd e2]
  · rw [if_neg hf, if_neg hf, if_neg (not_not_intro rfl)]
    exact XOk.mk0 R rfl
theorem x_drop (R : RelX m r A) (W : WFa A) : XOk (f_X11_drop 0 (130, m, r)) m r (o_drop A).1 (o_drop A).2 := by
  obtain ⟨B, D, Y, S, U⟩ := id R
  have X := Y.1
  have hs := W.2.2.1.1
  unfold f_X11_drop o_drop
  simp only [nb_lit]
  rw [bnd (xn X), bnd (sr0 X st12), bnd (rg_n (st_rw X st12)), S.1.1]
  by_cases h0 : sN (aS A) = 0
  · rw [if_pos h0, if_neg (not_not_intro (by rw [h0]))]
    exact XOk.mk0 R rfl
  · rw [if_neg h0, if_pos (n_ne h0 (by omega) (by decide)), bnd (xu X), bnd (xn X), if_pos (pgd (pl_u X))]
    obtain ⟨m1, r1, e1, R1, f1, g1⟩ := x_put R W
    obtain ⟨B1, D1, Y1, S1, U1⟩ := id R1
    have S1 : SX m1 12 (aS A) := S1
    obtain ⟨m2, e2, S2, f2⟩ := st_fall Y1.1 st12 S1
    refine ⟨m2, r1, ?_, R1.std (wf_act W W.2.2.1) S2 f2, fun a ha => ⟨by rw [f2 a (by omega), g1 a (by omega) (by omega)], f1 a (by omega)⟩⟩
    rw [bnd e1, bnd (xn Y1.1), if_pos (sgd st12), bnd e2]
theorem x_learn (R : RelX m r A) (W : WFa A) (x y : Int32) : XOk (f_X11_learn 0 x y (130, m, r)) m r (o_learn A x y).1 (o_learn A x y).2 := by
  obtain ⟨B, D, Y, S, U⟩ := id R
  obtain ⟨X, ⟨q1, q2, q3, q4, q5⟩, t, Rb, k, G⟩ := id Y
  have hn := W.2.1.1
  unfold f_X11_learn o_learn
  simp only [nb_lit]
  by_cases hx : x < nI 0 ∨ nI 1 < x
  · rw [bnd (im_no hx), if_pos rfl, if_pos (Or.inl hx)]
    exact XOk.mk0 R rfl
  · obtain ⟨i, hi, rfl, ei⟩ := mayor_or hx
    rw [bnd (im_yes hi), if_neg (n_ne (by decide) (by decide) (by decide) : ¬ nI 1 = nI 0), bnd (xb Y), if_pos (bgd q3)]
    by_cases hy : y < nI 0 ∨ nI (bN (aB A)) ≤ y
    · rw [bnd (bo_no q3 Rb hy), if_neg (not_not_intro rfl), if_pos (Or.inr hy)]
      exact XOk.mk0 R rfl
    · obtain ⟨w, hw, rfl, e⟩ := nword W.2.1 hy
      rw [if_neg (fun q => q.elim hx hy), ei, e, bnd (bo_has q3 Rb W.2.1 hw), if_pos (n_ne (by decide) (by decide) (by decide) : ¬ nI 1 = nI 0), bnd (xu X), bnd (xn X), if_pos (pgd (pl_u X))]
      obtain ⟨m1, r1, e1, R1, f1, g1⟩ := x_put R W
      obtain ⟨B1, D1, Y1, S1, U1⟩ := id R1
      have S1 : SX m1 12 (aS A) := S1
      have hy2 := wf_y W.2.1 W.2.2.1 hi
      have hxr : sY (aS A) i ^^^ 2 ^ w < 2 ^ 31 := by
        have h1 : sY (aS A) i ^^^ 2 ^ w < 2 ^ 10 := Nat.xor_lt_two_pow (by omega) (bit_lt (by omega))
        omega
      have S2 : SX (mx_up m1 (12 + 3 + i) 2 (nI (sY (aS A) i ^^^ 2 ^ w))) 12 (learnS (aS A) i w) := by
        refine ⟨S1.1.congr (up_ne (by omega)) (up_ne (by omega)), fun j hj => ?_, ?_, ?_, ?_⟩
        · show _ ∧ _ ∧ _ = nI (if j = i then sY (aS A) j ^^^ 2 ^ w else sY (aS A) j)
          by_cases he : j = i
          · rw [he, if_pos rfl, hb_up_ne (by omega), hb_up_ne (by omega), hb_up_same]
            exact ⟨(S1.2.1 i hi).1, (S1.2.1 i hi).2.1, rfl⟩
          · rw [if_neg he, up_ne (by omega)]
            exact S1.2.1 j hj
        · rw [up_ne (by omega)]; exact S1.2.2.1
        · rw [up_ne (by omega)]; exact S1.2.2.2.1
        · rw [up_ne (by omega)]; exact S1.2.2.2.2
      refine ⟨_, r1, ?_, R1.std (wf_act W W.2.2.1) S2 (fun d hd => up_ne (by omega)), fun a ha => ⟨by rw [up_ne (by omega), g1 a (by omega) (by omega)], f1 a (by omega)⟩⟩
      rw [bnd e1, bnd (xn Y1.1), if_pos (sgd st12), bnd (st_mo Y1.1 st12 hi), bnd (mg (st_my st12 hi) (by decide)), (S1.2.1 i hi).2.2, bnd (bo_bit (by omega) _), nb_xor, bnd (mp (st_my st12 hi) (by decide) _), bnd (mg (st_my st12 hi) (by decide)), hb_up_same, bnd (bo_bit (by omega) _)]
      by_cases hb : (sY (aS A) i ^^^ 2 ^ w).testBit w = true
      · rw [if_neg (fun q => by rw [nb_bit0 hxr, hb] at q; cases q), if_pos hb]
        rfl
      · rw [if_pos (by rw [nb_bit0 hxr]; simpa using hb), if_neg hb]
        rfl
theorem x_undo (R : RelX m r A) (W : WFa A) : XOk (f_X11_undo 0 (130, m, r)) m r (o_undo A).1 (o_undo A).2 := by
  obtain ⟨B, D, Y, S, P, p1, p2, p3⟩ := id R
  have X := Y.1
  have hU := W.2.2.2.1.1
  unfold f_X11_undo o_undo
  simp only [nb_lit]
  rw [bnd (xu X), bnd (xn X), if_pos (pgd (pl_u X))]
  by_cases h0 : (aU A).1 = 0
  · rw [if_pos h0, bnd (pl_take0 (pl_u X) (by rw [p2, h0]))]
    exact XOk.mk0 R rfl
  · rw [if_neg h0]
    have pu := p1 ((aU A).1 - 1) (by omega)
    have uv := un_st pu.2.1
    obtain ⟨m1, e1, c1, S1, f1⟩ := pl_take (u := (aU A).1 - 1) (pl_u X) X (by omega) (by rw [p2, show (aU A).1 - 1 + 1 = (aU A).1 by omega]) pu.1 uv.1 (by omega) (by omega) (p3 _ (by omega)) ((W.2.2.2.1.2 _ (by omega)).1)
    rw [bnd e1]
    dsimp only
    rw [if_neg (n_ne (by decide) (by decide) (by decide) : ¬ nI 1 = nI 0), bnd (xu X), bnd (pg_n (pl_u X)), c1]
    refine ⟨m1, r, rfl, ⟨B, D, ?_, S1, P, p1, c1, fun i hi => ?_⟩, fun a ha => ⟨f1 a (by omega) (by omega), rfl⟩⟩
    · exact Y.same W.2.2.2.2.1.1 (fun d hd => f1 d (by unfold qt at hd; omega) (by unfold qt at hd; omega))
    · have hi : i < (aU A).1 - 1 := hi
      have ui := un_st (p1 i (by omega)).2.1
      exact (p3 i (by omega)).congr (fun c c1 c2 => f1 c (by omega) (by omega))
theorem x_keep (R : RelX m r A) (W : WFa A) : XOk (f_X11_keep 0 (130, m, r)) m r (o_keep A).1 (o_keep A).2 := by
  obtain ⟨B, D, Y, S, U⟩ := id R
  obtain ⟨X, q, t, Rb, ⟨k1, k2⟩, G⟩ := id Y
  have hK := W.2.2.2.2.1.1
  have hb := b_ly q.2.2.1
  unfold f_X11_keep o_keep
  simp only [nb_lit]
  rw [bnd (xk X), bnd (pg_n (pl_k X)), k1]
  by_cases h2 : (aK A).1 = 2
  · rw [if_pos h2, h2, if_neg (n_nlt (Nat.le_refl _) (by decide))]
    exact XOk.mk0 R rfl
  · have kr : r (59 + 1) (aK A).1 = some (61 + 5 * (aK A).1) := by
      have : (aK A).1 = 0 ∨ (aK A).1 = 1 := by omega
      rcases this with h | h
      · rw [h]; exact X.2.2.2.2.1.2.2.1
      · rw [h]; exact X.2.2.2.2.1.2.2.2
    obtain ⟨m1, e1, c1, S1, f1⟩ := pl_put (pl_k X) X (by omega) k1 kr (kst (by omega)) (by omega) (by omega) S W.2.2.1.1
    rw [if_neg h2, if_pos (n_lt (by omega) (by decide)), bnd (xk X), bnd (xn X), if_pos (pgd (pl_k X)), bnd e1, bnd (xk X), bnd (pg_n (pl_k X)), c1]
    refine ⟨m1, r, rfl, ⟨B, D, ⟨X, q, ⟨?_, fun i hi => ?_⟩, Rb.congr (fun c c1 c2 => f1 c (by omega) (by omega)), ⟨c1, fun i hi => ?_⟩, G.congr (f1 _ (by omega) (by omega)) (f1 _ (by omega) (by omega))⟩, S.congr (fun c c1 c2 => f1 c (by omega) (by omega)), U.congr W.2.2.2.1.1 (fun d d1 d2 => f1 d (by omega) (by omega))⟩, fun a ha => ⟨f1 a (by omega) (by omega), rfl⟩⟩
    · rw [f1 1 (by omega) (by omega)]; exact t.1
    · rw [f1 2 (by omega) (by omega)]; exact t.2 i hi
    · have hi : i < (aK A).1 + 1 := hi
      show SX _ _ (if i = (aK A).1 then aS A else (aK A).2 i)
      by_cases he : i = (aK A).1
      · rw [if_pos he, he]; exact S1
      · rw [if_neg he]
        exact (k2 i (by omega)).congr (fun c c1 c2 => f1 c (by omega) (by omega))
theorem x_back (R : RelX m r A) (W : WFa A) : XOk (f_X11_back 0 (130, m, r)) m r (o_back A).1 (o_back A).2 := by
  obtain ⟨B, D, Y, S, P, p1, p2, p3⟩ := id R
  obtain ⟨X, q, t, Rb, ⟨k1, k2⟩, G⟩ := id Y
  have hK := W.2.2.2.2.1.1
  have hb := b_ly q.2.2.1
  unfold f_X11_back o_back
  simp only [nb_lit]
  rw [bnd (xk X), bnd (xn X), if_pos (pgd (pl_k X))]
  by_cases h0 : (aK A).1 = 0
  · rw [if_pos h0, bnd (pl_take0 (pl_k X) (by rw [k1, h0]))]
    dsimp only
    rw [if_neg (not_not_intro rfl)]
    exact XOk.mk0 R rfl
  · have kr : r (59 + 1) ((aK A).1 - 1) = some (61 + 5 * ((aK A).1 - 1)) := by
      have : (aK A).1 = 1 ∨ (aK A).1 = 2 := by omega
      rcases this with h | h
      · rw [h]; exact X.2.2.2.2.1.2.2.1
      · rw [h]; exact X.2.2.2.2.1.2.2.2
    obtain ⟨m1, e1, c1, S1, f1⟩ := pl_take (u := (aK A).1 - 1) (pl_k X) X (by omega) (by rw [k1, show (aK A).1 - 1 + 1 = (aK A).1 by omega]) kr (kst (by omega)) (by omega) (by omega) (k2 _ (by omega)) ((W.2.2.2.2.1.2 _ (by omega)).1)
    rw [if_neg h0, bnd e1]
    dsimp only
    unfold f_X6_clear
    rw [if_pos (n_ne (by decide) (by decide) (by decide) : ¬ nI 1 = nI 0), bnd (xu X), if_pos (pgd (pl_u X)), bnd (pp_n (pl_u X) _), Option.bind_some, bnd (xk X), bnd (pg_n (pl_k X)), up_ne (by decide), c1]
    have F : ∀ d, d ≠ 59 → d ≠ 17 → (d < 12 ∨ 16 < d) → (mx_up m1 17 1 0) d = m d := fun d d1 d2 d3 => by rw [up_ne d2, f1 d d1 d3]
    refine ⟨_, r, rfl, ⟨B, D, ⟨X, q, ⟨?_, fun i hi => ?_⟩, Rb.congr (fun c c1 c2 => F c (by omega) (by omega) (by omega)), ⟨?_, fun i hi => ?_⟩, G.congr (F _ (by omega) (by omega) (by omega)) (F _ (by omega) (by omega) (by omega))⟩, S1.congr (fun c c1 c2 => up_ne (by omega)), P, p1, hb_up_same, fun i hi => absurd hi (Nat.not_lt_zero i)⟩, fun a ha => ⟨F a (by omega) (by omega) (by omega), rfl⟩⟩
    · rw [F 1 (by omega) (by omega) (by omega)]; exact t.1
    · rw [F 2 (by omega) (by omega) (by omega)]; exact t.2 i hi
    · rw [up_ne (by decide)]; exact c1
    · have hi : i < (aK A).1 - 1 := hi
      exact (k2 i (by omega)).congr (fun c c1 c2 => F c (by omega) (by omega) (by omega))
end X5
