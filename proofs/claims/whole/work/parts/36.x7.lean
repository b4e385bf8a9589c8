/-! the other side: councils -/
theorem st109 : isSt 109 := by
  show 109 ∈ stL
  decide +kernel
theorem i_swap (a b c : Int32) : a - b + c = c + a - b := by
  rw [Int32.sub_eq_add_neg, Int32.sub_eq_add_neg, Int32.add_comm, ← Int32.add_assoc]
theorem x_draw {z t : Nat} (hz : z ≤ 9999) (ht : t < 60) {h : mx_Hp} : f_X1_drawOf (nI z) (nI t) h = some (nI (drawN z t)) := by
  unfold f_X1_drawOf
  simp only [nb_lit]
  rw [nI_l (show 7919 < 2 ^ 31 by decide), nI_l (show z < 2 ^ 31 by omega), nI_l (show 6151 < 2 ^ 31 by decide), nI_l (show t < 2 ^ 31 by omega), nI_l (show 1 < 2 ^ 31 by decide), nI_l (show 65521 < 2 ^ 31 by decide), nI_l (show 2 < 2 ^ 31 by decide)]
  simp only [lN_mul, lN_add]
  have hx : 7919 * z + 6151 * t + 1 ≤ 80000000 := by omega
  have hxx : (7919 * z + 6151 * t + 1) * (7919 * z + 6151 * t + 1) ≤ 80000000 * 80000000 := Nat.mul_le_mul hx hx
  have h63 : (80000000 : Nat) * 80000000 < 2 ^ 63 := by decide
  have := pk_lRem (a := (7919 * z + 6151 * t + 1) * (7919 * z + 6151 * t + 1)) (b := 65521) (by omega) (by decide) (by decide)
  rw [if_neg (show ¬ lN 65521 = 0 by decide), if_neg (show ¬ lN 2 = 0 by decide), this, pk_lDiv (by omega) (by decide) (by decide), lN_i]
  rfl
section X7
variable {m m' : Nat → Nat → Int32} {r r' : Nat → Nat → Option Nat} {a c d n B D k w i u v : Nat} {f g P : Nat → Nat} {b : Bo} {s : St} {x y : Int32} {A : Ab}
theorem cgd : 108 < 130 ∧ (mx_lay 108).1 = 4 := ⟨by decide, by decide +kernel⟩
theorem cr0 (X : XR r) : mx_gr (130, m, r) 108 1 0 = some 109 := hb_gr (by decide) (by decide +kernel) (by decide) X.2.2.2.2.2.2.2.2.2.1
theorem cr1 (X : XR r) : mx_gr (130, m, r) 108 1 1 = some 71 := hb_gr (by decide) (by decide +kernel) (by decide) X.2.2.2.2.2.2.2.2.2.2
def cq (e : Nat) : Prop := (72 ≤ e ∧ e ≤ 74) ∨ (109 ≤ e ∧ e ≤ 113)
theorem x_tail (X : XR r) (hB : isB B) (R : BR m B b) (W : WFb b) (S : SX m 109 s) (F : WFs (bN b) s) (hd : d < 2 ^ 30) : ∃ m', tlX 108 B (nI d) (130, m, r) = some (130, m', r) ∧ SX m' 109 (tailS b s (d % bN b)) ∧ ∀ e, ¬ cq e → m' e = m e := by
  have hn := W.1
  have hs := F.1
  have hw : d % bN b < bN b := Nat.mod_lt _ (by omega)
  have hmd : nI d - nI d / nI (bN b) * nI (bN b) = nI (d % bN b) := pk_rem (by omega) (by omega) (by omega)
  unfold tlX tailS
  simp only [nb_lit]
  rw [bnd (bg hB (by decide)), R.1.1, if_neg (n_nle (by omega) (by omega)), bnd (bg hB (by decide)), R.1.1, if_neg (n_ne (by omega) (by omega) (by decide)), Option.bind_some, hmd, if_pos (bgd hB), bnd (bo_has hB R W hw), if_neg (n_ne (by decide) (by decide) (by decide) : ¬ nI 1 = nI 0), bnd (cr0 X), if_pos (sgd st109), bnd (st_fits X hB R W st109 S F hw)]
  generalize d % bN b = w at *
  obtain ⟨m2, d1, d2, d3⟩ := st_fall X st109 S
  by_cases hf : fitsW b s w = true
  · rw [if_pos hf, if_neg (n_ne (by decide) (by decide) (by decide) : ¬ nI 1 = nI 0), bnd (cr0 X), bnd (sr0 X st109), bnd (rg_n (st_rw X st109)), S.1.1]
    by_cases h12 : sN s < 12
    · obtain ⟨m1, e1, e2, e3⟩ := st_speak (w := w) X st109 S h12
      rw [if_neg (n_nle h12 (by omega)), bnd (cr0 X), if_pos (sgd st109), bnd e1]
      refine ⟨m1, rfl, ?_, fun e he => e3 e (by unfold cq at he; omega)⟩
      rw [if_pos ⟨hf, h12⟩]; exact e2
    · rw [if_pos (n_le (by omega) (by omega)), bnd (cr0 X), bnd (sr0 X st109), bnd (rg_n (st_rw X st109)), S.1.1, if_neg (n_nle (by omega) (by omega)), bnd (cr0 X), if_pos (sgd st109), bnd d1]
      refine ⟨m2, rfl, ?_, fun e he => d3 e (by unfold cq at he; omega)⟩
      rw [if_neg (fun q => h12 q.2), if_neg (by omega)]; exact d2
  · rw [if_neg hf, if_pos rfl, bnd (cr0 X), bnd (sr0 X st109), bnd (rg_n (st_rw X st109)), S.1.1]
    by_cases h0 : sN s = 0
    · rw [h0, if_pos (n_le (Nat.le_refl _) (by decide))]
      refine ⟨m, rfl, ?_, fun e _ => rfl⟩
      rw [if_neg (fun q => hf q.1), if_pos rfl]; exact S
    · rw [if_neg (n_nle (by omega) (by omega)), bnd (cr0 X), if_pos (sgd st109), bnd d1]
      refine ⟨m2, rfl, ?_, fun e he => d3 e (by unfold cq at he; omega)⟩
      rw [if_neg (fun q => hf q.1), if_neg h0]; exact d2
theorem x_cfin (X : XR r) (hB : isB B) (R : BR m B b) (W : WFb b) (S : SX m 109 s) (F : WFs (bN b) s) : ∃ m', f_X1_finishes 108 B (130, m, r) = some ((if 0 < finNow b s then nI 1 else nI 0), (130, m', r)) ∧ SX m' 109 (if 0 < finNow b s then passS b s else s) ∧ ∀ e, ¬ cq e → m' e = m e := by
  have hb := b_ly hB
  have hl := finNow_le (s := s) W
  obtain ⟨y1, y2, m1, e1, e2, e3, e4, e5⟩ := st_find X hB R W st109 S F
  have S1 : SX m1 109 s := S.congr (fun c c1 c2 => e5 c (by omega) (by omega) (by omega))
  have R1 : BR m1 B b := R.congr (fun c c1 c2 => e5 c (by omega) (by omega) (by omega))
  unfold f_X1_finishes
  simp only [nb_lit]
  rw [bnd (cr1 X), bnd (cr0 X), if_pos (sgd st109), bnd e1, bnd (cr0 X), if_pos (sgd st109), bnd e2, if_pos fgd, bnd e3, bnd (cr1 X), bnd (fr0 X), bnd (rg_n (f_rw X)), e4.1]
  by_cases h0 : 0 < finNow b s
  · obtain ⟨m3, k1, k2, k3⟩ := st_pass X hB R1 W st109 S1 F (f_rw X) e4 (by omega) (fun i hi => finW_lt W hi)
    rw [if_pos (n_ne (by omega) (by omega) (by decide)), bnd (cr0 X), bnd (cr1 X), bnd (fr0 X), if_pos (sgd st109), bnd k1, if_pos h0, if_pos h0]
    exact ⟨m3, rfl, k2, fun e he => by rw [k3 e (by unfold cq at he; omega), e5 e (by unfold cq at he; omega) (by unfold cq at he; omega) (by unfold cq at he; omega)]⟩
  · rw [if_neg (not_not_intro (by rw [show finNow b s = 0 by omega])), if_neg h0, if_neg h0]
    exact ⟨m1, rfl, S1, fun e he => e5 e (by unfold cq at he; omega) (by unfold cq at he; omega) (by unfold cq at he; omega)⟩
theorem x_step (X : XR r) (hB : isB B) (R : BR m B b) (W : WFb b) (S : SX m 109 s) (F : WFs (bN b) s) (hd : d < 2 ^ 30) : ∃ m', f_X1_step 108 B (nI d) (130, m, r) = some (130, m', r) ∧ SX m' 109 (turnS b s d) ∧ ∀ e, ¬ cq e → m' e = m e := by
  have hb := b_ly hB
  have hn := W.1
  have hhow : nI d / 64 - nI d / 64 / 3 * 3 = nI (d / 64 % 3) := by
    have : nI d / nI 64 - nI d / nI 64 / nI 3 * nI 3 = nI (d / 64 % 3) := by
      rw [pk_div (by omega) (by decide) (by decide)]
      exact pk_rem (by omega) (by decide) (by decide)
    exact this
  have hh : d / 64 % 3 = 0 ∨ d / 64 % 3 = 1 ∨ d / 64 % 3 = 2 := by omega
  obtain ⟨m1, t1, t2, t3⟩ := x_tail X hB R W S F hd
  unfold f_X1_step turnS
  rw [if_neg (by decide), if_neg (by decide), hhow]
  generalize d / 64 % 3 = how at *
  rcases hh with rfl | rfl | rfl
  · obtain ⟨m2, e1, e2, e3⟩ := x_cfin X hB R W S F
    rw [if_neg (show ¬ ¬ nI 0 = 0 by decide), if_pos cgd, bnd e1]
    dsimp only
    by_cases hf : 0 < finNow b s
    · rw [if_pos hf] at e2
      rw [if_pos hf, if_neg (show ¬ nI 1 = 0 by decide), if_pos ⟨rfl, hf⟩]
      exact ⟨m2, rfl, e2, e3⟩
    · rw [if_neg hf] at e2
      have R2 : BR m2 B b := R.congr (fun c c1 c2 => e3 c (by unfold cq; omega))
      obtain ⟨m3, j1, j2, j3⟩ := x_tail X hB R2 W e2 F hd
      rw [if_neg hf, if_pos (show nI 0 = 0 from rfl), if_pos (show ¬ nI 0 = 1 by decide), if_neg (fun q => hf q.2), if_neg (fun q => absurd q.1 (by decide))]
      exact ⟨m3, j1, j2, fun e he => by rw [j3 e he, e3 e he]⟩
  · rw [if_pos (show ¬ nI 1 = 0 by decide), if_neg (show ¬ ¬ nI 1 = 1 by decide), bnd (cr0 X), if_pos (sgd st109), bnd (st_endable X hB R W st109 S F)]
    by_cases hf : mayEnd b s = true
    · obtain ⟨m3, j1, j2, j3⟩ := st_decree X hB R W st109 S F
      rw [if_pos hf, if_neg (show ¬ nI 1 = 0 by decide), bnd (cr0 X), if_pos (sgd st109), bnd j1, if_neg (fun q => absurd q.1 (by decide)), if_pos ⟨rfl, hf⟩]
      exact ⟨m3, rfl, j2, fun e he => j3 e (by unfold cq at he; omega)⟩
    · rw [if_neg hf, if_pos (show nI 0 = 0 from rfl), if_neg (fun q => absurd q.1 (by decide)), if_neg (fun q => hf q.2)]
      exact ⟨m1, t1, t2, t3⟩
  · rw [if_pos (show ¬ nI 2 = 0 by decide), if_pos (show ¬ nI 2 = 1 by decide), if_neg (fun q => absurd q.1 (by decide)), if_neg (fun q => absurd q.1 (by decide))]
    exact ⟨m1, t1, t2, t3⟩
theorem x_outcome (X : XR r) (hB : isB B) (R : BR m B b) (W : WFb b) (S : SX m 12 s) (F : WFs (bN b) s) {z t : Nat} (hz : z ≤ 9999) (ht : t ≤ 60) : ∃ m', f_X1_outcome 108 B 12 (nI z) (nI t) (130, m, r) = some (109, (130, m', r)) ∧ SX m' 109 (couS b s z t) ∧ ∀ e, ¬ cq e → m' e = m e := by
  have hb := b_ly hB
  obtain ⟨m1, e1, s1, f1⟩ := st_copy X st109 st12 (by decide) S F.1
  unfold f_X1_outcome
  rw [bnd (cr0 X), if_pos (sgd st109), bnd e1]
  refine fix_rel (fun i q => ∃ m2 : Nat → Nat → Int32, q = (nI i, (130, m2, r)) ∧ SX m2 109 (couS b s z i) ∧ ∀ e, ¬ cq e → m2 e = m e) t (Q := fun o => ∃ m' : Nat → Nat → Int32, o = some (109, (130, m', r)) ∧ SX m' 109 (couS b s z t) ∧ ∀ e, ¬ cq e → m' e = m e) ?_ ?_ (by omega) ?_
  · rintro i q hi ⟨m2, rfl, g1, g2⟩
    have R2 : BR m2 B b := R.congr (fun c c1 c2 => g2 c (by unfold cq; omega))
    obtain ⟨m3, j1, j2, j3⟩ := x_step (d := drawN z i) X hB R2 W g1 (wf_cou W F i) (by have := drawN_lt z i; omega)
    refine ⟨(nI (i + 1), (130, m3, r)), ⟨m3, rfl, j2, fun e he => by rw [j3 e he, g2 e he]⟩, fun self => ?_⟩
    unfold f_X1_outcome_L11
    simp only [nb_lit]
    rw [if_neg (n_nle hi (by omega)), bnd (x_draw hz (by omega)), if_pos cgd, bnd j1, nI_add]
  · rintro q ⟨m2, rfl, g1, g2⟩ self
    unfold f_X1_outcome_L11
    dsimp only
    rw [if_pos (n_le (Nat.le_refl _) (by omega)), bnd (cr0 X)]
    exact ⟨m2, rfl, g1, g2⟩
  · exact ⟨m1, rfl, s1, fun e he => f1 e (by unfold cq at he; omega)⟩
theorem x_coun (R : RelX m r A) (W : WFa A) (x n y : Int32) : XOk (f_X11_council 0 x n y (130, m, r)) m r (v_coun A x n y) A := by
  obtain ⟨B, D, Y, S, U⟩ := id R
  obtain ⟨X, ⟨q1, q2, q3, q4, q5⟩, t, Rb, k, G⟩ := id Y
  unfold f_X11_council v_coun
  by_cases hx : x < 0 ∨ 9999 < x
  · rw [if_pos (Or.inl hx)]
    by_cases h1 : x < 0
    · rw [if_pos h1]; exact XOk.mk0 R rfl
    · rw [if_neg h1, if_pos (hx.resolve_left h1)]; exact XOk.mk0 R rfl
  · have hx' := not_or.mp hx
    rw [if_neg hx'.1, if_neg hx'.2]
    by_cases hn : n < 1 ∨ 60 < n
    · rw [if_pos (Or.inr (Or.inl hn))]
      by_cases h1 : n < 1
      · rw [if_pos h1]; exact XOk.mk0 R rfl
      · rw [if_neg h1, if_pos (hn.resolve_left h1)]; exact XOk.mk0 R rfl
    · have hn' := not_or.mp hn
      rw [if_neg hn'.1, if_neg hn'.2]
      by_cases hy : y < 0 ∨ 2 < y
      · rw [if_pos (Or.inr (Or.inr hy))]
        by_cases h1 : y < 0
        · rw [if_pos h1]; exact XOk.mk0 R rfl
        · rw [if_neg h1, if_neg (Int32.not_le.mpr (hy.resolve_left h1))]; exact XOk.mk0 R rfl
      · have hy' := not_or.mp hy
        rw [if_neg hy'.1, if_pos (not_lt_le hy'.2), if_neg (not_or.mpr ⟨hx, not_or.mpr ⟨hn, hy⟩⟩)]
        obtain ⟨z, hz, rfl, ez⟩ : ∃ z, z ≤ 9999 ∧ x = nI z ∧ x.toNatClampNeg = z := by
          rcases nb_three x 10000 (by decide) with q | q | ⟨j, hj, rfl⟩
          · exact absurd (Or.inl q) hx
          · exact absurd (Or.inr (Int32.lt_of_lt_of_le (show (9999 : Int32) < nI 10000 by decide) q)) hx
          · exact ⟨j, by omega, rfl, nb_cl (by omega)⟩
        obtain ⟨c, hc60, rfl, ec⟩ : ∃ c, c ≤ 60 ∧ n = nI c ∧ n.toNatClampNeg = c := by
          rcases nb_three n 61 (by decide) with q | q | ⟨j, hj, rfl⟩
          · exact absurd (Or.inl (Int32.lt_trans q (by decide))) hn
          · exact absurd (Or.inr (Int32.lt_of_lt_of_le (show (60 : Int32) < nI 61 by decide) q)) hn
          · exact ⟨j, by omega, rfl, nb_cl (by omega)⟩
        rw [ez, ec]
        obtain ⟨m1, e1, s1, f1⟩ := x_outcome X q3 Rb W.2.1 S W.2.2.1 hz hc60
        refine ⟨m1, r, ?_, R.quiet W (fun d hd => f1 d (by unfold cq; omega)), fun a ha => ⟨f1 a (by unfold cq; omega), rfl⟩⟩
        rw [bnd (xc X), bnd (xb Y), bnd (xn X), if_pos cgd, bnd e1]
        dsimp only
        by_cases y0 : y = 0
        · rw [if_pos y0, if_pos y0, bnd (sg st109 (by decide)), s1.2.2.1]
        · rw [if_neg y0, if_neg y0]
          by_cases y1 : y = 1
          · rw [if_pos y1, if_pos y1, if_pos (sgd st109), bnd (st_both X st109 s1)]
          · rw [if_neg y1, if_neg y1, bnd (sr1 X st109), bnd (mg (st_my0 st109) (by decide)), bnd (sr2 X st109), bnd (mg (st_my1 st109) (by decide)), show m1 (109 + 3) 1 = _ from (s1.2.1 0 (by decide)).2.1, show m1 (109 + 4) 1 = _ from (s1.2.1 1 (by decide)).2.1, i_swap]
end X7
