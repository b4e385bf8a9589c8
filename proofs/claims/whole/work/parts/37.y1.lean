/-! the law: one round, call by call -/
theorem MR.congr {r r' : Nat → Nat → Option Nat} (H : MR r) (h : r' 114 = r 114) : MR r' := by
  unfold MR
  rw [h]
  exact H
section Y1
variable {m m' : Nat → Nat → Int32} {r r' : Nat → Nat → Option Nat} {A A' : Ab} {v : Int32}
theorem RelX.low (R : RelX m r A) (W : WFa A) (h : ∀ a, a < 114 → m' a = m a) : RelX m' r A := by
  obtain ⟨B, D, ⟨X, q, t, Rb, ⟨k1, k2⟩, G⟩, S, U⟩ := R
  have hb := b_ly q.2.2.1
  have hK := W.2.2.2.2.1.1
  refine ⟨B, D, ⟨X, q, ⟨by rw [h 1 (by decide)]; exact t.1, fun i hi => by rw [h 2 (by decide)]; exact t.2 i hi⟩, Rb.congr (fun c c1 c2 => h c (by omega)), ⟨by rw [h 59 (by decide)]; exact k1, fun i hi => (k2 i hi).congr (fun c c1 c2 => h c (by omega))⟩, G.congr (h _ (by decide)) (h _ (by decide))⟩, S.congr (fun c c1 c2 => h c (by omega)), U.congr W.2.2.2.1.1 (fun d d1 d2 => h d (by omega))⟩
def LI (m : Nat → Nat → Int32) (r : Nat → Nat → Option Nat) : Prop := ∃ A, MR r ∧ RelX m r A ∧ RelM m A ∧ WFa A
theorem op_step (H : MR r) (M : RelM m A) (W' : WFa A') {res : Option (Int32 × mx_Hp)} {fm : mx_Hp → Option (Int32 × mx_Hp)} (hx : XOk res m r v A') (hm : ∀ m1 r1, MR r1 → RelM m1 A → MOk (fm (130, m1, r1)) m1 r1 v A') : ∃ m1 r1 m2, res = some (v, (130, m1, r1)) ∧ fm (130, m1, r1) = some (v, (130, m2, r1)) ∧ LI m2 r1 := by
  obtain ⟨m1, r1, e1, R1, f1⟩ := hx
  have H1 : MR r1 := H.congr (f1 114 (by decide)).2
  obtain ⟨m2, e2, M2, f2⟩ := hm m1 r1 H1 (M.same (fun a ha _ => (f1 a ha).1))
  exact ⟨m1, r1, m2, e1, e2, A', H1, R1.low W' f2, M2, W'⟩
set_option maxHeartbeats 4000000 in
set_option maxRecDepth 20000 in
theorem law_step {L i : Nat} {xs : Nat → Int32} (hL : L ≤ 2048) (hi : 4 * i + 4 ≤ L) (I : LI m r) (self : Int32 × mx_Hp → Option (Int32 × mx_Hp)) : ∃ m' r', LI m' r' ∧ f_L_law_L18 (true, L, xs) 0 114 self (nI (4 * i), (130, m, r)) = self (nI (4 * (i + 1)), (130, m', r')) := by
  obtain ⟨A, H, R, M, W⟩ := id I
  have e4 : nI (4 * i) + 4 = nI (4 * (i + 1)) := nI_add (4 * i) 4
  have hend : ¬ (Int32.ofNat L - 4 < nI (4 * i)) := by
    show ¬ (nI L - nI 4 < nI (4 * i))
    rw [nb_sub (by omega)]
    exact n_nlt (by omega) (by omega)
  have gg : ∀ j, j < 4 → 0 ≤ nI (4 * i + j) ∧ (nI (4 * i + j)).toNatClampNeg < L := fun j hj => ⟨nb_pos (by omega), by rw [nb_cl (by omega)]; omega⟩
  have g0 : 0 ≤ nI (4 * i) ∧ (nI (4 * i)).toNatClampNeg < L := gg 0 (by decide)
  have g1 : 0 ≤ nI (4 * i) + 1 ∧ (nI (4 * i) + 1).toNatClampNeg < L := by rw [show nI (4 * i) + 1 = nI (4 * i + 1) from nI_add (4 * i) 1]; exact gg 1 (by decide)
  have g2 : 0 ≤ nI (4 * i) + 2 ∧ (nI (4 * i) + 2).toNatClampNeg < L := by rw [show nI (4 * i) + 2 = nI (4 * i + 2) from nI_add (4 * i) 2]; exact gg 2 (by decide)
  have g3 : 0 ≤ nI (4 * i) + 3 ∧ (nI (4 * i) + 3).toNatClampNeg < L := by rw [show nI (4 * i) + 3 = nI (4 * i + 3) from nI_add (4 * i) 3]; exact gg 3 (by decide)
  unfold f_L_law_L18
  dsimp only
  rw [if_neg hend, if_pos g0]
  by_cases c0 : xs (nI (4 * i)).toNatClampNeg &&& 31 = 0
  · obtain ⟨m1, r1, m2, e1, e2, I2⟩ := op_step (fm := fun h => f_X12_write 114 (xs (nI (4 * i) + 1).toNatClampNeg) h) H M (wo_write W (xs (nI (4 * i) + 1).toNatClampNeg)) (x_write R W (xs (nI (4 * i) + 1).toNatClampNeg)) (fun m1 r1 H1 M1 => mc_write H1 M1 W (xs (nI (4 * i) + 1).toNatClampNeg))
    refine ⟨m2, r1, I2, ?_⟩
    rw [if_pos c0, if_pos g1, if_pos gd0, bnd e1, if_pos g1, if_pos gdn, bnd e2, if_pos rfl, e4]
  rw [if_neg c0]
  by_cases c1 : xs (nI (4 * i)).toNatClampNeg &&& 31 = 1
  · obtain ⟨m1, r1, m2, e1, e2, I2⟩ := op_step (fm := fun h => f_X12_wipe 114 h) H M (wo_wipe W) (x_wipe R W) (fun m1 r1 H1 M1 => mc_wipe H1 M1)
    refine ⟨m2, r1, I2, ?_⟩
    rw [if_pos c1, if_pos gd0, bnd e1, if_pos gdn, bnd e2, if_pos rfl, e4]
  rw [if_neg c1]
  by_cases c2 : xs (nI (4 * i)).toNatClampNeg &&& 31 = 2
  · obtain ⟨m1, r1, m2, e1, e2, I2⟩ := op_step (fm := fun h => f_X12_fault 114 h) H M W (x_fault R W) (fun m1 r1 H1 M1 => mc_fault H1 M1 W)
    refine ⟨m2, r1, I2, ?_⟩
    rw [if_pos c2, if_pos gd0, bnd e1, if_pos gdn, bnd e2, if_pos rfl, e4]
  rw [if_neg c2]
  by_cases c3 : xs (nI (4 * i)).toNatClampNeg &&& 31 = 3
  · obtain ⟨m1, r1, m2, e1, e2, I2⟩ := op_step (fm := fun h => f_X12_lay 114 h) H M (wo_lay W) (x_lay R W) (fun m1 r1 H1 M1 => mc_lay H1 M1 W)
    refine ⟨m2, r1, I2, ?_⟩
    rw [if_pos c3, if_pos gd0, bnd e1, if_pos gdn, bnd e2, if_pos rfl, e4]
  rw [if_neg c3]
  by_cases c4 : xs (nI (4 * i)).toNatClampNeg &&& 31 = 4
  · refine ⟨m, r, I, ?_⟩
    rw [if_pos c4, if_pos g1, if_pos g2, if_pos gd0, bnd (x_word R W (xs (nI (4 * i) + 1).toNatClampNeg) (xs (nI (4 * i) + 2).toNatClampNeg)), if_pos g1, if_pos g2, if_pos gdn, bnd (mc_word H M W (xs (nI (4 * i) + 1).toNatClampNeg) (xs (nI (4 * i) + 2).toNatClampNeg)), if_pos rfl, e4]
  rw [if_neg c4]
  by_cases c5 : xs (nI (4 * i)).toNatClampNeg &&& 31 = 5
  · refine ⟨m, r, I, ?_⟩
    rw [if_pos c5, if_pos g1, if_pos g2, if_pos gd0, bnd (x_mayor R W (xs (nI (4 * i) + 1).toNatClampNeg) (xs (nI (4 * i) + 2).toNatClampNeg)), if_pos g1, if_pos g2, if_pos gdn, bnd (mc_mayor H M W (xs (nI (4 * i) + 1).toNatClampNeg) (xs (nI (4 * i) + 2).toNatClampNeg)), if_pos rfl, e4]
  rw [if_neg c5]
  by_cases c6 : xs (nI (4 * i)).toNatClampNeg &&& 31 = 6
  · refine ⟨m, r, I, ?_⟩
    rw [if_pos c6, if_pos g1, if_pos gd0, bnd (x_said R W (xs (nI (4 * i) + 1).toNatClampNeg)), if_pos g1, if_pos gdn, bnd (mc_said H M W (xs (nI (4 * i) + 1).toNatClampNeg)), if_pos rfl, e4]
  rw [if_neg c6]
  by_cases c7 : xs (nI (4 * i)).toNatClampNeg &&& 31 = 7
  · obtain ⟨m1, r1, m2, e1, e2, I2⟩ := op_step (fm := fun h => f_X12_say 114 (xs (nI (4 * i) + 1).toNatClampNeg) h) H M (wo_say W (xs (nI (4 * i) + 1).toNatClampNeg)) (x_say R W (xs (nI (4 * i) + 1).toNatClampNeg)) (fun m1 r1 H1 M1 => mc_say H1 M1 W (xs (nI (4 * i) + 1).toNatClampNeg))
    refine ⟨m2, r1, I2, ?_⟩
    rw [if_pos c7, if_pos g1, if_pos gd0, bnd e1, if_pos g1, if_pos gdn, bnd e2, if_pos rfl, e4]
  rw [if_neg c7]
  by_cases c8 : xs (nI (4 * i)).toNatClampNeg &&& 31 = 8
  · obtain ⟨m1, r1, m2, e1, e2, I2⟩ := op_step (fm := fun h => f_X12_end 114 h) H M (wo_end W) (x_end R W) (fun m1 r1 H1 M1 => mc_end H1 M1 W)
    refine ⟨m2, r1, I2, ?_⟩
    rw [if_pos c8, if_pos gd0, bnd e1, if_pos gdn, bnd e2, if_pos rfl, e4]
  rw [if_neg c8]
  by_cases c9 : xs (nI (4 * i)).toNatClampNeg &&& 31 = 9
  · obtain ⟨m1, r1, m2, e1, e2, I2⟩ := op_step (fm := fun h => f_X12_finish 114 h) H M (wo_finish W) (x_finish R W) (fun m1 r1 H1 M1 => mc_finish H1 M1 W)
    refine ⟨m2, r1, I2, ?_⟩
    rw [if_pos c9, if_pos gd0, bnd e1, if_pos gdn, bnd e2, if_pos rfl, e4]
  rw [if_neg c9]
  by_cases c10 : xs (nI (4 * i)).toNatClampNeg &&& 31 = 10
  · obtain ⟨m1, r1, m2, e1, e2, I2⟩ := op_step (fm := fun h => f_X12_drop 114 h) H M (wo_drop W) (x_drop R W) (fun m1 r1 H1 M1 => mc_drop H1 M1 W)
    refine ⟨m2, r1, I2, ?_⟩
    rw [if_pos c10, if_pos gd0, bnd e1, if_pos gdn, bnd e2, if_pos rfl, e4]
  rw [if_neg c10]
  by_cases c11 : xs (nI (4 * i)).toNatClampNeg &&& 31 = 11
  · obtain ⟨m1, r1, m2, e1, e2, I2⟩ := op_step (fm := fun h => f_X12_learn 114 (xs (nI (4 * i) + 1).toNatClampNeg) (xs (nI (4 * i) + 2).toNatClampNeg) h) H M (wo_learn W (xs (nI (4 * i) + 1).toNatClampNeg) (xs (nI (4 * i) + 2).toNatClampNeg)) (x_learn R W (xs (nI (4 * i) + 1).toNatClampNeg) (xs (nI (4 * i) + 2).toNatClampNeg)) (fun m1 r1 H1 M1 => mc_learn H1 M1 W (xs (nI (4 * i) + 1).toNatClampNeg) (xs (nI (4 * i) + 2).toNatClampNeg))
    refine ⟨m2, r1, I2, ?_⟩
    rw [if_pos c11, if_pos g1, if_pos g2, if_pos gd0, bnd e1, if_pos g1, if_pos g2, if_pos gdn, bnd e2, if_pos rfl, e4]
  rw [if_neg c11]
  by_cases c12 : xs (nI (4 * i)).toNatClampNeg &&& 31 = 12
  · obtain ⟨m1, r1, m2, e1, e2, I2⟩ := op_step (fm := fun h => f_X12_undo 114 h) H M (wo_undo W) (x_undo R W) (fun m1 r1 H1 M1 => mc_undo H1 M1 W)
    refine ⟨m2, r1, I2, ?_⟩
    rw [if_pos c12, if_pos gd0, bnd e1, if_pos gdn, bnd e2, if_pos rfl, e4]
  rw [if_neg c12]
  by_cases c13 : xs (nI (4 * i)).toNatClampNeg &&& 31 = 13
  · obtain ⟨m1, r1, m2, e1, e2, I2⟩ := op_step (fm := fun h => f_X12_finishing 114 (xs (nI (4 * i) + 1).toNatClampNeg) h) H M W (x_fing R W (xs (nI (4 * i) + 1).toNatClampNeg)) (fun m1 r1 H1 M1 => mc_fing H1 M1 W (xs (nI (4 * i) + 1).toNatClampNeg))
    refine ⟨m2, r1, I2, ?_⟩
    rw [if_pos c13, if_pos g1, if_pos gd0, bnd e1, if_pos g1, if_pos gdn, bnd e2, if_pos rfl, e4]
  rw [if_neg c13]
  by_cases c14 : xs (nI (4 * i)).toNatClampNeg &&& 31 = 14
  · obtain ⟨m1, r1, m2, e1, e2, I2⟩ := op_step (fm := fun h => f_X12_safe 114 (xs (nI (4 * i) + 1).toNatClampNeg) (xs (nI (4 * i) + 2).toNatClampNeg) h) H M W (x_safe R W (xs (nI (4 * i) + 1).toNatClampNeg) (xs (nI (4 * i) + 2).toNatClampNeg)) (fun m1 r1 H1 M1 => mc_safe H1 M1 W (xs (nI (4 * i) + 1).toNatClampNeg) (xs (nI (4 * i) + 2).toNatClampNeg))
    refine ⟨m2, r1, I2, ?_⟩
    rw [if_pos c14, if_pos g1, if_pos g2, if_pos gd0, bnd e1, if_pos g1, if_pos g2, if_pos gdn, bnd e2, if_pos rfl, e4]
  rw [if_neg c14]
  by_cases c15 : xs (nI (4 * i)).toNatClampNeg &&& 31 = 15
  · have hb : ∃ m1 r1 m2 v, f_X11_best 0 (xs (nI (4 * i) + 1).toNatClampNeg) (xs (nI (4 * i) + 2).toNatClampNeg) (130, m, r) = some (v, (130, m1, r1)) ∧ f_X12_best 114 (xs (nI (4 * i) + 1).toNatClampNeg) (xs (nI (4 * i) + 2).toNatClampNeg) (130, m1, r1) = some (v, (130, m2, r1)) ∧ LI m2 r1 := by
      generalize xs (nI (4 * i) + 1).toNatClampNeg = x
      generalize xs (nI (4 * i) + 2).toNatClampNeg = y
      by_cases hbad : (x < 1 ∨ 10 < x) ∨ (y < -2 ∨ 9 < y)
      · obtain ⟨m1, r1, m2, e1, e2, I2⟩ := op_step (fm := fun h => f_X12_best 114 x y h) H M W (x_best_bad R hbad) (fun m1 r1 H1 M1 => mc_best_bad M1 hbad)
        exact ⟨m1, r1, m2, _, e1, e2, I2⟩
      · obtain ⟨hx, hy⟩ := not_or.mp hbad
        obtain ⟨h1, h2⟩ := not_or.mp hx
        obtain ⟨n, hn1, hn10, rfl⟩ : ∃ n, 1 ≤ n ∧ n ≤ 10 ∧ x = nI n := by
          rcases nb_three x 11 (by decide) with q | q | ⟨j, hj, rfl⟩
          · exact absurd (Int32.lt_trans q (by decide)) h1
          · exact absurd (Int32.lt_of_lt_of_le (show (10 : Int32) < nI 11 by decide) q) h2
          · refine ⟨j, ?_, by omega, rfl⟩
            apply Decidable.byContradiction
            intro q
            have : j = 0 := by omega
            subst this
            exact h1 (by decide)
        obtain ⟨st, s1, hx1⟩ := x_best R W hn1 hn10 hy
        obtain ⟨m1, r1, m2, e1, e2, I2⟩ := op_step (fm := fun h => f_X12_best 114 (nI n) y h) H M W hx1 (fun m1 r1 H1 M1 => by
          obtain ⟨st2, s2, hm2⟩ := mc_best H1 M1 W hn1 hn10 hy
          rw [s1.uniq s2]
          exact hm2)
        exact ⟨m1, r1, m2, _, e1, e2, I2⟩
    obtain ⟨m1, r1, m2, v, e1, e2, I2⟩ := hb
    refine ⟨m2, r1, I2, ?_⟩
    rw [if_pos c15, if_pos g1, if_pos g2, if_pos gd0, bnd e1, if_pos g1, if_pos g2, if_pos gdn, bnd e2, if_pos rfl, e4]
  rw [if_neg c15]
  by_cases c16 : xs (nI (4 * i)).toNatClampNeg &&& 31 = 16
  · obtain ⟨m1, r1, m2, e1, e2, I2⟩ := op_step (fm := fun h => f_X12_lure 114 (xs (nI (4 * i) + 1).toNatClampNeg) (xs (nI (4 * i) + 2).toNatClampNeg) h) H M W (x_lure R W (xs (nI (4 * i) + 1).toNatClampNeg) (xs (nI (4 * i) + 2).toNatClampNeg)) (fun m1 r1 H1 M1 => mc_lure H1 M1 W (xs (nI (4 * i) + 1).toNatClampNeg) (xs (nI (4 * i) + 2).toNatClampNeg))
    refine ⟨m2, r1, I2, ?_⟩
    rw [if_pos c16, if_pos g1, if_pos g2, if_pos gd0, bnd e1, if_pos g1, if_pos g2, if_pos gdn, bnd e2, if_pos rfl, e4]
  rw [if_neg c16]
  by_cases c17 : xs (nI (4 * i)).toNatClampNeg &&& 31 = 17
  · refine ⟨m, r, I, ?_⟩
    rw [if_pos c17, if_pos g1, if_pos gd0, bnd (x_sit R W (xs (nI (4 * i) + 1).toNatClampNeg)), if_pos g1, if_pos gdn, bnd (mc_sit H M W (xs (nI (4 * i) + 1).toNatClampNeg)), if_pos rfl, e4]
  rw [if_neg c17]
  by_cases c18 : xs (nI (4 * i)).toNatClampNeg &&& 31 = 18
  · obtain ⟨m1, r1, m2, e1, e2, I2⟩ := op_step (fm := fun h => f_X12_ways 114 (xs (nI (4 * i) + 1).toNatClampNeg) (xs (nI (4 * i) + 2).toNatClampNeg) h) H M W (x_ways R W (xs (nI (4 * i) + 1).toNatClampNeg) (xs (nI (4 * i) + 2).toNatClampNeg)) (fun m1 r1 H1 M1 => mc_ways H1 M1 W (xs (nI (4 * i) + 1).toNatClampNeg) (xs (nI (4 * i) + 2).toNatClampNeg))
    refine ⟨m2, r1, I2, ?_⟩
    rw [if_pos c18, if_pos g1, if_pos g2, if_pos gd0, bnd e1, if_pos g1, if_pos g2, if_pos gdn, bnd e2, if_pos rfl, e4]
  rw [if_neg c18]
  by_cases c19 : xs (nI (4 * i)).toNatClampNeg &&& 31 = 19
  · obtain ⟨m1, r1, m2, e1, e2, I2⟩ := op_step (fm := fun h => f_X12_seen 114 (xs (nI (4 * i) + 1).toNatClampNeg) (xs (nI (4 * i) + 2).toNatClampNeg) h) H M (wo_seen W (xs (nI (4 * i) + 1).toNatClampNeg) (xs (nI (4 * i) + 2).toNatClampNeg)) (x_seen R W (xs (nI (4 * i) + 1).toNatClampNeg) (xs (nI (4 * i) + 2).toNatClampNeg)) (fun m1 r1 H1 M1 => mc_seen H1 M1 W (xs (nI (4 * i) + 1).toNatClampNeg) (xs (nI (4 * i) + 2).toNatClampNeg))
    refine ⟨m2, r1, I2, ?_⟩
    rw [if_pos c19, if_pos g1, if_pos g2, if_pos gd0, bnd e1, if_pos g1, if_pos g2, if_pos gdn, bnd e2, if_pos rfl, e4]
  rw [if_neg c19]
  by_cases c20 : xs (nI (4 * i)).toNatClampNeg &&& 31 = 20
  · obtain ⟨m1, r1, m2, e1, e2, I2⟩ := op_step (fm := fun h => f_X12_forget 114 h) H M (wo_forget W) (x_forget R W) (fun m1 r1 H1 M1 => mc_forget H1 M1)
    refine ⟨m2, r1, I2, ?_⟩
    rw [if_pos c20, if_pos gd0, bnd e1, if_pos gdn, bnd e2, if_pos rfl, e4]
  rw [if_neg c20]
  by_cases c21 : xs (nI (4 * i)).toNatClampNeg &&& 31 = 21
  · obtain ⟨m1, r1, m2, e1, e2, I2⟩ := op_step (fm := fun h => f_X12_guessed 114 (xs (nI (4 * i) + 1).toNatClampNeg) h) H M W (x_guess R W (xs (nI (4 * i) + 1).toNatClampNeg)) (fun m1 r1 H1 M1 => mc_guess H1 M1 W (xs (nI (4 * i) + 1).toNatClampNeg))
    refine ⟨m2, r1, I2, ?_⟩
    rw [if_pos c21, if_pos g1, if_pos gd0, bnd e1, if_pos g1, if_pos gdn, bnd e2, if_pos rfl, e4]
  rw [if_neg c21]
  by_cases c22 : xs (nI (4 * i)).toNatClampNeg &&& 31 = 22
  · obtain ⟨m1, r1, m2, e1, e2, I2⟩ := op_step (fm := fun h => f_X12_council 114 (xs (nI (4 * i) + 1).toNatClampNeg) (xs (nI (4 * i) + 2).toNatClampNeg) (xs (nI (4 * i) + 3).toNatClampNeg) h) H M W (x_coun R W (xs (nI (4 * i) + 1).toNatClampNeg) (xs (nI (4 * i) + 2).toNatClampNeg) (xs (nI (4 * i) + 3).toNatClampNeg)) (fun m1 r1 H1 M1 => mc_coun H1 M1 W (xs (nI (4 * i) + 1).toNatClampNeg) (xs (nI (4 * i) + 2).toNatClampNeg) (xs (nI (4 * i) + 3).toNatClampNeg))
    refine ⟨m2, r1, I2, ?_⟩
    rw [if_pos c22, if_pos g1, if_pos g2, if_pos g3, if_pos gd0, bnd e1, if_pos g1, if_pos g2, if_pos g3, if_pos gdn, bnd e2, if_pos rfl, e4]
  rw [if_neg c22]
  by_cases c23 : xs (nI (4 * i)).toNatClampNeg &&& 31 = 23
  · obtain ⟨m1, r1, m2, e1, e2, I2⟩ := op_step (fm := fun h => f_X12_keep 114 h) H M (wo_keep W) (x_keep R W) (fun m1 r1 H1 M1 => mc_keep H1 M1 W)
    refine ⟨m2, r1, I2, ?_⟩
    rw [if_pos c23, if_pos gd0, bnd e1, if_pos gdn, bnd e2, if_pos rfl, e4]
  rw [if_neg c23]
  by_cases c24 : xs (nI (4 * i)).toNatClampNeg &&& 31 = 24
  · obtain ⟨m1, r1, m2, e1, e2, I2⟩ := op_step (fm := fun h => f_X12_back 114 h) H M (wo_back W) (x_back R W) (fun m1 r1 H1 M1 => mc_back H1 M1 W)
    refine ⟨m2, r1, I2, ?_⟩
    rw [if_pos c24, if_pos gd0, bnd e1, if_pos gdn, bnd e2, if_pos rfl, e4]
  rw [if_neg c24]
  by_cases c25 : xs (nI (4 * i)).toNatClampNeg &&& 31 = 25
  · refine ⟨m, r, I, ?_⟩
    rw [if_pos c25, if_pos g1, if_pos gd0, bnd (x_count R (xs (nI (4 * i) + 1).toNatClampNeg)), if_pos g1, if_pos gdn, bnd (mc_count H M (xs (nI (4 * i) + 1).toNatClampNeg)), if_pos rfl, e4]
  rw [if_neg c25]
  exact ⟨m, r, I, by rw [e4]⟩
theorem law_all {L : Nat} {xs : Nat → Int32} (hL : L ≤ 2048) (I : LI m r) : ∃ hf, mx_fix (f_L_law_L18 (true, L, xs) 0 114) 2000 (nI 0, (130, m, r)) = some (1, hf) := by
  refine fix_relS (fun i q => ∃ m1 r1, q = (nI (4 * i), (130, m1, r1)) ∧ LI m1 r1) (L / 4) (Q := fun o => ∃ hf, o = some (1, hf)) ?_ ?_ (by omega) ⟨m, r, rfl, I⟩
  · rintro i q hi ⟨m1, r1, rfl, I1⟩ self
    obtain ⟨m2, r2, I2, e⟩ := law_step (xs := xs) hL (show 4 * i + 4 ≤ L by omega) I1 self
    exact ⟨_, ⟨m2, r2, rfl, I2⟩, e⟩
  · rintro q ⟨m1, r1, rfl, I1⟩ self
    have hend : Int32.ofNat L - 4 < nI (4 * (L / 4)) := by
      show nI L - nI 4 < nI (4 * (L / 4))
      by_cases h4 : 4 ≤ L
      · rw [nb_sub h4]
        exact n_lt (by omega) (by omega)
      · have : L = 0 ∨ L = 1 ∨ L = 2 ∨ L = 3 := by omega
        rcases this with rfl | rfl | rfl | rfl <;> decide
    unfold f_L_law_L18
    dsimp only
    rw [if_pos hend]
    exact ⟨_, rfl⟩
end Y1
