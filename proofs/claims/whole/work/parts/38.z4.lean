/-! the reference: its making -/
def zf : List Nat := [0, 2, 3, 4, 5, 7, 9, 12, 13, 14, 15, 16, 17, 18, 19]
def zN : List Nat := [200, 35, 35, 22, 176, 44, 8, 5, 10, 20, 100, 10, 10, 10, 22]
def zH (m : Nat → Nat → Int32) (r : Nat → Nat → Option Nat) : Nat → mx_Hp
  | 0 => mx_new (114, m, r)
  | j + 1 => ((zH m r j).1 + 1, mx_fr (zH m r j).2.1 (zH m r j).1 0, mx_up (mx_fr (zH m r j).2.2 (zH m r j).1 none) 114 (zf.getD j 0) (some (zH m r j).1))
section Ru2
variable {M M2 : mx_Mt} {sc : mx_Sc} {r : List mx_In} {loc : mx_Lc} {st rest : List Value} {h : mx_Hp} {k z pc idx len a b y : Nat} {cc : Int32} {lw : List (Int32 × Nat)} {q q2 : mx_Rs}
theorem mx_q_obj {o : Nat} (hc : mx_cat st ≤ 8) (K : mx_Ev M sc (r, loc, st, h, k, z) q) : mx_Ev M sc ((pc, .invokespecial idx, len, 1000, b, cc, lw) :: r, loc, .ref o :: st, h, k, z) q := by
  refine mx_Ev.go ?_ K
  unfold mx_step
  dsimp only
  unfold mx_step1
  dsimp only
  unfold mx_sSpec
  dsimp only
  rw [if_pos rfl, if_pos hc]
  rfl
theorem mx_q_new (hc : (mx_lay h.1).1 = a + 3 ∧ a < 13 ∧ k + 1 ≤ M.2.2.2.2.2.2.1.cells ∧ z + mx_nf a ≤ M.2.2.2.2.2.2.1.slots) (K : mx_Ev M sc (r, loc, .ref h.1 :: st, mx_new h, k + 1, z + mx_nf a) q) : mx_Ev M sc ((pc, .new idx, len, a, b, cc, lw) :: r, loc, st, h, k, z) q := by
  refine mx_Ev.go ?_ K
  unfold mx_step
  dsimp only
  unfold mx_step1
  dsimp only
  unfold mx_sNew
  dsimp only
  rw [if_pos hc]
  rfl
theorem mx_q_cn {o ci : Nat} {as : List Value} (hT : mx_tab y = M2) (hon : o < h.1 ∧ (mx_lay o).1 = ci + 3) (ha : (st.take b).reverse = .ref o :: as) (hr : st.drop b = rest) (hall : (st.take b).all mx_c1 = true) (hb : b ≤ st.length ∧ b ≤ M2.2.2.2.1 ∧ y < 1000) (hcat : mx_cat rest ≤ 8) (hcn : mx_Cn ci = M2.2.1.cls) (hkz : k + M2.2.2.2.2.2.2.1.cells ≤ M.2.2.2.2.2.2.1.cells ∧ z + M2.2.2.2.2.2.2.1.slots ≤ M.2.2.2.2.2.2.1.slots) (hc : mx_Ms M2 (.ref o :: as) h q2) (K : mx_Ev M sc (r, loc, q2.1.toList ++ rest, q2.2, k + M2.2.2.2.2.2.2.1.cells, z + M2.2.2.2.2.2.2.1.slots) q) : mx_Ev M sc ((pc, .invokespecial idx, len, y, b, cc, lw) :: r, loc, st, h, k, z) q := by
  subst hT
  refine mx_Ev.call (y := y) (as := .ref o :: as) (c' := (r, loc, rest, h, k + (mx_tab y).2.2.2.2.2.2.1.cells, z + (mx_tab y).2.2.2.2.2.2.1.slots)) ?_ hc K
  unfold mx_step
  dsimp only
  unfold mx_step1
  dsimp only
  unfold mx_sSpec
  dsimp only
  rw [if_neg (by omega)]
  unfold mx_call
  dsimp only
  rw [hr, ha]
  rw [if_pos ⟨hb.1, hall, hb.2.1, hcat, hkz.1, hkz.2⟩]
  dsimp only
  rw [if_pos ⟨hon.1, by omega, by rw [hon.2]; exact hcn⟩]
theorem mx_q_na {n : Nat} {x : Int32} {t} (hx : x = nI n) (hl : mx_lay h.1 = (0, n)) (hn : n ≤ 2048) (hk : k + 1 ≤ M.2.2.2.2.2.2.1.cells ∧ z + n ≤ M.2.2.2.2.2.2.1.slots) (K : mx_Ev M sc (r, loc, .ref h.1 :: st, mx_new h, k + 1, z + n) q) : mx_Ev M sc ((pc, .newarray t, len, a, b, cc, lw) :: r, loc, .int x :: st, h, k, z) q := by
  subst hx
  have e : (nI n).toNatClampNeg = n := nb_cl (by omega)
  refine mx_Ev.go ?_ K
  unfold mx_step
  dsimp only
  unfold mx_step1
  dsimp only
  unfold mx_sNewa
  dsimp only
  rw [e, if_pos ⟨hl, nb_pos (by omega), hn, hk⟩]
  rfl
end Ru2
section Z4
variable {m : Nat → Nat → Int32} {r : Nat → Nat → Option Nat} {j k z : Nat} {q : mx_Rs}
theorem zH_1 : (zH m r j).1 = 115 + j := by
  induction j with
  | zero => rfl
  | succ j ih =>
    show (zH m r j).1 + 1 = _
    omega
theorem zN_lay (hj : j < 15) : mx_lay (115 + j) = (0, zN.getD j 0) ∧ zN.getD j 0 ≤ 2048 ∧ mx_fk 12 (zf.getD j 0) = 1 := by
  have key : ∀ j ∈ List.range 15, mx_lay (115 + j) = (0, zN.getD j 0) ∧ zN.getD j 0 ≤ 2048 ∧ mx_fk 12 (zf.getD j 0) = 1 := by decide +kernel
  exact key j (List.mem_range.mpr hj)
theorem zf_ne {i : Nat} (hj : j < 15) (hi : i < 15) (h : i ≠ j) : zf.getD i 0 ≠ zf.getD j 0 := by
  have key : ∀ j ∈ List.range 15, ∀ i ∈ List.range 15, i ≠ j → zf.getD i 0 ≠ zf.getD j 0 := by decide +kernel
  exact key j (List.mem_range.mpr hj) i (List.mem_range.mpr hi) h
theorem zH_low {a : Nat} (ha : a < 114) : (zH m r j).2.1 a = m a ∧ (zH m r j).2.2 a = r a := by
  induction j with
  | zero =>
    constructor
    · funext i
      show (if a = 114 then (0 : Int32) else m a i) = _
      rw [if_neg (by omega)]
    · funext i
      show (if a = 114 then none else r a i) = _
      rw [if_neg (by omega)]
  | succ j ih =>
    have e := zH_1 (m := m) (r := r) (j := j)
    constructor
    · funext i
      show (if a = (zH m r j).1 then (0 : Int32) else (zH m r j).2.1 a i) = _
      rw [if_neg (by omega), ih.1]
    · show mx_up (mx_fr (zH m r j).2.2 (zH m r j).1 none) 114 (zf.getD j 0) (some (zH m r j).1) a = _
      rw [up_ne (by omega)]
      funext i
      show (if a = (zH m r j).1 then none else (zH m r j).2.2 a i) = _
      rw [if_neg (by omega), ih.2]
theorem zH_114 {i : Nat} : (zH m r j).2.1 114 i = 0 := by
  induction j with
  | zero => rfl
  | succ j ih =>
    have e := zH_1 (m := m) (r := r) (j := j)
    show (if 114 = (zH m r j).1 then (0 : Int32) else (zH m r j).2.1 114 i) = _
    rw [if_neg (by omega), ih]
theorem zH_ref : ∀ j, j ≤ 15 → ∀ i, i < j → (zH m r j).2.2 114 (zf.getD i 0) = some (115 + i) := by
  intro j
  induction j with
  | zero => intro _ i hi; exact absurd hi (Nat.not_lt_zero i)
  | succ j ih =>
    intro hj i hi
    have e := zH_1 (m := m) (r := r) (j := j)
    show mx_up (mx_fr (zH m r j).2.2 (zH m r j).1 none) 114 (zf.getD j 0) (some (zH m r j).1) 114 (zf.getD i 0) = _
    by_cases he : i = j
    · rw [he, hb_up_same, e]
    · rw [hb_up_ne (Or.inr (zf_ne (by omega) (by omega) he))]
      show (if 114 = (zH m r j).1 then none else (zH m r j).2.2 114 (zf.getD i 0)) = _
      rw [if_neg (by omega)]
      exact ih (by omega) i (by omega)
theorem z_arr {p1 p2 l1 l2 a1 b1 id2 : Nat} {c1 c2 x : Int32} {w1 w2 : List (Int32 × Nat)} {t} {rest : List mx_In} {loc : mx_Lc} {st : List Value} (hj : j < 15) (hx : x = nI (zN.getD j 0)) (hk : k + 1 ≤ 15 ∧ z + zN.getD j 0 ≤ 707) (K : mx_Ev mx_k_X12_init mx_noS (rest, loc, st, zH m r (j + 1), k + 1, z + zN.getD j 0) q) : mx_Ev mx_k_X12_init mx_noS ((p1, .newarray t, l1, a1, b1, c1, w1) :: (p2, .putfield id2, l2, 12, zf.getD j 0, c2, w2) :: rest, loc, .int x :: .ref 114 :: st, zH m r j, k, z) q := by
  obtain ⟨h1, h2, h3⟩ := zN_lay hj
  have e := zH_1 (m := m) (r := r) (j := j)
  refine mx_q_na hx (by rw [e]; exact h1) h2 hk ?_
  refine mx_e_pr ?_ K
  unfold mx_pr
  rw [if_pos ⟨by show 114 < (zH m r j).1 + 1; omega, ly_m, h3⟩]
  rfl
def TDL (m : Nat → Nat → Int32) (l : List Int32) : Prop := l.length = 35 ∧ ∀ j, j < 35 → m 117 j = l.getD j 0
theorem TDL.up {l : List Int32} (T : TDL m l) {i : Nat} (hi : i < 35) (v : Int32) : TDL (mx_up m 117 i v) (l.set i v) := by
  refine ⟨by rw [List.length_set]; exact T.1, fun j hj => ?_⟩
  by_cases he : j = i
  · subst he
    rw [hb_up_same, List.getD_eq_getElem?_getD, List.getElem?_set]
    rw [if_pos rfl, if_pos (by rw [T.1]; exact hi)]
    rfl
  · rw [hb_up_ne (Or.inr he), T.2 j hj, List.getD_eq_getElem?_getD, List.getD_eq_getElem?_getD, List.getElem?_set, if_neg (fun z => he z.symm)]
def l0 : List Int32 := [0, 2] ++ List.replicate 33 0
def wSet (l : List Int32) (n : Nat) (k c : Int32) : List Int32 := ((l.set (3 + n) k).set (13 + n) c).set 0 (nI (n + 1))
theorem z_begin (H : MR r) : ∃ m', f_X12_begins 114 (130, m, r) = some (130, m', r) ∧ TDL m' l0 ∧ ∀ a, a ≠ 117 → m' a = m a := by
  unfold f_X12_begins
  have key : mx_fix (f_X12_begins_L2 114) 2000 (0, (130, m, r)) = some (130, mx_up (cpy m 117 0 (fun _ => 0) 35) 117 1 (nI 2), r) := by
    have := fix_up (F := f_X12_begins_L2 114) (fun i => (nI i, (130, cpy m 117 0 (fun _ => 0) i, r))) 35 (y := some (130, mx_up (cpy m 117 0 (fun _ => 0) 35) 117 1 (nI 2), r)) (fun i hi self => ?_) (fun self => ?_) (fuel := 2000) (by omega)
    · simp only [cpy_0] at this
      exact this
    · unfold f_X12_begins_L2
      simp only [nb_lit]
      rw [if_neg (by rw [nb_le (by omega) (by omega)]; omega), bnd (gr_draft H), bnd (as_draft hi _), nI_add, show nI 0 = (fun _ : Nat => (0 : Int32)) i from rfl, cpy_s0 (f := fun _ => 0)]
    · unfold f_X12_begins_L2
      simp only [nb_lit]
      rw [if_pos (by rw [nb_le (by omega) (by omega)]; omega), bnd (gr_draft H), bnd (as_draft (by decide) _)]
  refine ⟨_, key, ⟨rfl, fun j hj => ?_⟩, fun a ha => by rw [up_ne ha, cpy_ne ha]⟩
  by_cases he : j = 1
  · subst he
    rw [hb_up_same]
    rfl
  · rw [hb_up_ne (Or.inr he), cpy_in (by omega) (by omega)]
    have kk : ∀ j ∈ List.range 35, j ≠ 1 → (0 : Int32) = l0.getD j 0 := by decide +kernel
    exact kk j (List.mem_range.mpr hj) he
theorem z_word (H : MR r) {l : List Int32} {n : Nat} (T : TDL m l) (hl : l.getD 0 0 = nI n) (hn : n < 10) (k c : Int32) : ∃ m', f_X12_wordOf 114 k c (130, m, r) = some (130, m', r) ∧ TDL m' (wSet l n k c) ∧ ∀ a, a ≠ 117 → m' a = m a := by
  have g0 : m 117 0 = nI n := by rw [T.2 0 (by decide)]; exact hl
  refine ⟨mx_up (mx_up (mx_up m 117 (3 + n) k) 117 (13 + n) c) 117 0 (nI (n + 1)), ?_, ((T.up (by omega) k).up (by omega) c).up (by decide) _, fun a ha => by rw [up_ne ha, up_ne ha, up_ne ha]⟩
  unfold f_X12_wordOf
  simp only [nb_lit]
  rw [bnd (gr_draft H), bnd (gr_draft H), bnd (al_draft (by decide)), g0, nI_add, bnd (as_draft (by omega) _), bnd (gr_draft H), bnd (gr_draft H), bnd (al_draft (by decide)), hb_up_ne (by omega), g0, nI_add, bnd (as_draft (by omega) _), bnd (gr_draft H), bnd (al_draft (by decide)), hb_up_ne (by omega), hb_up_ne (by omega), g0, nI_add, bnd (as_draft (by omega) _)]
def lF : List Int32 := (((((((((wSet (wSet (wSet (wSet (wSet (wSet (wSet l0 0 0 3) 1 0 1) 2 1 5) 3 2 2) 4 2 4) 5 3 1) 6 0 2).set 23 6).set 24 72).set 25 24).set 26 4).set 28 8).set 29 17).set 33 24).set 34 10)
set_option maxRecDepth 100000 in
theorem lF_ok : (lF.getD 0 0 = nI (bN b0) ∧ lF.getD 1 0 = nI (bM b0) ∧ lF.getD 2 0 = nI (bC b0)) ∧ (∀ w ∈ List.range 7, lF.getD (3 + w) 0 = nI (bK b0 w) ∧ lF.getD (13 + w) 0 = nI (bW b0 w) ∧ lF.getD (23 + w) 0 = nI (bE b0 w)) ∧ (∀ i ∈ List.range 2, lF.getD (33 + i) 0 = nI (bY b0 i)) ∧ (∀ w ∈ List.range 10, 7 ≤ w → lF.getD (23 + w) 0 = 0) := by decide +kernel
theorem lF_td (T : TDL m lF) : TD (m 117) b0 := by
  obtain ⟨⟨h1, h2, h3⟩, h4, h5, h6⟩ := lF_ok
  have h7 : bN b0 = 7 := X0_rd.2
  refine ⟨⟨by rw [T.2 0 (by decide)]; exact h1, by rw [T.2 1 (by decide)]; exact h2, by rw [T.2 2 (by decide)]; exact h3, fun w hw => ?_, fun i hi => ?_⟩, fun w hw1 hw2 => ?_⟩
  · rw [h7] at hw
    rw [T.2 _ (by omega), T.2 _ (by omega), T.2 _ (by omega)]
    exact h4 w (List.mem_range.mpr hw)
  · rw [T.2 _ (by omega)]
    exact h5 i (List.mem_range.mpr hi)
  · rw [h7] at hw1
    rw [T.2 _ (by omega)]
    exact h6 w (List.mem_range.mpr hw2) hw1
theorem z_MR : MR (zH m r 15).2.2 := by
  have key := fun i (hi : i < 15) => zH_ref (m := m) (r := r) 15 (Nat.le_refl _) i hi
  exact ⟨key 0 (by decide), key 1 (by decide), key 2 (by decide), key 3 (by decide), key 4 (by decide), key 5 (by decide), key 6 (by decide), key 7 (by decide), key 8 (by decide), key 9 (by decide), key 10 (by decide), key 11 (by decide), key 12 (by decide), key 13 (by decide), key 14 (by decide)⟩
set_option maxRecDepth 100000 in
set_option maxHeartbeats 4000000 in
theorem m_made (m : Nat → Nat → Int32) (r : Nat → Nat → Option Nat) : ∃ m' r', mx_Ms mx_k_X12_init [.ref 114] (mx_new (114, m, r)) (none, (130, m', r')) ∧ RelM m' A0 ∧ MR r' ∧ ∀ a, a < 114 → m' a = m a ∧ r' a = r a := by
  have H : MR (zH m r 15).2.2 := z_MR
  have eH : zH m r 15 = (130, (zH m r 15).2.1, (zH m r 15).2.2) := by
    have e := zH_1 (m := m) (r := r) (j := 15)
    show ((zH m r 15).1, (zH m r 15).2.1, (zH m r 15).2.2) = _
    rw [e]
  have l114 : ∀ i, (zH m r 15).2.1 114 i = 0 := fun i => zH_114
  have low : ∀ a, a < 114 → (zH m r 15).2.1 a = m a ∧ (zH m r 15).2.2 a = r a := fun a ha => zH_low ha
  obtain ⟨g0, hg0⟩ : ∃ g, g = (zH m r 15).2.1 := ⟨_, rfl⟩
  obtain ⟨r1, hr1⟩ : ∃ g, g = (zH m r 15).2.2 := ⟨_, rfl⟩
  rw [← hg0, ← hr1] at eH
  rw [← hr1] at H
  simp only [← hg0] at l114
  simp only [← hg0, ← hr1] at low
  obtain ⟨m0, b1, t0, f0⟩ := z_begin (m := g0) H
  obtain ⟨m1, w1, t1, f1⟩ := z_word H t0 (n := 0) (by decide +kernel) (by decide) 0 3
  obtain ⟨m2, w2, t2, f2⟩ := z_word H t1 (n := 1) (by decide +kernel) (by decide) 0 1
  obtain ⟨m3, w3, t3, f3⟩ := z_word H t2 (n := 2) (by decide +kernel) (by decide) 1 5
  obtain ⟨m4, w4, t4, f4⟩ := z_word H t3 (n := 3) (by decide +kernel) (by decide) 2 2
  obtain ⟨m5, w5, t5, f5⟩ := z_word H t4 (n := 4) (by decide +kernel) (by decide) 2 4
  obtain ⟨m6, w6, t6, f6⟩ := z_word H t5 (n := 5) (by decide +kernel) (by decide) 3 1
  obtain ⟨m7, w7, t7, f7⟩ := z_word H t6 (n := 6) (by decide +kernel) (by decide) 0 2
  have s0 : TDL m7 (wSet (wSet (wSet (wSet (wSet (wSet (wSet l0 0 0 3) 1 0 1) 2 1 5) 3 2 2) 4 2 4) 5 3 1) 6 0 2) := t7
  obtain ⟨gS, hgS⟩ : ∃ g, g = (mx_up (mx_up (mx_up (mx_up (mx_up (mx_up (mx_up (mx_up m7 117 23 6) 117 24 72) 117 25 24) 117 26 4) 117 28 8) 117 29 17) 117 33 24) 117 34 10) := ⟨_, rfl⟩
  have tS : TDL gS lF := by rw [hgS]; exact ((((((((t7.up (i := 23) (by decide) 6).up (i := 24) (by decide) 72).up (i := 25) (by decide) 24).up (i := 26) (by decide) 4).up (i := 28) (by decide) 8).up (i := 29) (by decide) 17).up (i := 33) (by decide) 24).up (i := 34) (by decide) 10)
  have fS : ∀ a, a ≠ 117 → gS a = g0 a := fun a ha => by rw [hgS, up_ne ha, up_ne ha, up_ne ha, up_ne ha, up_ne ha, up_ne ha, up_ne ha, up_ne ha, f7 a ha, f6 a ha, f5 a ha, f4 a ha, f3 a ha, f2 a ha, f1 a ha, f0 a ha]
  obtain ⟨mE, e1, l1, l2, ⟨l3, l4, l5⟩, l6, l7⟩ := m_lays H (lF_td tS) (b := b0) ⟨b0_wf.1.2, b0_wf.2⟩
  refine ⟨mE, r1, ?_, ⟨⟨?_, fun i hi => absurd hi (Nat.not_lt_zero i)⟩, l1, l2, ⟨l3, fun i hi => absurd hi (Nat.not_lt_zero i)⟩, ⟨l4, fun i hi => absurd hi (Nat.not_lt_zero i)⟩, ⟨l5, fun i hi => absurd hi (Nat.not_lt_zero i)⟩⟩, H, fun a ha => ⟨by rw [l6 a (by omega) (by omega) (by omega), fS a (by omega)]; exact (low a ha).1, (low a ha).2⟩⟩
  · show mx_Ev mx_k_X12_init mx_noS (mx_b_X12_init 0, [some (.ref 114)], [], zH m r 0, 0, 0) _
    refine mx_p_aln rfl ?_
    refine mx_q_obj (Nat.le_of_ble_eq_true rfl) ?_
    refine mx_p_aln rfl ?_
    refine mx_p_sp ?_
    refine z_arr (j := 0) (by decide) rfl ⟨by decide, by decide⟩ ?_
    refine mx_p_aln rfl ?_
    refine mx_p_bp ?_
    refine z_arr (j := 1) (by decide) rfl ⟨by decide, by decide⟩ ?_
    refine mx_p_aln rfl ?_
    refine mx_p_bp ?_
    refine z_arr (j := 2) (by decide) rfl ⟨by decide, by decide⟩ ?_
    refine mx_p_aln rfl ?_
    refine mx_p_bp ?_
    refine z_arr (j := 3) (by decide) rfl ⟨by decide, by decide⟩ ?_
    refine mx_p_aln rfl ?_
    refine mx_p_sp ?_
    refine z_arr (j := 4) (by decide) rfl ⟨by decide, by decide⟩ ?_
    refine mx_p_aln rfl ?_
    refine mx_p_bp ?_
    refine z_arr (j := 5) (by decide) rfl ⟨by decide, by decide⟩ ?_
    refine mx_p_aln rfl ?_
    refine mx_p_bp ?_
    refine z_arr (j := 6) (by decide) rfl ⟨by decide, by decide⟩ ?_
    refine mx_p_aln rfl ?_
    refine mx_p_ic ?_
    refine z_arr (j := 7) (by decide) rfl ⟨by decide, by decide⟩ ?_
    refine mx_p_aln rfl ?_
    refine mx_p_bp ?_
    refine z_arr (j := 8) (by decide) rfl ⟨by decide, by decide⟩ ?_
    refine mx_p_aln rfl ?_
    refine mx_p_bp ?_
    refine z_arr (j := 9) (by decide) rfl ⟨by decide, by decide⟩ ?_
    refine mx_p_aln rfl ?_
    refine mx_p_bp ?_
    refine z_arr (j := 10) (by decide) rfl ⟨by decide, by decide⟩ ?_
    refine mx_p_aln rfl ?_
    refine mx_p_bp ?_
    refine z_arr (j := 11) (by decide) rfl ⟨by decide, by decide⟩ ?_
    refine mx_p_aln rfl ?_
    refine mx_p_bp ?_
    refine z_arr (j := 12) (by decide) rfl ⟨by decide, by decide⟩ ?_
    refine mx_p_aln rfl ?_
    refine mx_p_bp ?_
    refine z_arr (j := 13) (by decide) rfl ⟨by decide, by decide⟩ ?_
    refine mx_p_aln rfl ?_
    refine mx_p_bp ?_
    refine z_arr (j := 14) (by decide) rfl ⟨by decide, by decide⟩ ?_
    rw [eH]
    refine mx_p_aln rfl ?_
    refine mx_e_cv mx_t_X12_begins gdn rfl rfl rfl ⟨Nat.le_of_ble_eq_true rfl, Nat.le_of_ble_eq_true rfl, Nat.le_of_ble_eq_true rfl⟩ (Nat.le_of_ble_eq_true rfl) rfl rfl rfl ⟨Nat.le_of_ble_eq_true rfl, Nat.le_of_ble_eq_true rfl⟩ (t_X12_begins b1) ?_
    refine mx_p_aln rfl ?_
    refine mx_p_ic ?_
    refine mx_p_ic ?_
    refine mx_e_cv mx_t_X12_wordOf gdn rfl rfl rfl ⟨Nat.le_of_ble_eq_true rfl, Nat.le_of_ble_eq_true rfl, Nat.le_of_ble_eq_true rfl⟩ (Nat.le_of_ble_eq_true rfl) rfl rfl rfl ⟨Nat.le_of_ble_eq_true rfl, Nat.le_of_ble_eq_true rfl⟩ (t_X12_wordOf w1) ?_
    refine mx_p_aln rfl ?_
    refine mx_p_ic ?_
    refine mx_p_ic ?_
    refine mx_e_cv mx_t_X12_wordOf gdn rfl rfl rfl ⟨Nat.le_of_ble_eq_true rfl, Nat.le_of_ble_eq_true rfl, Nat.le_of_ble_eq_true rfl⟩ (Nat.le_of_ble_eq_true rfl) rfl rfl rfl ⟨Nat.le_of_ble_eq_true rfl, Nat.le_of_ble_eq_true rfl⟩ (t_X12_wordOf w2) ?_
    refine mx_p_aln rfl ?_
    refine mx_p_ic ?_
    refine mx_p_ic ?_
    refine mx_e_cv mx_t_X12_wordOf gdn rfl rfl rfl ⟨Nat.le_of_ble_eq_true rfl, Nat.le_of_ble_eq_true rfl, Nat.le_of_ble_eq_true rfl⟩ (Nat.le_of_ble_eq_true rfl) rfl rfl rfl ⟨Nat.le_of_ble_eq_true rfl, Nat.le_of_ble_eq_true rfl⟩ (t_X12_wordOf w3) ?_
    refine mx_p_aln rfl ?_
    refine mx_p_ic ?_
    refine mx_p_ic ?_
    refine mx_e_cv mx_t_X12_wordOf gdn rfl rfl rfl ⟨Nat.le_of_ble_eq_true rfl, Nat.le_of_ble_eq_true rfl, Nat.le_of_ble_eq_true rfl⟩ (Nat.le_of_ble_eq_true rfl) rfl rfl rfl ⟨Nat.le_of_ble_eq_true rfl, Nat.le_of_ble_eq_true rfl⟩ (t_X12_wordOf w4) ?_
    refine mx_p_aln rfl ?_
    refine mx_p_ic ?_
    refine mx_p_ic ?_
    refine mx_e_cv mx_t_X12_wordOf gdn rfl rfl rfl ⟨Nat.le_of_ble_eq_true rfl, Nat.le_of_ble_eq_true rfl, Nat.le_of_ble_eq_true rfl⟩ (Nat.le_of_ble_eq_true rfl) rfl rfl rfl ⟨Nat.le_of_ble_eq_true rfl, Nat.le_of_ble_eq_true rfl⟩ (t_X12_wordOf w5) ?_
    refine mx_p_aln rfl ?_
    refine mx_p_ic ?_
    refine mx_p_ic ?_
    refine mx_e_cv mx_t_X12_wordOf gdn rfl rfl rfl ⟨Nat.le_of_ble_eq_true rfl, Nat.le_of_ble_eq_true rfl, Nat.le_of_ble_eq_true rfl⟩ (Nat.le_of_ble_eq_true rfl) rfl rfl rfl ⟨Nat.le_of_ble_eq_true rfl, Nat.le_of_ble_eq_true rfl⟩ (t_X12_wordOf w6) ?_
    refine mx_p_aln rfl ?_
    refine mx_p_ic ?_
    refine mx_p_ic ?_
    refine mx_e_cv mx_t_X12_wordOf gdn rfl rfl rfl ⟨Nat.le_of_ble_eq_true rfl, Nat.le_of_ble_eq_true rfl, Nat.le_of_ble_eq_true rfl⟩ (Nat.le_of_ble_eq_true rfl) rfl rfl rfl ⟨Nat.le_of_ble_eq_true rfl, Nat.le_of_ble_eq_true rfl⟩ (t_X12_wordOf w7) ?_
    refine mx_p_aln rfl ?_
    refine mx_e_gr (gr_draft H) rfl ?_
    refine mx_p_bp ?_
    refine mx_p_bp ?_
    refine mx_e_as (as_draft (j := 23) (by decide) _) ?_
    refine mx_p_aln rfl ?_
    refine mx_e_gr (gr_draft H) rfl ?_
    refine mx_p_bp ?_
    refine mx_p_bp ?_
    refine mx_e_as (as_draft (j := 24) (by decide) _) ?_
    refine mx_p_aln rfl ?_
    refine mx_e_gr (gr_draft H) rfl ?_
    refine mx_p_bp ?_
    refine mx_p_bp ?_
    refine mx_e_as (as_draft (j := 25) (by decide) _) ?_
    refine mx_p_aln rfl ?_
    refine mx_e_gr (gr_draft H) rfl ?_
    refine mx_p_bp ?_
    refine mx_p_ic ?_
    refine mx_e_as (as_draft (j := 26) (by decide) _) ?_
    refine mx_p_aln rfl ?_
    refine mx_e_gr (gr_draft H) rfl ?_
    refine mx_p_bp ?_
    refine mx_p_bp ?_
    refine mx_e_as (as_draft (j := 28) (by decide) _) ?_
    refine mx_p_aln rfl ?_
    refine mx_e_gr (gr_draft H) rfl ?_
    refine mx_p_bp ?_
    refine mx_p_bp ?_
    refine mx_e_as (as_draft (j := 29) (by decide) _) ?_
    refine mx_p_aln rfl ?_
    refine mx_e_gr (gr_draft H) rfl ?_
    refine mx_p_bp ?_
    refine mx_p_bp ?_
    refine mx_e_as (as_draft (j := 33) (by decide) _) ?_
    refine mx_p_aln rfl ?_
    refine mx_e_gr (gr_draft H) rfl ?_
    refine mx_p_bp ?_
    refine mx_p_bp ?_
    refine mx_e_as (as_draft (j := 34) (by decide) _) ?_
    show mx_Ev mx_k_X12_init mx_noS (_, _, _, (130, (mx_up (mx_up (mx_up (mx_up (mx_up (mx_up (mx_up (mx_up m7 117 23 6) 117 24 72) 117 25 24) 117 26 4) 117 28 8) 117 29 17) 117 33 24) 117 34 10), r1), _, _) _
    rw [← hgS]
    refine mx_p_aln rfl ?_
    refine mx_e_cv mx_t_X12_lays gdn rfl rfl rfl ⟨Nat.le_of_ble_eq_true rfl, Nat.le_of_ble_eq_true rfl, Nat.le_of_ble_eq_true rfl⟩ (Nat.le_of_ble_eq_true rfl) rfl rfl rfl ⟨Nat.le_of_ble_eq_true rfl, Nat.le_of_ble_eq_true rfl⟩ (t_X12_lays e1) ?_
    exact mx_q_rv ⟨Nat.le_of_ble_eq_true rfl, Nat.le_of_ble_eq_true rfl⟩
  · rw [l7 1 (by decide) (by decide) (by decide), fS 114 (by decide), l114]
    rfl
end Z4
