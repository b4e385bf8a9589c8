/-! a new object: its first borough -/
def X0 : Nat × (Nat → Int32) := (111, fun i => mx_str.getD i 0)
set_option maxRecDepth 100000 in
theorem X0_rd : (rdT X0).1 = none ∧ bN (rdT X0).2 = 7 := by decide +kernel
def b0 : Bo := (rdT X0).2
def A0 : Ab := ((0, fun _ => 0), b0, newS b0, (0, fun _ => newS b0), (0, fun _ => newS b0), (0, fun _ => (0, 0)))
theorem b0_wf : WFb b0 := by
  have D : WFd b0 := rdA_wf _ _ _ wd0
  have h : bN b0 = 7 := X0_rd.2
  exact ⟨⟨by omega, D.1⟩, D.2⟩
theorem A_wf {b : Bo} (B : WFb b) {X : Nat × (Nat → Int32)} (hX : X.1 ≤ 200) {fU fK : Nat → St} {fO : Nat → Nat × Nat} : WFa (X, b, newS b, (0, fU), (0, fK), (0, fO)) := ⟨hX, B, ⟨Nat.zero_le _, fun i hi => absurd hi (Nat.not_lt_zero i), B.2.2.2.2, B.2.2.2.1⟩, ⟨Nat.zero_le _, fun i hi => absurd hi (Nat.not_lt_zero i)⟩, ⟨Nat.zero_le _, fun i hi => absurd hi (Nat.not_lt_zero i)⟩, ⟨Nat.zero_le _, fun i hi => absurd hi (Nat.not_lt_zero i)⟩⟩
theorem A0_wf : WFa A0 := A_wf (b := b0) b0_wf (Nat.zero_le _)
section Ru
variable {M : mx_Mt} {sc : mx_Sc} {r : List mx_In} {loc : mx_Lc} {st : List Value} {h : mx_Hp} {k z pc len a b : Nat} {cc : Int32} {lw : List (Int32 × Nat)} {q : mx_Rs}
theorem mx_q_ldc {j : Nat} (K : mx_Ev M sc (r, loc, .ref mx_STR :: st, h, k, z) q) : mx_Ev M sc ((pc, .ldc j, len, a, b, cc, lw) :: r, loc, st, h, k, z) q := by
  refine mx_Ev.go ?_ K
  unfold mx_step
  dsimp only
  unfold mx_step1
  rfl
theorem mx_q_len {j : Nat} (hc : mx_cat st ≤ 8 ∧ k ≤ M.2.2.2.2.2.2.1.cells ∧ z ≤ M.2.2.2.2.2.2.1.slots) (K : mx_Ev M sc (r, loc, .int (nI 111) :: st, h, k, z) q) : mx_Ev M sc ((pc, .invokevirtual j, len, 1002, b, cc, lw) :: r, loc, .ref mx_STR :: st, h, k, z) q := by
  refine mx_Ev.go ?_ K
  unfold mx_step
  dsimp only
  unfold mx_step1
  dsimp only
  unfold mx_sVirt
  dsimp only
  rw [if_pos rfl, if_pos ⟨rfl, hc⟩]
  rfl
theorem mx_q_chr {j : Nat} {x : Int32} (hc : mx_cat st ≤ 8 ∧ k ≤ M.2.2.2.2.2.2.1.cells ∧ z ≤ M.2.2.2.2.2.2.1.slots ∧ 0 ≤ x ∧ x.toNatClampNeg < 111) (K : mx_Ev M sc (r, loc, .int (mx_str.getD x.toNatClampNeg 0) :: st, h, k, z) q) : mx_Ev M sc ((pc, .invokevirtual j, len, 1003, b, cc, lw) :: r, loc, .int x :: .ref mx_STR :: st, h, k, z) q := by
  refine mx_Ev.go ?_ K
  unfold mx_step
  dsimp only
  unfold mx_step1
  dsimp only
  unfold mx_sVirt
  dsimp only
  rw [if_neg (by decide), if_pos rfl, if_pos ⟨rfl, hc⟩]
  rfl
theorem mx_q_rv (hk : k ≤ M.2.2.2.2.2.2.1.cells ∧ z ≤ M.2.2.2.2.2.2.1.slots) : mx_Ev M sc ((pc, .return_, len, a, b, cc, lw) :: r, loc, [], h, k, z) (none, h) := by
  refine mx_Ev.ret ?_
  unfold mx_step
  dsimp only
  unfold mx_step1
  dsimp only
  unfold mx_sVret mx_ret
  dsimp only
  rw [if_pos hk]
end Ru
theorem gd0q : 0 < 114 ∧ (mx_lay 0).1 = 14 := ⟨by decide, by decide +kernel⟩
section Z3
variable {r : Nat → Nat → Option Nat} {k z : Nat}
set_option maxRecDepth 20000 in
theorem i_loop (X : XR r) (hk : k ≤ 143 ∧ z ≤ 2120) : ∀ (d t : Nat) (m : Nat → Nat → Int32), t + d = 111 → XX m (t, X0.2) → ∃ m', XX m' X0 ∧ ∀ q, mx_Ev mx_k_X11_init mx_noS (mx_b_X11_init 156, [some (.ref 0), some (.int (nI 111))], [], (114, m', r), k, z) q → mx_Ev mx_k_X11_init mx_noS (mx_b_X11_init 127, [some (.ref 0), some (.int (nI t))], [], (114, m, r), k, z) q := by
  intro d
  induction d with
  | zero =>
    intro t m ht T
    have : t = 111 := by omega
    subst this
    refine ⟨m, T, fun q K => ?_⟩
    refine mx_p_iln rfl ?_
    refine mx_q_ldc ?_
    refine mx_q_len ⟨Nat.le_of_ble_eq_true rfl, hk⟩ ?_
    refine mx_e_it (by decide) ?_
    exact K
  | succ d ih =>
    intro t m ht T
    have T2 : XX (mx_up (mx_up m 2 t (mx_str.getD t 0)) 1 2 (nI (t + 1))) (t + 1, X0.2) := by
      refine ⟨hb_up_same, fun i hi => ?_⟩
      have hi : i < t + 1 := hi
      rw [up_ne (by decide)]
      by_cases he : i = t
      · rw [he, hb_up_same]; rfl
      · rw [hb_up_ne (by omega)]; exact T.2 i (by show i < t; omega)
    obtain ⟨m', T', K'⟩ := ih (t + 1) _ (by omega) T2
    refine ⟨m', T', fun q K => ?_⟩
    have ec : (nI t).toNatClampNeg = t := nb_cl (by omega)
    refine mx_p_iln rfl ?_
    refine mx_q_ldc ?_
    refine mx_q_len ⟨Nat.le_of_ble_eq_true rfl, hk⟩ ?_
    refine mx_e_if (fun hc => ?_) ?_
    · have hc : nI 111 ≤ nI t := of_decide_eq_true hc
      exact n_nle (show t < 111 by omega) (by decide) hc
    refine mx_p_aln rfl ?_
    refine mx_e_gr (xtq X) rfl ?_
    refine mx_q_ldc ?_
    refine mx_p_iln rfl ?_
    refine mx_q_chr ⟨Nat.le_of_ble_eq_true rfl, hk.1, hk.2, nb_pos (by omega), by rw [ec]; omega⟩ ?_
    rw [ec]
    refine mx_e_cv mx_t_X10_add tgdq rfl rfl rfl ⟨Nat.le_of_ble_eq_true rfl, Nat.le_of_ble_eq_true rfl, Nat.le_of_ble_eq_true rfl⟩ (Nat.le_of_ble_eq_true rfl) rfl rfl rfl hk (t_X10_add (x_taddq X T.1 (by show t < 200; omega) (mx_str.getD t 0))) ?_
    refine mx_p_pop rfl ?_
    refine mx_p_inc (loc' := [some (.ref 0), some (.int (nI t + 1))]) rfl rfl ?_
    refine mx_p_gt ?_
    rw [nI_1]
    exact K' q K
set_option maxRecDepth 20000 in
theorem x_made : ∃ m r, mx_Ms mx_k_X11_init [.ref 0] (mx_new mx_h0) (none, (114, m, r)) ∧ RelX m r A0 := by
  have hJ := sJ_ok
  unfold okJ at hJ
  cases hs : sJ with
  | none => rw [hs] at hJ; cases hJ
  | some c =>
    rw [hs] at hJ
    obtain ⟨loc, st, ⟨n, m0, r0⟩, k, z⟩ := c
    simp only [Bool.and_eq_true, decide_eq_true_eq] at hJ
    obtain ⟨⟨⟨⟨⟨⟨⟨j1, j2⟩, j3⟩, j4⟩, j5⟩, j6⟩, j7⟩, j8⟩ := hJ
    have e1 := isL2_of j1
    have e2 : st = [] := List.isEmpty_iff.mp j2
    subst e1 e2 j3
    have X := xrB_of j4
    obtain ⟨PL, r01, r02⟩ := plB_of j5
    obtain ⟨m1, T1, K1⟩ := i_loop (k := k) (z := z) X ⟨j7, j8⟩ 111 0 m0 rfl ⟨j6, fun i hi => absurd hi (Nat.not_lt_zero i)⟩
    obtain ⟨m2, r2, e3, R2, -⟩ := x_layCq (fU := fun _ => newS b0) (fK := fun _ => newS b0) (fO := fun _ => (0, 0)) X r01 r02 (Or.inl rfl) (Or.inr rfl) (by decide) PL T1 (by decide) X0_rd.1 (by rw [X0_rd.2]; decide)
    have W2 : WFa (X0, b0, newS b0, (0, fun _ => newS b0), (0, fun _ => newS b0), (0, fun _ => (0, 0))) := A_wf (b := b0) b0_wf (show 111 ≤ 200 by decide)
    have R3 : RelX (mx_up m2 1 2 0) r2 A0 := by
      have := R2.text (m' := mx_up m2 1 2 0) W2 (X' := (0, fun _ => 0)) ⟨hb_up_same, fun i hi => absurd hi (Nat.not_lt_zero i)⟩ (fun d d1 _ => up_ne d1)
      exact this
    obtain ⟨B, D, Y, -, -⟩ := id R2
    have ecl : f_X10_clear 1 (114, m2, r2) = some (114, mx_up m2 1 2 0, r2) := by
      unfold f_X10_clear
      rw [bnd (tpq (by decide) _)]
    refine ⟨mx_up m2 1 2 0, r2, ?_, R3⟩
    refine toJ_ev 200 (T := 127) hs ?_
    refine K1 _ ?_
    refine mx_p_aln rfl ?_
    refine mx_e_cv mx_t_X11_layText gd0q rfl rfl rfl ⟨Nat.le_of_ble_eq_true rfl, Nat.le_of_ble_eq_true rfl, Nat.le_of_ble_eq_true rfl⟩ (Nat.le_of_ble_eq_true rfl) rfl rfl rfl ⟨j7, j8⟩ (t_X11_layText e3) ?_
    refine mx_p_pop rfl ?_
    refine mx_p_aln rfl ?_
    refine mx_e_gr (xtq Y.1) rfl ?_
    refine mx_e_cv mx_t_X10_clear tgdq rfl rfl rfl ⟨Nat.le_of_ble_eq_true rfl, Nat.le_of_ble_eq_true rfl, Nat.le_of_ble_eq_true rfl⟩ (Nat.le_of_ble_eq_true rfl) rfl rfl rfl ⟨j7, j8⟩ (t_X10_clear ecl) ?_
    exact mx_q_rv ⟨j7, j8⟩
end Z3
