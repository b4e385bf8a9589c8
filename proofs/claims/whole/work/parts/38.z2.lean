/-! a new object: its making -/
def isNop (i : Instr) : Bool := match i with
  | .nop => true
  | _ => false
theorem isNop_of {i : Instr} (h : isNop i = true) : i = .nop := by
  unfold isNop at h
  split at h
  · rfl
  · cases h
/-- a run to the place T, where it goes on -/
def mx_toJ (T : Nat) : Nat → mx_Mt → mx_Sc → mx_Cf → Option (mx_Lc × List Value × mx_Hp × Nat × Nat)
  | 0, _, _, _ => none
  | n + 1, M, sc, c => match c.1 with
    | [] => none
    | i :: _ => if isNop i.2.1 = true ∧ i.2.2.2.1 = T then some c.2 else match mx_step M sc c with
      | some (.inl c') => mx_toJ T n M sc c'
      | some (.inr (.inl (y, as, c'))) => match mx_run 3000 (mx_tab y) mx_noS (mx_ent (mx_tab y) as c'.2.2.2.1) with
        | some q => mx_toJ T n M sc (mx_beh c' q)
        | none => none
      | some (.inr (.inr _)) => none
      | none => none
theorem toJ_ev {T : Nat} : ∀ (n : Nat) {M : mx_Mt} {sc : mx_Sc} {c : mx_Cf} {c2 : mx_Lc × List Value × mx_Hp × Nat × Nat} {q : mx_Rs}, mx_toJ T n M sc c = some c2 → mx_Ev M sc (M.1 T, c2) q → mx_Ev M sc c q := by
  intro n
  induction n with
  | zero => intro M sc c c2 q h; cases h
  | succ n ih =>
    intro M sc c c2 q h K
    obtain ⟨is, c1⟩ := c
    unfold mx_toJ at h
    dsimp only at h
    cases is with
    | nil => cases h
    | cons i r =>
      dsimp only at h
      split at h
      · rename_i hN
        cases h
        obtain ⟨loc, st, h1, k, z⟩ := c2
        obtain ⟨pc, op, len, a, b, cc, lw⟩ := i
        have e := isNop_of hN.1
        have e2 := hN.2
        dsimp only at e e2
        subst e e2
        exact mx_p_np K
      · split at h
        · rename_i c' hs
          exact mx_Ev.go hs (ih h K)
        · rename_i y as c' hs
          split at h
          · rename_i q2 hq
            exact mx_Ev.call hs ⟨3000, hq⟩ (ih h K)
          · cases h
        · cases h
        · cases h
def isL2 (loc : mx_Lc) : Bool := match loc with
  | [some (.ref a), some (.int b)] => decide (a = 0) && decide (b = 0)
  | _ => false
theorem isL2_of {loc : mx_Lc} (h : isL2 loc = true) : loc = [some (.ref 0), some (.int 0)] := by
  unfold isL2 at h
  split at h
  · simp only [Bool.and_eq_true, decide_eq_true_eq] at h
    rw [h.1, h.2]
  · cases h
def bL : List Nat := [4, 8]
def oL : List Nat := [78, 92]
def xrB (r : Nat → Nat → Option Nat) : Bool := decide (r 0 0 = some 1 ∧ r 0 3 = some 12 ∧ r 0 4 = some 17 ∧ r 0 5 = some 59 ∧ r 0 6 = some 71 ∧ r 0 7 = some 75 ∧ r 0 8 = some 106 ∧ r 0 9 = some 108) && (decide (r 1 0 = some 2 ∧ r 1 1 = some 3) && (decide (∀ B ∈ bL, r B 0 = some (B + 1) ∧ r B 1 = some (B + 2) ∧ r B 2 = some (B + 3)) &&
  (decide (∀ a ∈ stL, r a 0 = some (a + 1) ∧ r (a + 1) 0 = some (a + 2) ∧ r a 1 = some (a + 3) ∧ r a 2 = some (a + 4)) && (decide (r 17 0 = some 18 ∧ r 59 0 = some 60 ∧ r 60 0 = some 61 ∧ r 60 1 = some 66) && (decide (r 71 0 = some 72 ∧ r 72 0 = some 73 ∧ r 71 1 = some 74) &&
  (decide (r 75 0 = some 76 ∧ r 76 0 = some 77 ∧ r 75 1 = some 78 ∧ r 75 2 = some 92 ∧ r 75 3 = some 71) && (decide (∀ a ∈ oL, r a 3 = some (a + 1) ∧ r a 4 = some (a + 2) ∧ r a 5 = some (a + 3) ∧ ∀ j ∈ List.range 10, r (a + 3) j = some (a + 4 + j)) && decide (r 106 0 = some 107 ∧ r 108 0 = some 109 ∧ r 108 1 = some 71))))))))
theorem xrB_of {r : Nat → Nat → Option Nat} (h : xrB r = true) : XR r := by
  unfold xrB at h
  simp only [Bool.and_eq_true, decide_eq_true_eq] at h
  obtain ⟨h1, h2, h3, h4, h5, h6, h7, h8, h9⟩ := h
  refine ⟨h1, h2, fun B hB => h3 B ?_, fun a ha => h4 a ha, h5, h6, h7, fun a ha => ?_, h9⟩
  · rcases hB with rfl | rfl <;> decide
  · have hm : a ∈ oL := by rcases ha with rfl | rfl <;> decide
    obtain ⟨q1, q2, q3, q4⟩ := h8 a hm
    exact ⟨q1, q2, q3, fun j hj => q4 j (List.mem_range.mpr hj)⟩
def plB (r : Nat → Nat → Option Nat) : Bool := decide ((∀ i ∈ List.range 8, r 18 i = some (19 + 5 * i)) ∧ r 0 1 = some 4 ∧ r 0 2 = some 8)
theorem plB_of {r : Nat → Nat → Option Nat} (h : plB r = true) : PLU r (fun i => 19 + 5 * i) ∧ r 0 1 = some 4 ∧ r 0 2 = some 8 := by
  unfold plB at h
  rw [decide_eq_true_eq] at h
  refine ⟨fun i hi => ⟨h.1 i (List.mem_range.mpr hi), ?_, fun j hj q => ?_⟩, h.2⟩
  · have key : ∀ i ∈ List.range 8, 19 + 5 * i ∈ undL := by decide +kernel
    exact key i (List.mem_range.mpr hi)
  · have q : 19 + 5 * i = 19 + 5 * j := q
    omega
def sJ : Option (mx_Lc × List Value × mx_Hp × Nat × Nat) := mx_toJ 127 200 mx_k_X11_init mx_noS (mx_ent mx_k_X11_init [.ref 0] (mx_new mx_h0))
def okJ (o : Option (mx_Lc × List Value × mx_Hp × Nat × Nat)) : Bool := match o with
  | some c => isL2 c.1 && c.2.1.isEmpty && decide (c.2.2.1.1 = 114) && xrB c.2.2.1.2.2 && plB c.2.2.1.2.2 && decide (c.2.2.1.2.1 1 2 = 0) && decide (c.2.2.2.1 ≤ 143) && decide (c.2.2.2.2 ≤ 2120)
  | none => false
set_option maxRecDepth 100000 in
theorem sJ_ok : okJ sJ = true := by decide +kernel
