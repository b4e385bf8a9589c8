/-! the calls, as they act on what a state is -/
def isWd (b : Bo) (x : Int32) : Prop := ¬ x < 0 ∧ x < nI (bN b)
theorem isWd_yes {b : Bo} {x : Int32} (B : WFb b) (h : isWd b x) : ∃ w, w < bN b ∧ x = nI w := by
  rcases nb_three x (bN b) (by have := B.1; omega) with h1 | h1 | h1
  · exact absurd h1 h.1
  · exact absurd h.2 (Int32.not_lt.mpr h1)
  · exact h1
theorem isWd_no {b : Bo} {x : Int32} (h : ¬ isWd b x) : x < 0 ∨ nI (bN b) ≤ x := by
  by_cases h1 : x < 0
  · exact Or.inl h1
  · exact Or.inr (Int32.not_lt.mp (fun h2 => h ⟨h1, h2⟩))
theorem isWd_nI {b : Bo} {w : Nat} (B : WFb b) (h : w < bN b) : isWd b (nI w) := by
  have := B.1
  exact ⟨nI_pos (by omega), (nb_lt (by omega) (by omega)).mpr h⟩
/-- an int from lo to hi -/
def rng (x lo hi : Int32) : Prop := ¬ x < lo ∧ ¬ hi < x
def setS (A : Ab) (s : St) : Ab := (aX A, aB A, s, aU A, aK A, aO A)
/-- the state behind an act: what was is put upon those that can be undone -/
def actA (A : Ab) (s : St) : Ab := (aX A, aB A, s, putU (aU A) (aS A), aK A, aO A)
def o_write (A : Ab) (x : Int32) : Int32 × Ab := if x < 32 ∨ 126 < x then (-1, A) else if (aX A).1 = 200 then (-3, A) else (nI ((aX A).1 + 1), (((aX A).1 + 1, fun i => if i = (aX A).1 then x else (aX A).2 i), A.2))
def o_wipe (A : Ab) : Int32 × Ab := (nI (aX A).1, ((0, (aX A).2), A.2))
def v_word (A : Ab) (x y : Int32) : Int32 := if x < 0 ∨ nI (bN (aB A)) ≤ x then -1 else
  if y = 0 then nI (bK (aB A) x.toNatClampNeg) else if y = 1 then nI (bW (aB A) x.toNatClampNeg) else if y = 2 then nI (bE (aB A) x.toNatClampNeg) else
  if y = 3 then nI ((if (sY (aS A) 0).testBit x.toNatClampNeg then 1 else 0) + (if (sY (aS A) 1).testBit x.toNatClampNeg then 2 else 0)) else -1
def v_mayor (A : Ab) (x y : Int32) : Int32 := if x < 0 ∨ 1 < x then -1 else
  if y = 0 then (if nI (sC (aS A)) = x then 1 else 0) else if y = 1 then sD (aS A) x.toNatClampNeg else if y = 2 then sG (aS A) x.toNatClampNeg else if y = 3 then nI (sY (aS A) x.toNatClampNeg) else -1
def v_said (A : Ab) (x : Int32) : Int32 := if x < 0 then -1 else if nI (sN (aS A)) ≤ x then -4 else nI (sW (aS A) x.toNatClampNeg)
def o_say (A : Ab) (x : Int32) : Int32 × Ab := if x < 0 ∨ nI (bN (aB A)) ≤ x then (-1, A) else
  if fitsW (aB A) (aS A) x.toNatClampNeg = true then (if sN (aS A) = 12 then (-3, A) else (nI (sN (aS A) + 1), actA A (saidS (aS A) x.toNatClampNeg))) else (-2, A)
def o_end (A : Ab) : Int32 × Ab := if mayEnd (aB A) (aS A) = true then (nI (sumW (aB A) (sW (aS A)) (sN (aS A))), actA A (decS (aS A) (sC (aS A)) (sumW (aB A) (sW (aS A)) (sN (aS A))))) else (-2, A)
def o_finish (A : Ab) : Int32 × Ab := if finNow (aB A) (aS A) = 0 then (-2, A) else (nI (passW (aB A) (aS A)), actA A (passS (aB A) (aS A)))
def o_drop (A : Ab) : Int32 × Ab := if sN (aS A) = 0 then (-2, A) else (nI (sN (aS A)), actA A (dropS (aS A)))
def o_learn (A : Ab) (x y : Int32) : Int32 × Ab := if (x < 0 ∨ 1 < x) ∨ (y < 0 ∨ nI (bN (aB A)) ≤ y) then (-1, A) else
  ((if (sY (aS A) x.toNatClampNeg ^^^ 2 ^ y.toNatClampNeg).testBit y.toNatClampNeg then 1 else 0), actA A (learnS (aS A) x.toNatClampNeg y.toNatClampNeg))
def o_undo (A : Ab) : Int32 × Ab := if (aU A).1 = 0 then (-2, A) else (nI ((aU A).1 - 1), (aX A, aB A, (aU A).2 ((aU A).1 - 1), ((aU A).1 - 1, (aU A).2), aK A, aO A))
def v_fing (A : Ab) (x : Int32) : Int32 := if x < -1 ∨ 3 < x then -1 else if finNow (aB A) (aS A) = 0 then -4 else if x = -1 then nI (finNow (aB A) (aS A)) else if nI (finNow (aB A) (aS A)) ≤ x then -4 else nI (finW (aB A) (aS A) x.toNatClampNeg)
def o_seen (A : Ab) (x y : Int32) : Int32 × Ab := if (x < 0 ∨ nI (bN (aB A)) ≤ x) ∨ (y < 0 ∨ 1 < y) then (-1, A) else
  if (aO A).1 = 8 then (-3, A) else (nI ((aO A).1 + 1), (aX A, aB A, aS A, aU A, aK A, ((aO A).1 + 1, fun i => if i = (aO A).1 then (x.toNatClampNeg, y.toNatClampNeg) else (aO A).2 i)))
def o_forget (A : Ab) : Int32 × Ab := (nI (aO A).1, (aX A, aB A, aS A, aU A, aK A, (0, (aO A).2)))
def o_keep (A : Ab) : Int32 × Ab := if (aK A).1 = 2 then (-3, A) else (nI ((aK A).1 + 1), (aX A, aB A, aS A, aU A, ((aK A).1 + 1, fun i => if i = (aK A).1 then aS A else (aK A).2 i), aO A))
def o_back (A : Ab) : Int32 × Ab := if (aK A).1 = 0 then (-2, A) else (nI ((aK A).1 - 1), (aX A, aB A, (aK A).2 ((aK A).1 - 1), (0, (aU A).2), ((aK A).1 - 1, (aK A).2), aO A))
def v_count (A : Ab) (x : Int32) : Int32 := if x = 0 then nI (bN (aB A)) else if x = 1 then sT (aS A) else if x = 2 then nI (sN (aS A)) else if x = 3 then sD (aS A) 0 + sD (aS A) 1 else if x = 4 then sP (aS A) else
  if x = 5 then nI (bM (aB A)) else if x = 6 then nI (aO A).1 else if x = 7 then nI (aU A).1 else if x = 8 then nI (aK A).1 else if x = 9 then nI (aX A).1 else -1
/-! they keep what is well formed -/
section Wf
variable {A : Ab} {b : Bo} {s : St} {n : Nat}
theorem wf_put {U : Nat × (Nat → St)} (h : U.1 ≤ 8 ∧ ∀ i, i < U.1 → WFs n (U.2 i)) (F : WFs n s) : (putU U s).1 ≤ 8 ∧ ∀ i, i < (putU U s).1 → WFs n ((putU U s).2 i) := by
  unfold putU
  split
  · rename_i h8
    refine ⟨Nat.le_refl 8, fun i hi => ?_⟩
    have hi : i < 8 := hi
    show WFs n (if i = 7 then s else U.2 (i + 1))
    split
    · exact F
    · exact h.2 _ (by omega)
  · rename_i h8
    refine ⟨by show U.1 + 1 ≤ 8; omega, fun i hi => ?_⟩
    have hi : i < U.1 + 1 := hi
    show WFs n (if i = U.1 then s else U.2 i)
    split
    · exact F
    · exact h.2 _ (by omega)
theorem wf_act (h : WFa A) (F : WFs (bN (aB A)) s) : WFa (actA A s) := ⟨h.1, h.2.1, F, wf_put h.2.2.2.1 h.2.2.1, h.2.2.2.2.1, h.2.2.2.2.2⟩
theorem wf_said (F : WFs n s) (h : sN s < 12) {w : Nat} (hw : w < n) : WFs n (saidS s w) := by
  refine ⟨by show sN s + 1 ≤ 12; omega, fun i hi => ?_, F.2.2.1, F.2.2.2⟩
  have hi : i < sN s + 1 := hi
  show (if i = sN s then w else sW s i) < n
  split
  · exact hw
  · exact F.2.1 _ (by omega)
theorem wf_dec (F : WFs n s) {i v : Nat} : WFs n (decS s i v) := ⟨Nat.zero_le _, fun i hi => absurd hi (Nat.not_lt_zero i), F.2.2.1, F.2.2.2⟩
theorem wf_pass (F : WFs n s) : WFs n (passS b s) := ⟨Nat.zero_le _, fun i hi => absurd hi (Nat.not_lt_zero i), F.2.2.1, by show 1 - sC s < 2; omega⟩
theorem wf_drop (F : WFs n s) : WFs n (dropS s) := ⟨Nat.zero_le _, fun i hi => absurd hi (Nat.not_lt_zero i), F.2.2.1, F.2.2.2⟩
theorem wf_learn (F : WFs n s) {i w : Nat} (hw : w < n) : WFs n (learnS s i w) := by
  refine ⟨F.1, F.2.1, fun j hj => ?_, F.2.2.2⟩
  show (if j = i then sY s j ^^^ 2 ^ w else sY s j) < 2 ^ n
  split
  · exact Nat.xor_lt_two_pow (F.2.2.1 j hj) (bit_lt hw)
  · exact F.2.2.1 j hj
theorem wo_write (h : WFa A) (x : Int32) : WFa (o_write A x).2 := by
  unfold o_write
  repeat' split
  · exact h
  · exact h
  · rename_i h1 h2
    exact ⟨by show (aX A).1 + 1 ≤ 200; have := h.1; omega, h.2⟩
theorem wo_wipe (h : WFa A) : WFa (o_wipe A).2 := ⟨Nat.zero_le _, h.2⟩
theorem nword {b : Bo} {x : Int32} (B : WFb b) (h : ¬ (x < 0 ∨ nI (bN b) ≤ x)) : ∃ w, w < bN b ∧ x = nI w ∧ x.toNatClampNeg = w := by
  rcases isW_or b B x with ⟨w, h1, rfl⟩ | h1
  · exact ⟨w, h1, rfl, nb_cl (by have := B.1; omega)⟩
  · exact absurd h1 h
theorem wo_say (h : WFa A) (x : Int32) : WFa (o_say A x).2 := by
  unfold o_say
  by_cases hx : x < 0 ∨ nI (bN (aB A)) ≤ x
  · rw [if_pos hx]; exact h
  · rw [if_neg hx]
    obtain ⟨w, h1, rfl, h3⟩ := nword h.2.1 hx
    rw [h3]
    repeat' split
    · exact h
    · exact wf_act h (wf_said h.2.2.1 (by have := h.2.2.1.1; omega) h1)
    · exact h
theorem wo_end (h : WFa A) : WFa (o_end A).2 := by
  unfold o_end
  split
  · exact wf_act h (wf_dec h.2.2.1)
  · exact h
theorem wo_finish (h : WFa A) : WFa (o_finish A).2 := by
  unfold o_finish
  split
  · exact h
  · exact wf_act h (wf_pass h.2.2.1)
theorem wo_drop (h : WFa A) : WFa (o_drop A).2 := by
  unfold o_drop
  split
  · exact h
  · exact wf_act h (wf_drop h.2.2.1)
theorem wo_learn (h : WFa A) (x y : Int32) : WFa (o_learn A x y).2 := by
  unfold o_learn
  by_cases hx : (x < 0 ∨ 1 < x) ∨ (y < 0 ∨ nI (bN (aB A)) ≤ y)
  · rw [if_pos hx]; exact h
  · rw [if_neg hx]
    obtain ⟨w, h1, rfl, h3⟩ := nword h.2.1 (fun q => hx (Or.inr q))
    rw [h3]
    exact wf_act h (wf_learn h.2.2.1 h1)
theorem wo_undo (h : WFa A) : WFa (o_undo A).2 := by
  unfold o_undo
  split
  · exact h
  · exact ⟨h.1, h.2.1, h.2.2.2.1.2 _ (by omega), ⟨by show (aU A).1 - 1 ≤ 8; have := h.2.2.2.1.1; omega, fun i hi => h.2.2.2.1.2 i (by have : i < (aU A).1 - 1 := hi; omega)⟩, h.2.2.2.2.1, h.2.2.2.2.2⟩
theorem wo_seen (h : WFa A) (x y : Int32) : WFa (o_seen A x y).2 := by
  unfold o_seen
  by_cases hx : (x < 0 ∨ nI (bN (aB A)) ≤ x) ∨ (y < 0 ∨ 1 < y)
  · rw [if_pos hx]; exact h
  · rw [if_neg hx]
    obtain ⟨w, h1, rfl, h3⟩ := nword h.2.1 (fun q => hx (Or.inl q))
    have hy : y.toNatClampNeg < 2 := by
      rcases nb_three y 2 (by decide) with q | q | ⟨j, hj, rfl⟩
      · exact absurd (Or.inr (Or.inl q)) hx
      · exact absurd (Or.inr (Or.inr (Int32.lt_of_lt_of_le (show (1 : Int32) < nI 2 by decide) q))) hx
      · rw [nb_cl (by omega)]; exact hj
    rw [h3]
    split
    · exact h
    · refine ⟨h.1, h.2.1, h.2.2.1, h.2.2.2.1, h.2.2.2.2.1, by show (aO A).1 + 1 ≤ 8; have := h.2.2.2.2.2.1; omega, fun i hi => ?_⟩
      have hi : i < (aO A).1 + 1 := hi
      show (if i = (aO A).1 then (w, y.toNatClampNeg) else (aO A).2 i).1 < bN (aB A) ∧ (if i = (aO A).1 then (w, y.toNatClampNeg) else (aO A).2 i).2 < 2
      split
      · exact ⟨h1, hy⟩
      · exact h.2.2.2.2.2.2 i (by omega)
theorem wo_forget (h : WFa A) : WFa (o_forget A).2 := ⟨h.1, h.2.1, h.2.2.1, h.2.2.2.1, h.2.2.2.2.1, Nat.zero_le _, fun i hi => absurd hi (Nat.not_lt_zero i)⟩
theorem wo_keep (h : WFa A) : WFa (o_keep A).2 := by
  unfold o_keep
  split
  · exact h
  · refine ⟨h.1, h.2.1, h.2.2.1, h.2.2.2.1, ⟨by show (aK A).1 + 1 ≤ 2; have := h.2.2.2.2.1.1; omega, fun i hi => ?_⟩, h.2.2.2.2.2⟩
    have hi : i < (aK A).1 + 1 := hi
    show WFs _ (if i = (aK A).1 then aS A else (aK A).2 i)
    split
    · exact h.2.2.1
    · exact h.2.2.2.2.1.2 i (by omega)
theorem wo_back (h : WFa A) : WFa (o_back A).2 := by
  unfold o_back
  split
  · exact h
  · exact ⟨h.1, h.2.1, h.2.2.2.2.1.2 _ (by omega), ⟨Nat.zero_le _, fun i hi => absurd hi (Nat.not_lt_zero i)⟩, ⟨by show (aK A).1 - 1 ≤ 2; have := h.2.2.2.2.1.1; omega, fun i hi => h.2.2.2.2.1.2 i (by have : i < (aK A).1 - 1 := hi; omega)⟩, h.2.2.2.2.2⟩
end Wf
