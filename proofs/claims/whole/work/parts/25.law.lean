/-! the law's loop as a function, and its run -/
section LawRules
variable {M : mx_Mt} {sc : mx_Sc} {r : List mx_In} {loc : mx_Lc} {st : List Value} {h : mx_Hp} {k z pc len a b : Nat} {cc : Int32} {lw : List (Int32 × Nat)} {q : mx_Rs}
theorem mx_e_si {j : Int32} (hs : sc.1 = true) (hj : 0 ≤ j ∧ j.toNatClampNeg < sc.2.1) (K : mx_Ev M sc (r, loc, .int (sc.2.2 j.toNatClampNeg) :: st, h, k, z) q) : mx_Ev M sc ((pc, .iaload, len, a, b, cc, lw) :: r, loc, .int j :: .ref mx_SCR :: st, h, k, z) q := by
  refine mx_Ev.go ?_ K
  unfold mx_step
  dsimp only
  unfold mx_step1
  dsimp only
  unfold mx_sIald
  dsimp only
  rw [if_pos rfl, if_pos ⟨hs, hj⟩]
  rfl
theorem mx_e_sl (hs : sc.1 = true) (K : mx_Ev M sc (r, loc, .int (Int32.ofNat sc.2.1) :: st, h, k, z) q) : mx_Ev M sc ((pc, .arraylength, len, a, b, cc, lw) :: r, loc, .ref mx_SCR :: st, h, k, z) q := by
  refine mx_Ev.go ?_ K
  unfold mx_step
  dsimp only
  unfold mx_step1
  dsimp only
  unfold mx_sAlen
  dsimp only
  rw [if_pos rfl, if_pos hs]
  rfl
theorem mx_e_rbk {x : Int32} (hr : M.2.2.2.2.1 = some .boolean) (hx : x = 0 ∨ x = 1) (hk : k ≤ M.2.2.2.2.2.2.1.cells ∧ z ≤ M.2.2.2.2.2.2.1.slots) : mx_Ev M sc ((pc, .ireturn, len, a, b, cc, lw) :: r, loc, [.int x], h, k, z) (some (.int x), h) := by
  refine mx_Ev.ret ?_
  unfold mx_step
  dsimp only
  unfold mx_step1
  dsimp only
  unfold mx_sIret mx_ret
  dsimp only
  rw [if_pos (Or.inr ⟨hr, hx⟩), if_pos hk]
end LawRules
def f_L_law_L18 (sc : mx_Sc) (l1 : Nat) (l2 : Nat)  : (Int32 × mx_Hp → Option (Int32 × mx_Hp)) → Int32 × mx_Hp → Option (Int32 × mx_Hp) := fun self s =>
  if ((Int32.ofNat sc.2.1) - 4) < s.1 then
  some (1, s.2)
  else
  if 0 ≤ s.1 ∧ (s.1).toNatClampNeg < sc.2.1 then
  (if ((sc.2.2 (s.1).toNatClampNeg) &&& 31) = 0 then
  if 0 ≤ (s.1 + 1) ∧ ((s.1 + 1)).toNatClampNeg < sc.2.1 then
  (if l1 < s.2.1 ∧ (mx_lay l1).1 = 14 then
  ((f_X11_write l1 (sc.2.2 ((s.1 + 1)).toNatClampNeg) s.2).bind fun x8 =>
  if 0 ≤ (s.1 + 1) ∧ ((s.1 + 1)).toNatClampNeg < sc.2.1 then
  (if l2 < x8.2.1 ∧ (mx_lay l2).1 = 15 then
  ((f_X12_write l2 (sc.2.2 ((s.1 + 1)).toNatClampNeg) x8.2).bind fun x12 =>
  if x8.1 = x12.1 then
  self ((s.1 + 4), x12.2)
  else
  some (0, x12.2))
  else none)
  else none)
  else none)
  else none
  else
  if ((sc.2.2 (s.1).toNatClampNeg) &&& 31) = 1 then
  if l1 < s.2.1 ∧ (mx_lay l1).1 = 14 then
  ((f_X11_wipe l1 s.2).bind fun x16 =>
  if l2 < x16.2.1 ∧ (mx_lay l2).1 = 15 then
  ((f_X12_wipe l2 x16.2).bind fun x18 =>
  if x16.1 = x18.1 then
  self ((s.1 + 4), x18.2)
  else
  some (0, x18.2))
  else none)
  else none
  else
  if ((sc.2.2 (s.1).toNatClampNeg) &&& 31) = 2 then
  if l1 < s.2.1 ∧ (mx_lay l1).1 = 14 then
  ((f_X11_fault l1 s.2).bind fun x22 =>
  if l2 < x22.2.1 ∧ (mx_lay l2).1 = 15 then
  ((f_X12_fault l2 x22.2).bind fun x24 =>
  if x22.1 = x24.1 then
  self ((s.1 + 4), x24.2)
  else
  some (0, x24.2))
  else none)
  else none
  else
  if ((sc.2.2 (s.1).toNatClampNeg) &&& 31) = 3 then
  if l1 < s.2.1 ∧ (mx_lay l1).1 = 14 then
  ((f_X11_lay l1 s.2).bind fun x28 =>
  if l2 < x28.2.1 ∧ (mx_lay l2).1 = 15 then
  ((f_X12_lay l2 x28.2).bind fun x30 =>
  if x28.1 = x30.1 then
  self ((s.1 + 4), x30.2)
  else
  some (0, x30.2))
  else none)
  else none
  else
  if ((sc.2.2 (s.1).toNatClampNeg) &&& 31) = 4 then
  if 0 ≤ (s.1 + 1) ∧ ((s.1 + 1)).toNatClampNeg < sc.2.1 then
  (if 0 ≤ (s.1 + 2) ∧ ((s.1 + 2)).toNatClampNeg < sc.2.1 then
  (if l1 < s.2.1 ∧ (mx_lay l1).1 = 14 then
  ((f_X11_word l1 (sc.2.2 ((s.1 + 1)).toNatClampNeg) (sc.2.2 ((s.1 + 2)).toNatClampNeg) s.2).bind fun x38 =>
  if 0 ≤ (s.1 + 1) ∧ ((s.1 + 1)).toNatClampNeg < sc.2.1 then
  (if 0 ≤ (s.1 + 2) ∧ ((s.1 + 2)).toNatClampNeg < sc.2.1 then
  (if l2 < s.2.1 ∧ (mx_lay l2).1 = 15 then
  ((f_X12_word l2 (sc.2.2 ((s.1 + 1)).toNatClampNeg) (sc.2.2 ((s.1 + 2)).toNatClampNeg) s.2).bind fun x44 =>
  if x38 = x44 then
  self ((s.1 + 4), s.2)
  else
  some (0, s.2))
  else none)
  else none)
  else none)
  else none)
  else none)
  else none
  else
  if ((sc.2.2 (s.1).toNatClampNeg) &&& 31) = 5 then
  if 0 ≤ (s.1 + 1) ∧ ((s.1 + 1)).toNatClampNeg < sc.2.1 then
  (if 0 ≤ (s.1 + 2) ∧ ((s.1 + 2)).toNatClampNeg < sc.2.1 then
  (if l1 < s.2.1 ∧ (mx_lay l1).1 = 14 then
  ((f_X11_mayor l1 (sc.2.2 ((s.1 + 1)).toNatClampNeg) (sc.2.2 ((s.1 + 2)).toNatClampNeg) s.2).bind fun x52 =>
  if 0 ≤ (s.1 + 1) ∧ ((s.1 + 1)).toNatClampNeg < sc.2.1 then
  (if 0 ≤ (s.1 + 2) ∧ ((s.1 + 2)).toNatClampNeg < sc.2.1 then
  (if l2 < s.2.1 ∧ (mx_lay l2).1 = 15 then
  ((f_X12_mayor l2 (sc.2.2 ((s.1 + 1)).toNatClampNeg) (sc.2.2 ((s.1 + 2)).toNatClampNeg) s.2).bind fun x58 =>
  if x52 = x58 then
  self ((s.1 + 4), s.2)
  else
  some (0, s.2))
  else none)
  else none)
  else none)
  else none)
  else none)
  else none
  else
  if ((sc.2.2 (s.1).toNatClampNeg) &&& 31) = 6 then
  if 0 ≤ (s.1 + 1) ∧ ((s.1 + 1)).toNatClampNeg < sc.2.1 then
  (if l1 < s.2.1 ∧ (mx_lay l1).1 = 14 then
  ((f_X11_said l1 (sc.2.2 ((s.1 + 1)).toNatClampNeg) s.2).bind fun x64 =>
  if 0 ≤ (s.1 + 1) ∧ ((s.1 + 1)).toNatClampNeg < sc.2.1 then
  (if l2 < s.2.1 ∧ (mx_lay l2).1 = 15 then
  ((f_X12_said l2 (sc.2.2 ((s.1 + 1)).toNatClampNeg) s.2).bind fun x68 =>
  if x64 = x68 then
  self ((s.1 + 4), s.2)
  else
  some (0, s.2))
  else none)
  else none)
  else none)
  else none
  else
  if ((sc.2.2 (s.1).toNatClampNeg) &&& 31) = 7 then
  if 0 ≤ (s.1 + 1) ∧ ((s.1 + 1)).toNatClampNeg < sc.2.1 then
  (if l1 < s.2.1 ∧ (mx_lay l1).1 = 14 then
  ((f_X11_say l1 (sc.2.2 ((s.1 + 1)).toNatClampNeg) s.2).bind fun x74 =>
  if 0 ≤ (s.1 + 1) ∧ ((s.1 + 1)).toNatClampNeg < sc.2.1 then
  (if l2 < x74.2.1 ∧ (mx_lay l2).1 = 15 then
  ((f_X12_say l2 (sc.2.2 ((s.1 + 1)).toNatClampNeg) x74.2).bind fun x78 =>
  if x74.1 = x78.1 then
  self ((s.1 + 4), x78.2)
  else
  some (0, x78.2))
  else none)
  else none)
  else none)
  else none
  else
  if ((sc.2.2 (s.1).toNatClampNeg) &&& 31) = 8 then
  if l1 < s.2.1 ∧ (mx_lay l1).1 = 14 then
  ((f_X11_end l1 s.2).bind fun x82 =>
  if l2 < x82.2.1 ∧ (mx_lay l2).1 = 15 then
  ((f_X12_end l2 x82.2).bind fun x84 =>
  if x82.1 = x84.1 then
  self ((s.1 + 4), x84.2)
  else
  some (0, x84.2))
  else none)
  else none
  else
  if ((sc.2.2 (s.1).toNatClampNeg) &&& 31) = 9 then
  if l1 < s.2.1 ∧ (mx_lay l1).1 = 14 then
  ((f_X11_finish l1 s.2).bind fun x88 =>
  if l2 < x88.2.1 ∧ (mx_lay l2).1 = 15 then
  ((f_X12_finish l2 x88.2).bind fun x90 =>
  if x88.1 = x90.1 then
  self ((s.1 + 4), x90.2)
  else
  some (0, x90.2))
  else none)
  else none
  else
  if ((sc.2.2 (s.1).toNatClampNeg) &&& 31) = 10 then
  if l1 < s.2.1 ∧ (mx_lay l1).1 = 14 then
  ((f_X11_drop l1 s.2).bind fun x94 =>
  if l2 < x94.2.1 ∧ (mx_lay l2).1 = 15 then
  ((f_X12_drop l2 x94.2).bind fun x96 =>
  if x94.1 = x96.1 then
  self ((s.1 + 4), x96.2)
  else
  some (0, x96.2))
  else none)
  else none
  else
  if ((sc.2.2 (s.1).toNatClampNeg) &&& 31) = 11 then
  if 0 ≤ (s.1 + 1) ∧ ((s.1 + 1)).toNatClampNeg < sc.2.1 then
  (if 0 ≤ (s.1 + 2) ∧ ((s.1 + 2)).toNatClampNeg < sc.2.1 then
  (if l1 < s.2.1 ∧ (mx_lay l1).1 = 14 then
  ((f_X11_learn l1 (sc.2.2 ((s.1 + 1)).toNatClampNeg) (sc.2.2 ((s.1 + 2)).toNatClampNeg) s.2).bind fun x104 =>
  if 0 ≤ (s.1 + 1) ∧ ((s.1 + 1)).toNatClampNeg < sc.2.1 then
  (if 0 ≤ (s.1 + 2) ∧ ((s.1 + 2)).toNatClampNeg < sc.2.1 then
  (if l2 < x104.2.1 ∧ (mx_lay l2).1 = 15 then
  ((f_X12_learn l2 (sc.2.2 ((s.1 + 1)).toNatClampNeg) (sc.2.2 ((s.1 + 2)).toNatClampNeg) x104.2).bind fun x110 =>
  if x104.1 = x110.1 then
  self ((s.1 + 4), x110.2)
  else
  some (0, x110.2))
  else none)
  else none)
  else none)
  else none)
  else none)
  else none
  else
  if ((sc.2.2 (s.1).toNatClampNeg) &&& 31) = 12 then
  if l1 < s.2.1 ∧ (mx_lay l1).1 = 14 then
  ((f_X11_undo l1 s.2).bind fun x114 =>
  if l2 < x114.2.1 ∧ (mx_lay l2).1 = 15 then
  ((f_X12_undo l2 x114.2).bind fun x116 =>
  if x114.1 = x116.1 then
  self ((s.1 + 4), x116.2)
  else
  some (0, x116.2))
  else none)
  else none
  else
  if ((sc.2.2 (s.1).toNatClampNeg) &&& 31) = 13 then
  if 0 ≤ (s.1 + 1) ∧ ((s.1 + 1)).toNatClampNeg < sc.2.1 then
  (if l1 < s.2.1 ∧ (mx_lay l1).1 = 14 then
  ((f_X11_finishing l1 (sc.2.2 ((s.1 + 1)).toNatClampNeg) s.2).bind fun x122 =>
  if 0 ≤ (s.1 + 1) ∧ ((s.1 + 1)).toNatClampNeg < sc.2.1 then
  (if l2 < x122.2.1 ∧ (mx_lay l2).1 = 15 then
  ((f_X12_finishing l2 (sc.2.2 ((s.1 + 1)).toNatClampNeg) x122.2).bind fun x126 =>
  if x122.1 = x126.1 then
  self ((s.1 + 4), x126.2)
  else
  some (0, x126.2))
  else none)
  else none)
  else none)
  else none
  else
  if ((sc.2.2 (s.1).toNatClampNeg) &&& 31) = 14 then
  if 0 ≤ (s.1 + 1) ∧ ((s.1 + 1)).toNatClampNeg < sc.2.1 then
  (if 0 ≤ (s.1 + 2) ∧ ((s.1 + 2)).toNatClampNeg < sc.2.1 then
  (if l1 < s.2.1 ∧ (mx_lay l1).1 = 14 then
  ((f_X11_safe l1 (sc.2.2 ((s.1 + 1)).toNatClampNeg) (sc.2.2 ((s.1 + 2)).toNatClampNeg) s.2).bind fun x134 =>
  if 0 ≤ (s.1 + 1) ∧ ((s.1 + 1)).toNatClampNeg < sc.2.1 then
  (if 0 ≤ (s.1 + 2) ∧ ((s.1 + 2)).toNatClampNeg < sc.2.1 then
  (if l2 < x134.2.1 ∧ (mx_lay l2).1 = 15 then
  ((f_X12_safe l2 (sc.2.2 ((s.1 + 1)).toNatClampNeg) (sc.2.2 ((s.1 + 2)).toNatClampNeg) x134.2).bind fun x140 =>
  if x134.1 = x140.1 then
  self ((s.1 + 4), x140.2)
  else
  some (0, x140.2))
  else none)
  else none)
  else none)
  else none)
  else none)
  else none
  else
  if ((sc.2.2 (s.1).toNatClampNeg) &&& 31) = 15 then
  if 0 ≤ (s.1 + 1) ∧ ((s.1 + 1)).toNatClampNeg < sc.2.1 then
  (if 0 ≤ (s.1 + 2) ∧ ((s.1 + 2)).toNatClampNeg < sc.2.1 then
  (if l1 < s.2.1 ∧ (mx_lay l1).1 = 14 then
  ((f_X11_best l1 (sc.2.2 ((s.1 + 1)).toNatClampNeg) (sc.2.2 ((s.1 + 2)).toNatClampNeg) s.2).bind fun x148 =>
  if 0 ≤ (s.1 + 1) ∧ ((s.1 + 1)).toNatClampNeg < sc.2.1 then
  (if 0 ≤ (s.1 + 2) ∧ ((s.1 + 2)).toNatClampNeg < sc.2.1 then
  (if l2 < x148.2.1 ∧ (mx_lay l2).1 = 15 then
  ((f_X12_best l2 (sc.2.2 ((s.1 + 1)).toNatClampNeg) (sc.2.2 ((s.1 + 2)).toNatClampNeg) x148.2).bind fun x154 =>
  if x148.1 = x154.1 then
  self ((s.1 + 4), x154.2)
  else
  some (0, x154.2))
  else none)
  else none)
  else none)
  else none)
  else none)
  else none
  else
  if ((sc.2.2 (s.1).toNatClampNeg) &&& 31) = 16 then
  if 0 ≤ (s.1 + 1) ∧ ((s.1 + 1)).toNatClampNeg < sc.2.1 then
  (if 0 ≤ (s.1 + 2) ∧ ((s.1 + 2)).toNatClampNeg < sc.2.1 then
  (if l1 < s.2.1 ∧ (mx_lay l1).1 = 14 then
  ((f_X11_lure l1 (sc.2.2 ((s.1 + 1)).toNatClampNeg) (sc.2.2 ((s.1 + 2)).toNatClampNeg) s.2).bind fun x162 =>
  if 0 ≤ (s.1 + 1) ∧ ((s.1 + 1)).toNatClampNeg < sc.2.1 then
  (if 0 ≤ (s.1 + 2) ∧ ((s.1 + 2)).toNatClampNeg < sc.2.1 then
  (if l2 < x162.2.1 ∧ (mx_lay l2).1 = 15 then
  ((f_X12_lure l2 (sc.2.2 ((s.1 + 1)).toNatClampNeg) (sc.2.2 ((s.1 + 2)).toNatClampNeg) x162.2).bind fun x168 =>
  if x162.1 = x168.1 then
  self ((s.1 + 4), x168.2)
  else
  some (0, x168.2))
  else none)
  else none)
  else none)
  else none)
  else none)
  else none
  else
  if ((sc.2.2 (s.1).toNatClampNeg) &&& 31) = 17 then
  if 0 ≤ (s.1 + 1) ∧ ((s.1 + 1)).toNatClampNeg < sc.2.1 then
  (if l1 < s.2.1 ∧ (mx_lay l1).1 = 14 then
  ((f_X11_sitting l1 (sc.2.2 ((s.1 + 1)).toNatClampNeg) s.2).bind fun x174 =>
  if 0 ≤ (s.1 + 1) ∧ ((s.1 + 1)).toNatClampNeg < sc.2.1 then
  (if l2 < s.2.1 ∧ (mx_lay l2).1 = 15 then
  ((f_X12_sitting l2 (sc.2.2 ((s.1 + 1)).toNatClampNeg) s.2).bind fun x178 =>
  if x174 = x178 then
  self ((s.1 + 4), s.2)
  else
  some (0, s.2))
  else none)
  else none)
  else none)
  else none
  else
  if ((sc.2.2 (s.1).toNatClampNeg) &&& 31) = 18 then
  if 0 ≤ (s.1 + 1) ∧ ((s.1 + 1)).toNatClampNeg < sc.2.1 then
  (if 0 ≤ (s.1 + 2) ∧ ((s.1 + 2)).toNatClampNeg < sc.2.1 then
  (if l1 < s.2.1 ∧ (mx_lay l1).1 = 14 then
  ((f_X11_ways l1 (sc.2.2 ((s.1 + 1)).toNatClampNeg) (sc.2.2 ((s.1 + 2)).toNatClampNeg) s.2).bind fun x186 =>
  if 0 ≤ (s.1 + 1) ∧ ((s.1 + 1)).toNatClampNeg < sc.2.1 then
  (if 0 ≤ (s.1 + 2) ∧ ((s.1 + 2)).toNatClampNeg < sc.2.1 then
  (if l2 < x186.2.1 ∧ (mx_lay l2).1 = 15 then
  ((f_X12_ways l2 (sc.2.2 ((s.1 + 1)).toNatClampNeg) (sc.2.2 ((s.1 + 2)).toNatClampNeg) x186.2).bind fun x192 =>
  if x186.1 = x192.1 then
  self ((s.1 + 4), x192.2)
  else
  some (0, x192.2))
  else none)
  else none)
  else none)
  else none)
  else none)
  else none
  else
  if ((sc.2.2 (s.1).toNatClampNeg) &&& 31) = 19 then
  if 0 ≤ (s.1 + 1) ∧ ((s.1 + 1)).toNatClampNeg < sc.2.1 then
  (if 0 ≤ (s.1 + 2) ∧ ((s.1 + 2)).toNatClampNeg < sc.2.1 then
  (if l1 < s.2.1 ∧ (mx_lay l1).1 = 14 then
  ((f_X11_seen l1 (sc.2.2 ((s.1 + 1)).toNatClampNeg) (sc.2.2 ((s.1 + 2)).toNatClampNeg) s.2).bind fun x200 =>
  if 0 ≤ (s.1 + 1) ∧ ((s.1 + 1)).toNatClampNeg < sc.2.1 then
  (if 0 ≤ (s.1 + 2) ∧ ((s.1 + 2)).toNatClampNeg < sc.2.1 then
  (if l2 < x200.2.1 ∧ (mx_lay l2).1 = 15 then
  ((f_X12_seen l2 (sc.2.2 ((s.1 + 1)).toNatClampNeg) (sc.2.2 ((s.1 + 2)).toNatClampNeg) x200.2).bind fun x206 =>
  if x200.1 = x206.1 then
  self ((s.1 + 4), x206.2)
  else
  some (0, x206.2))
  else none)
  else none)
  else none)
  else none)
  else none)
  else none
  else
  if ((sc.2.2 (s.1).toNatClampNeg) &&& 31) = 20 then
  if l1 < s.2.1 ∧ (mx_lay l1).1 = 14 then
  ((f_X11_forget l1 s.2).bind fun x210 =>
  if l2 < x210.2.1 ∧ (mx_lay l2).1 = 15 then
  ((f_X12_forget l2 x210.2).bind fun x212 =>
  if x210.1 = x212.1 then
  self ((s.1 + 4), x212.2)
  else
  some (0, x212.2))
  else none)
  else none
  else
  if ((sc.2.2 (s.1).toNatClampNeg) &&& 31) = 21 then
  if 0 ≤ (s.1 + 1) ∧ ((s.1 + 1)).toNatClampNeg < sc.2.1 then
  (if l1 < s.2.1 ∧ (mx_lay l1).1 = 14 then
  ((f_X11_guessed l1 (sc.2.2 ((s.1 + 1)).toNatClampNeg) s.2).bind fun x218 =>
  if 0 ≤ (s.1 + 1) ∧ ((s.1 + 1)).toNatClampNeg < sc.2.1 then
  (if l2 < x218.2.1 ∧ (mx_lay l2).1 = 15 then
  ((f_X12_guessed l2 (sc.2.2 ((s.1 + 1)).toNatClampNeg) x218.2).bind fun x222 =>
  if x218.1 = x222.1 then
  self ((s.1 + 4), x222.2)
  else
  some (0, x222.2))
  else none)
  else none)
  else none)
  else none
  else
  if ((sc.2.2 (s.1).toNatClampNeg) &&& 31) = 22 then
  if 0 ≤ (s.1 + 1) ∧ ((s.1 + 1)).toNatClampNeg < sc.2.1 then
  (if 0 ≤ (s.1 + 2) ∧ ((s.1 + 2)).toNatClampNeg < sc.2.1 then
  (if 0 ≤ (s.1 + 3) ∧ ((s.1 + 3)).toNatClampNeg < sc.2.1 then
  (if l1 < s.2.1 ∧ (mx_lay l1).1 = 14 then
  ((f_X11_council l1 (sc.2.2 ((s.1 + 1)).toNatClampNeg) (sc.2.2 ((s.1 + 2)).toNatClampNeg) (sc.2.2 ((s.1 + 3)).toNatClampNeg) s.2).bind fun x232 =>
  if 0 ≤ (s.1 + 1) ∧ ((s.1 + 1)).toNatClampNeg < sc.2.1 then
  (if 0 ≤ (s.1 + 2) ∧ ((s.1 + 2)).toNatClampNeg < sc.2.1 then
  (if 0 ≤ (s.1 + 3) ∧ ((s.1 + 3)).toNatClampNeg < sc.2.1 then
  (if l2 < x232.2.1 ∧ (mx_lay l2).1 = 15 then
  ((f_X12_council l2 (sc.2.2 ((s.1 + 1)).toNatClampNeg) (sc.2.2 ((s.1 + 2)).toNatClampNeg) (sc.2.2 ((s.1 + 3)).toNatClampNeg) x232.2).bind fun x240 =>
  if x232.1 = x240.1 then
  self ((s.1 + 4), x240.2)
  else
  some (0, x240.2))
  else none)
  else none)
  else none)
  else none)
  else none)
  else none)
  else none)
  else none
  else
  if ((sc.2.2 (s.1).toNatClampNeg) &&& 31) = 23 then
  if l1 < s.2.1 ∧ (mx_lay l1).1 = 14 then
  ((f_X11_keep l1 s.2).bind fun x244 =>
  if l2 < x244.2.1 ∧ (mx_lay l2).1 = 15 then
  ((f_X12_keep l2 x244.2).bind fun x246 =>
  if x244.1 = x246.1 then
  self ((s.1 + 4), x246.2)
  else
  some (0, x246.2))
  else none)
  else none
  else
  if ((sc.2.2 (s.1).toNatClampNeg) &&& 31) = 24 then
  if l1 < s.2.1 ∧ (mx_lay l1).1 = 14 then
  ((f_X11_back l1 s.2).bind fun x250 =>
  if l2 < x250.2.1 ∧ (mx_lay l2).1 = 15 then
  ((f_X12_back l2 x250.2).bind fun x252 =>
  if x250.1 = x252.1 then
  self ((s.1 + 4), x252.2)
  else
  some (0, x252.2))
  else none)
  else none
  else
  if ((sc.2.2 (s.1).toNatClampNeg) &&& 31) = 25 then
  if 0 ≤ (s.1 + 1) ∧ ((s.1 + 1)).toNatClampNeg < sc.2.1 then
  (if l1 < s.2.1 ∧ (mx_lay l1).1 = 14 then
  ((f_X11_count l1 (sc.2.2 ((s.1 + 1)).toNatClampNeg) s.2).bind fun x258 =>
  if 0 ≤ (s.1 + 1) ∧ ((s.1 + 1)).toNatClampNeg < sc.2.1 then
  (if l2 < s.2.1 ∧ (mx_lay l2).1 = 15 then
  ((f_X12_count l2 (sc.2.2 ((s.1 + 1)).toNatClampNeg) s.2).bind fun x262 =>
  if x258 = x262 then
  self ((s.1 + 4), s.2)
  else
  some (0, s.2))
  else none)
  else none)
  else none)
  else none
  else
  self ((s.1 + 4), s.2))
  else none
set_option maxRecDepth 20000 in
set_option maxHeartbeats 1000000 in
theorem e_f_L_law_L18 (sc : mx_Sc) (hsc : sc.1 = true) (l1 : Nat) (l2 : Nat)   : ∀ (n : Nat) (s3 : Int32) (hh : mx_Hp) res, mx_fix (f_L_law_L18 sc l1 l2 ) n (s3, hh) = some res → mx_Ev mx_k_L_law sc (mx_b_L_law 18, [some (.ref mx_SCR), some (.ref l1), some (.ref l2), some (.int s3)], [], hh, 160, 2857) (some (.int res.1), res.2) := by
  intro n
  induction n with
  | zero => intro s3 hh res hq; cases hq
  | succ n ih =>
    intro s3 hh res hq
    unfold mx_fix at hq
    generalize mx_fix (f_L_law_L18 sc l1 l2 ) n = S at hq ih
    unfold f_L_law_L18 at hq
    try dsimp only at hq
    refine mx_p_iln rfl ?_
    refine mx_p_aln rfl ?_
    refine mx_e_sl hsc ?_
    refine mx_p_ic ?_
    refine mx_p_isub ?_
    by_cases hc266 : ((Int32.ofNat sc.2.1) - 4) < s3
    · rw [if_pos hc266] at hq
      refine mx_e_it (decide_eq_true hc266) ?_
      refine mx_p_ic ?_
      cases hq; exact mx_e_rbk rfl (by decide) (by decide)
    · rw [if_neg hc266] at hq
      refine mx_e_if (fun z => hc266 (of_decide_eq_true z)) ?_
      refine mx_p_aln rfl ?_
      refine mx_p_iln rfl ?_
      have hi268 : 0 ≤ s3 ∧ (s3).toNatClampNeg < sc.2.1 := by
        by_cases hh : 0 ≤ s3 ∧ (s3).toNatClampNeg < sc.2.1
        · exact hh
        · rw [if_neg hh] at hq; cases hq
      rw [if_pos hi268] at hq
      refine mx_e_si hsc hi268 ?_
      refine mx_p_bp ?_
      refine mx_p_iand ?_
      by_cases hw269 : ((sc.2.2 (s3).toNatClampNeg) &&& 31) = 0
      · rw [if_pos hw269] at hq
        refine mx_e_sw (mx_sw_t hw269) ?_
        refine mx_p_aln rfl ?_
        refine mx_p_aln rfl ?_
        refine mx_p_iln rfl ?_
        refine mx_p_ic ?_
        refine mx_p_iadd ?_
        have hi271 : 0 ≤ (s3 + 1) ∧ ((s3 + 1)).toNatClampNeg < sc.2.1 := by
          by_cases hh : 0 ≤ (s3 + 1) ∧ ((s3 + 1)).toNatClampNeg < sc.2.1
          · exact hh
          · rw [if_neg hh] at hq; cases hq
        rw [if_pos hi271] at hq
        refine mx_e_si hsc hi271 ?_
        have ho273 : l1 < hh.1 ∧ (mx_lay l1).1 = 14 := by
          by_cases hh : l1 < hh.1 ∧ (mx_lay l1).1 = 14
          · exact hh
          · rw [if_neg hh] at hq; cases hq
        rw [if_pos ho273] at hq
        obtain ⟨x272, hx272, hq⟩ := mx_bS hq
        refine mx_e_cv mx_t_X11_write ho273 rfl rfl rfl ⟨Nat.le_of_ble_eq_true rfl, Nat.le_of_ble_eq_true rfl, Nat.le_of_ble_eq_true rfl⟩ (Nat.le_of_ble_eq_true rfl) rfl rfl rfl (by decide) (t_X11_write hx272) ?_
        refine mx_p_aln rfl ?_
        refine mx_p_aln rfl ?_
        refine mx_p_iln rfl ?_
        refine mx_p_ic ?_
        refine mx_p_iadd ?_
        have hi275 : 0 ≤ (s3 + 1) ∧ ((s3 + 1)).toNatClampNeg < sc.2.1 := by
          by_cases hh : 0 ≤ (s3 + 1) ∧ ((s3 + 1)).toNatClampNeg < sc.2.1
          · exact hh
          · rw [if_neg hh] at hq; cases hq
        rw [if_pos hi275] at hq
        refine mx_e_si hsc hi275 ?_
        have ho277 : l2 < x272.2.1 ∧ (mx_lay l2).1 = 15 := by
          by_cases hh : l2 < x272.2.1 ∧ (mx_lay l2).1 = 15
          · exact hh
          · rw [if_neg hh] at hq; cases hq
        rw [if_pos ho277] at hq
        obtain ⟨x276, hx276, hq⟩ := mx_bS hq
        refine mx_e_cv mx_t_X12_write ho277 rfl rfl rfl ⟨Nat.le_of_ble_eq_true rfl, Nat.le_of_ble_eq_true rfl, Nat.le_of_ble_eq_true rfl⟩ (Nat.le_of_ble_eq_true rfl) rfl rfl rfl (by decide) (t_X12_write hx276) ?_
        by_cases hc278 : x272.1 = x276.1
        · rw [if_pos hc278] at hq
          refine mx_e_it (decide_eq_true hc278) ?_
          refine mx_p_inc (loc' := [some (.ref mx_SCR), some (.ref l1), some (.ref l2), some (.int (s3 + 4))]) rfl rfl ?_
          refine mx_p_gt ?_
          have HB := ih (s3 + 4) x276.2 _ hq
          exact mx_Ev.weak (mx_le.same _ (mx_le.same _ (mx_le.same _ (mx_le.same _ (mx_le.nil))))) HB
        · rw [if_neg hc278] at hq
          refine mx_e_if (fun z => hc278 (of_decide_eq_true z)) ?_
          refine mx_p_ic ?_
          cases hq; exact mx_e_rbk rfl (by decide) (by decide)
      rw [if_neg hw269] at hq
      by_cases hw279 : ((sc.2.2 (s3).toNatClampNeg) &&& 31) = 1
      · rw [if_pos hw279] at hq
        refine mx_e_sw (mx_sw_f hw269 (mx_sw_t hw279)) ?_
        refine mx_p_aln rfl ?_
        have ho281 : l1 < hh.1 ∧ (mx_lay l1).1 = 14 := by
          by_cases hh : l1 < hh.1 ∧ (mx_lay l1).1 = 14
          · exact hh
          · rw [if_neg hh] at hq; cases hq
        rw [if_pos ho281] at hq
        obtain ⟨x280, hx280, hq⟩ := mx_bS hq
        refine mx_e_cv mx_t_X11_wipe ho281 rfl rfl rfl ⟨Nat.le_of_ble_eq_true rfl, Nat.le_of_ble_eq_true rfl, Nat.le_of_ble_eq_true rfl⟩ (Nat.le_of_ble_eq_true rfl) rfl rfl rfl (by decide) (t_X11_wipe hx280) ?_
        refine mx_p_aln rfl ?_
        have ho283 : l2 < x280.2.1 ∧ (mx_lay l2).1 = 15 := by
          by_cases hh : l2 < x280.2.1 ∧ (mx_lay l2).1 = 15
          · exact hh
          · rw [if_neg hh] at hq; cases hq
        rw [if_pos ho283] at hq
        obtain ⟨x282, hx282, hq⟩ := mx_bS hq
        refine mx_e_cv mx_t_X12_wipe ho283 rfl rfl rfl ⟨Nat.le_of_ble_eq_true rfl, Nat.le_of_ble_eq_true rfl, Nat.le_of_ble_eq_true rfl⟩ (Nat.le_of_ble_eq_true rfl) rfl rfl rfl (by decide) (t_X12_wipe hx282) ?_
        by_cases hc284 : x280.1 = x282.1
        · rw [if_pos hc284] at hq
          refine mx_e_it (decide_eq_true hc284) ?_
          refine mx_p_inc (loc' := [some (.ref mx_SCR), some (.ref l1), some (.ref l2), some (.int (s3 + 4))]) rfl rfl ?_
          refine mx_p_gt ?_
          have HB := ih (s3 + 4) x282.2 _ hq
          exact mx_Ev.weak (mx_le.same _ (mx_le.same _ (mx_le.same _ (mx_le.same _ (mx_le.nil))))) HB
        · rw [if_neg hc284] at hq
          refine mx_e_if (fun z => hc284 (of_decide_eq_true z)) ?_
          refine mx_p_ic ?_
          cases hq; exact mx_e_rbk rfl (by decide) (by decide)
      rw [if_neg hw279] at hq
      by_cases hw285 : ((sc.2.2 (s3).toNatClampNeg) &&& 31) = 2
      · rw [if_pos hw285] at hq
        refine mx_e_sw (mx_sw_f hw269 (mx_sw_f hw279 (mx_sw_t hw285))) ?_
        refine mx_p_aln rfl ?_
        have ho287 : l1 < hh.1 ∧ (mx_lay l1).1 = 14 := by
          by_cases hh : l1 < hh.1 ∧ (mx_lay l1).1 = 14
          · exact hh
          · rw [if_neg hh] at hq; cases hq
        rw [if_pos ho287] at hq
        obtain ⟨x286, hx286, hq⟩ := mx_bS hq
        refine mx_e_cv mx_t_X11_fault ho287 rfl rfl rfl ⟨Nat.le_of_ble_eq_true rfl, Nat.le_of_ble_eq_true rfl, Nat.le_of_ble_eq_true rfl⟩ (Nat.le_of_ble_eq_true rfl) rfl rfl rfl (by decide) (t_X11_fault hx286) ?_
        refine mx_p_aln rfl ?_
        have ho289 : l2 < x286.2.1 ∧ (mx_lay l2).1 = 15 := by
          by_cases hh : l2 < x286.2.1 ∧ (mx_lay l2).1 = 15
          · exact hh
          · rw [if_neg hh] at hq; cases hq
        rw [if_pos ho289] at hq
        obtain ⟨x288, hx288, hq⟩ := mx_bS hq
        refine mx_e_cv mx_t_X12_fault ho289 rfl rfl rfl ⟨Nat.le_of_ble_eq_true rfl, Nat.le_of_ble_eq_true rfl, Nat.le_of_ble_eq_true rfl⟩ (Nat.le_of_ble_eq_true rfl) rfl rfl rfl (by decide) (t_X12_fault hx288) ?_
        by_cases hc290 : x286.1 = x288.1
        · rw [if_pos hc290] at hq
          refine mx_e_it (decide_eq_true hc290) ?_
          refine mx_p_inc (loc' := [some (.ref mx_SCR), some (.ref l1), some (.ref l2), some (.int (s3 + 4))]) rfl rfl ?_
          refine mx_p_gt ?_
          have HB := ih (s3 + 4) x288.2 _ hq
          exact mx_Ev.weak (mx_le.same _ (mx_le.same _ (mx_le.same _ (mx_le.same _ (mx_le.nil))))) HB
        · rw [if_neg hc290] at hq
          refine mx_e_if (fun z => hc290 (of_decide_eq_true z)) ?_
          refine mx_p_ic ?_
          cases hq; exact mx_e_rbk rfl (by decide) (by decide)
      rw [if_neg hw285] at hq
      by_cases hw291 : ((sc.2.2 (s3).toNatClampNeg) &&& 31) = 3
      · rw [if_pos hw291] at hq
        refine mx_e_sw (mx_sw_f hw269 (mx_sw_f hw279 (mx_sw_f hw285 (mx_sw_t hw291)))) ?_
        refine mx_p_aln rfl ?_
        have ho293 : l1 < hh.1 ∧ (mx_lay l1).1 = 14 := by
          by_cases hh : l1 < hh.1 ∧ (mx_lay l1).1 = 14
          · exact hh
          · rw [if_neg hh] at hq; cases hq
        rw [if_pos ho293] at hq
        obtain ⟨x292, hx292, hq⟩ := mx_bS hq
        refine mx_e_cv mx_t_X11_lay ho293 rfl rfl rfl ⟨Nat.le_of_ble_eq_true rfl, Nat.le_of_ble_eq_true rfl, Nat.le_of_ble_eq_true rfl⟩ (Nat.le_of_ble_eq_true rfl) rfl rfl rfl (by decide) (t_X11_lay hx292) ?_
        refine mx_p_aln rfl ?_
        have ho295 : l2 < x292.2.1 ∧ (mx_lay l2).1 = 15 := by
          by_cases hh : l2 < x292.2.1 ∧ (mx_lay l2).1 = 15
          · exact hh
          · rw [if_neg hh] at hq; cases hq
        rw [if_pos ho295] at hq
        obtain ⟨x294, hx294, hq⟩ := mx_bS hq
        refine mx_e_cv mx_t_X12_lay ho295 rfl rfl rfl ⟨Nat.le_of_ble_eq_true rfl, Nat.le_of_ble_eq_true rfl, Nat.le_of_ble_eq_true rfl⟩ (Nat.le_of_ble_eq_true rfl) rfl rfl rfl (by decide) (t_X12_lay hx294) ?_
        by_cases hc296 : x292.1 = x294.1
        · rw [if_pos hc296] at hq
          refine mx_e_it (decide_eq_true hc296) ?_
          refine mx_p_inc (loc' := [some (.ref mx_SCR), some (.ref l1), some (.ref l2), some (.int (s3 + 4))]) rfl rfl ?_
          refine mx_p_gt ?_
          have HB := ih (s3 + 4) x294.2 _ hq
          exact mx_Ev.weak (mx_le.same _ (mx_le.same _ (mx_le.same _ (mx_le.same _ (mx_le.nil))))) HB
        · rw [if_neg hc296] at hq
          refine mx_e_if (fun z => hc296 (of_decide_eq_true z)) ?_
          refine mx_p_ic ?_
          cases hq; exact mx_e_rbk rfl (by decide) (by decide)
      rw [if_neg hw291] at hq
      by_cases hw297 : ((sc.2.2 (s3).toNatClampNeg) &&& 31) = 4
      · rw [if_pos hw297] at hq
        refine mx_e_sw (mx_sw_f hw269 (mx_sw_f hw279 (mx_sw_f hw285 (mx_sw_f hw291 (mx_sw_t hw297))))) ?_
        refine mx_p_aln rfl ?_
        refine mx_p_aln rfl ?_
        refine mx_p_iln rfl ?_
        refine mx_p_ic ?_
        refine mx_p_iadd ?_
        have hi299 : 0 ≤ (s3 + 1) ∧ ((s3 + 1)).toNatClampNeg < sc.2.1 := by
          by_cases hh : 0 ≤ (s3 + 1) ∧ ((s3 + 1)).toNatClampNeg < sc.2.1
          · exact hh
          · rw [if_neg hh] at hq; cases hq
        rw [if_pos hi299] at hq
        refine mx_e_si hsc hi299 ?_
        refine mx_p_aln rfl ?_
        refine mx_p_iln rfl ?_
        refine mx_p_ic ?_
        refine mx_p_iadd ?_
        have hi301 : 0 ≤ (s3 + 2) ∧ ((s3 + 2)).toNatClampNeg < sc.2.1 := by
          by_cases hh : 0 ≤ (s3 + 2) ∧ ((s3 + 2)).toNatClampNeg < sc.2.1
          · exact hh
          · rw [if_neg hh] at hq; cases hq
        rw [if_pos hi301] at hq
        refine mx_e_si hsc hi301 ?_
        have ho303 : l1 < hh.1 ∧ (mx_lay l1).1 = 14 := by
          by_cases hh : l1 < hh.1 ∧ (mx_lay l1).1 = 14
          · exact hh
          · rw [if_neg hh] at hq; cases hq
        rw [if_pos ho303] at hq
        obtain ⟨x302, hx302, hq⟩ := mx_bS hq
        refine mx_e_cv mx_t_X11_word ho303 rfl rfl rfl ⟨Nat.le_of_ble_eq_true rfl, Nat.le_of_ble_eq_true rfl, Nat.le_of_ble_eq_true rfl⟩ (Nat.le_of_ble_eq_true rfl) rfl rfl rfl (by decide) (t_X11_word hx302) ?_
        refine mx_p_aln rfl ?_
        refine mx_p_aln rfl ?_
        refine mx_p_iln rfl ?_
        refine mx_p_ic ?_
        refine mx_p_iadd ?_
        have hi305 : 0 ≤ (s3 + 1) ∧ ((s3 + 1)).toNatClampNeg < sc.2.1 := by
          by_cases hh : 0 ≤ (s3 + 1) ∧ ((s3 + 1)).toNatClampNeg < sc.2.1
          · exact hh
          · rw [if_neg hh] at hq; cases hq
        rw [if_pos hi305] at hq
        refine mx_e_si hsc hi305 ?_
        refine mx_p_aln rfl ?_
        refine mx_p_iln rfl ?_
        refine mx_p_ic ?_
        refine mx_p_iadd ?_
        have hi307 : 0 ≤ (s3 + 2) ∧ ((s3 + 2)).toNatClampNeg < sc.2.1 := by
          by_cases hh : 0 ≤ (s3 + 2) ∧ ((s3 + 2)).toNatClampNeg < sc.2.1
          · exact hh
          · rw [if_neg hh] at hq; cases hq
        rw [if_pos hi307] at hq
        refine mx_e_si hsc hi307 ?_
        have ho309 : l2 < hh.1 ∧ (mx_lay l2).1 = 15 := by
          by_cases hh : l2 < hh.1 ∧ (mx_lay l2).1 = 15
          · exact hh
          · rw [if_neg hh] at hq; cases hq
        rw [if_pos ho309] at hq
        obtain ⟨x308, hx308, hq⟩ := mx_bS hq
        refine mx_e_cv mx_t_X12_word ho309 rfl rfl rfl ⟨Nat.le_of_ble_eq_true rfl, Nat.le_of_ble_eq_true rfl, Nat.le_of_ble_eq_true rfl⟩ (Nat.le_of_ble_eq_true rfl) rfl rfl rfl (by decide) (t_X12_word hx308) ?_
        by_cases hc310 : x302 = x308
        · rw [if_pos hc310] at hq
          refine mx_e_it (decide_eq_true hc310) ?_
          refine mx_p_inc (loc' := [some (.ref mx_SCR), some (.ref l1), some (.ref l2), some (.int (s3 + 4))]) rfl rfl ?_
          refine mx_p_gt ?_
          have HB := ih (s3 + 4) hh _ hq
          exact mx_Ev.weak (mx_le.same _ (mx_le.same _ (mx_le.same _ (mx_le.same _ (mx_le.nil))))) HB
        · rw [if_neg hc310] at hq
          refine mx_e_if (fun z => hc310 (of_decide_eq_true z)) ?_
          refine mx_p_ic ?_
          cases hq; exact mx_e_rbk rfl (by decide) (by decide)
      rw [if_neg hw297] at hq
      by_cases hw311 : ((sc.2.2 (s3).toNatClampNeg) &&& 31) = 5
      · rw [if_pos hw311] at hq
        refine mx_e_sw (mx_sw_f hw269 (mx_sw_f hw279 (mx_sw_f hw285 (mx_sw_f hw291 (mx_sw_f hw297 (mx_sw_t hw311)))))) ?_
        refine mx_p_aln rfl ?_
        refine mx_p_aln rfl ?_
        refine mx_p_iln rfl ?_
        refine mx_p_ic ?_
        refine mx_p_iadd ?_
        have hi313 : 0 ≤ (s3 + 1) ∧ ((s3 + 1)).toNatClampNeg < sc.2.1 := by
          by_cases hh : 0 ≤ (s3 + 1) ∧ ((s3 + 1)).toNatClampNeg < sc.2.1
          · exact hh
          · rw [if_neg hh] at hq; cases hq
        rw [if_pos hi313] at hq
        refine mx_e_si hsc hi313 ?_
        refine mx_p_aln rfl ?_
        refine mx_p_iln rfl ?_
        refine mx_p_ic ?_
        refine mx_p_iadd ?_
        have hi315 : 0 ≤ (s3 + 2) ∧ ((s3 + 2)).toNatClampNeg < sc.2.1 := by
          by_cases hh : 0 ≤ (s3 + 2) ∧ ((s3 + 2)).toNatClampNeg < sc.2.1
          · exact hh
          · rw [if_neg hh] at hq; cases hq
        rw [if_pos hi315] at hq
        refine mx_e_si hsc hi315 ?_
        have ho317 : l1 < hh.1 ∧ (mx_lay l1).1 = 14 := by
          by_cases hh : l1 < hh.1 ∧ (mx_lay l1).1 = 14
          · exact hh
          · rw [if_neg hh] at hq; cases hq
        rw [if_pos ho317] at hq
        obtain ⟨x316, hx316, hq⟩ := mx_bS hq
        refine mx_e_cv mx_t_X11_mayor ho317 rfl rfl rfl ⟨Nat.le_of_ble_eq_true rfl, Nat.le_of_ble_eq_true rfl, Nat.le_of_ble_eq_true rfl⟩ (Nat.le_of_ble_eq_true rfl) rfl rfl rfl (by decide) (t_X11_mayor hx316) ?_
        refine mx_p_aln rfl ?_
        refine mx_p_aln rfl ?_
        refine mx_p_iln rfl ?_
        refine mx_p_ic ?_
        refine mx_p_iadd ?_
        have hi319 : 0 ≤ (s3 + 1) ∧ ((s3 + 1)).toNatClampNeg < sc.2.1 := by
          by_cases hh : 0 ≤ (s3 + 1) ∧ ((s3 + 1)).toNatClampNeg < sc.2.1
          · exact hh
          · rw [if_neg hh] at hq; cases hq
        rw [if_pos hi319] at hq
        refine mx_e_si hsc hi319 ?_
        refine mx_p_aln rfl ?_
        refine mx_p_iln rfl ?_
        refine mx_p_ic ?_
        refine mx_p_iadd ?_
        have hi321 : 0 ≤ (s3 + 2) ∧ ((s3 + 2)).toNatClampNeg < sc.2.1 := by
          by_cases hh : 0 ≤ (s3 + 2) ∧ ((s3 + 2)).toNatClampNeg < sc.2.1
          · exact hh
          · rw [if_neg hh] at hq; cases hq
        rw [if_pos hi321] at hq
        refine mx_e_si hsc hi321 ?_
        have ho323 : l2 < hh.1 ∧ (mx_lay l2).1 = 15 := by
          by_cases hh : l2 < hh.1 ∧ (mx_lay l2).1 = 15
          · exact hh
          · rw [if_neg hh] at hq; cases hq
        rw [if_pos ho323] at hq
        obtain ⟨x322, hx322, hq⟩ := mx_bS hq
        refine mx_e_cv mx_t_X12_mayor ho323 rfl rfl rfl ⟨Nat.le_of_ble_eq_true rfl, Nat.le_of_ble_eq_true rfl, Nat.le_of_ble_eq_true rfl⟩ (Nat.le_of_ble_eq_true rfl) rfl rfl rfl (by decide) (t_X12_mayor hx322) ?_
        by_cases hc324 : x316 = x322
        · rw [if_pos hc324] at hq
          refine mx_e_it (decide_eq_true hc324) ?_
          refine mx_p_inc (loc' := [some (.ref mx_SCR), some (.ref l1), some (.ref l2), some (.int (s3 + 4))]) rfl rfl ?_
          refine mx_p_gt ?_
          have HB := ih (s3 + 4) hh _ hq
          exact mx_Ev.weak (mx_le.same _ (mx_le.same _ (mx_le.same _ (mx_le.same _ (mx_le.nil))))) HB
        · rw [if_neg hc324] at hq
          refine mx_e_if (fun z => hc324 (of_decide_eq_true z)) ?_
          refine mx_p_ic ?_
          cases hq; exact mx_e_rbk rfl (by decide) (by decide)
      rw [if_neg hw311] at hq
      by_cases hw325 : ((sc.2.2 (s3).toNatClampNeg) &&& 31) = 6
      · rw [if_pos hw325] at hq
        refine mx_e_sw (mx_sw_f hw269 (mx_sw_f hw279 (mx_sw_f hw285 (mx_sw_f hw291 (mx_sw_f hw297 (mx_sw_f hw311 (mx_sw_t hw325))))))) ?_
        refine mx_p_aln rfl ?_
        refine mx_p_aln rfl ?_
        refine mx_p_iln rfl ?_
        refine mx_p_ic ?_
        refine mx_p_iadd ?_
        have hi327 : 0 ≤ (s3 + 1) ∧ ((s3 + 1)).toNatClampNeg < sc.2.1 := by
          by_cases hh : 0 ≤ (s3 + 1) ∧ ((s3 + 1)).toNatClampNeg < sc.2.1
          · exact hh
          · rw [if_neg hh] at hq; cases hq
        rw [if_pos hi327] at hq
        refine mx_e_si hsc hi327 ?_
        have ho329 : l1 < hh.1 ∧ (mx_lay l1).1 = 14 := by
          by_cases hh : l1 < hh.1 ∧ (mx_lay l1).1 = 14
          · exact hh
          · rw [if_neg hh] at hq; cases hq
        rw [if_pos ho329] at hq
        obtain ⟨x328, hx328, hq⟩ := mx_bS hq
        refine mx_e_cv mx_t_X11_said ho329 rfl rfl rfl ⟨Nat.le_of_ble_eq_true rfl, Nat.le_of_ble_eq_true rfl, Nat.le_of_ble_eq_true rfl⟩ (Nat.le_of_ble_eq_true rfl) rfl rfl rfl (by decide) (t_X11_said hx328) ?_
        refine mx_p_aln rfl ?_
        refine mx_p_aln rfl ?_
        refine mx_p_iln rfl ?_
        refine mx_p_ic ?_
        refine mx_p_iadd ?_
        have hi331 : 0 ≤ (s3 + 1) ∧ ((s3 + 1)).toNatClampNeg < sc.2.1 := by
          by_cases hh : 0 ≤ (s3 + 1) ∧ ((s3 + 1)).toNatClampNeg < sc.2.1
          · exact hh
          · rw [if_neg hh] at hq; cases hq
        rw [if_pos hi331] at hq
        refine mx_e_si hsc hi331 ?_
        have ho333 : l2 < hh.1 ∧ (mx_lay l2).1 = 15 := by
          by_cases hh : l2 < hh.1 ∧ (mx_lay l2).1 = 15
          · exact hh
          · rw [if_neg hh] at hq; cases hq
        rw [if_pos ho333] at hq
        obtain ⟨x332, hx332, hq⟩ := mx_bS hq
        refine mx_e_cv mx_t_X12_said ho333 rfl rfl rfl ⟨Nat.le_of_ble_eq_true rfl, Nat.le_of_ble_eq_true rfl, Nat.le_of_ble_eq_true rfl⟩ (Nat.le_of_ble_eq_true rfl) rfl rfl rfl (by decide) (t_X12_said hx332) ?_
        by_cases hc334 : x328 = x332
        · rw [if_pos hc334] at hq
          refine mx_e_it (decide_eq_true hc334) ?_
          refine mx_p_inc (loc' := [some (.ref mx_SCR), some (.ref l1), some (.ref l2), some (.int (s3 + 4))]) rfl rfl ?_
          refine mx_p_gt ?_
          have HB := ih (s3 + 4) hh _ hq
          exact mx_Ev.weak (mx_le.same _ (mx_le.same _ (mx_le.same _ (mx_le.same _ (mx_le.nil))))) HB
        · rw [if_neg hc334] at hq
          refine mx_e_if (fun z => hc334 (of_decide_eq_true z)) ?_
          refine mx_p_ic ?_
          cases hq; exact mx_e_rbk rfl (by decide) (by decide)
      rw [if_neg hw325] at hq
      by_cases hw335 : ((sc.2.2 (s3).toNatClampNeg) &&& 31) = 7
      · rw [if_pos hw335] at hq
        refine mx_e_sw (mx_sw_f hw269 (mx_sw_f hw279 (mx_sw_f hw285 (mx_sw_f hw291 (mx_sw_f hw297 (mx_sw_f hw311 (mx_sw_f hw325 (mx_sw_t hw335)))))))) ?_
        refine mx_p_aln rfl ?_
        refine mx_p_aln rfl ?_
        refine mx_p_iln rfl ?_
        refine mx_p_ic ?_
        refine mx_p_iadd ?_
        have hi337 : 0 ≤ (s3 + 1) ∧ ((s3 + 1)).toNatClampNeg < sc.2.1 := by
          by_cases hh : 0 ≤ (s3 + 1) ∧ ((s3 + 1)).toNatClampNeg < sc.2.1
          · exact hh
          · rw [if_neg hh] at hq; cases hq
        rw [if_pos hi337] at hq
        refine mx_e_si hsc hi337 ?_
        have ho339 : l1 < hh.1 ∧ (mx_lay l1).1 = 14 := by
          by_cases hh : l1 < hh.1 ∧ (mx_lay l1).1 = 14
          · exact hh
          · rw [if_neg hh] at hq; cases hq
        rw [if_pos ho339] at hq
        obtain ⟨x338, hx338, hq⟩ := mx_bS hq
        refine mx_e_cv mx_t_X11_say ho339 rfl rfl rfl ⟨Nat.le_of_ble_eq_true rfl, Nat.le_of_ble_eq_true rfl, Nat.le_of_ble_eq_true rfl⟩ (Nat.le_of_ble_eq_true rfl) rfl rfl rfl (by decide) (t_X11_say hx338) ?_
        refine mx_p_aln rfl ?_
        refine mx_p_aln rfl ?_
        refine mx_p_iln rfl ?_
        refine mx_p_ic ?_
        refine mx_p_iadd ?_
        have hi341 : 0 ≤ (s3 + 1) ∧ ((s3 + 1)).toNatClampNeg < sc.2.1 := by
          by_cases hh : 0 ≤ (s3 + 1) ∧ ((s3 + 1)).toNatClampNeg < sc.2.1
          · exact hh
          · rw [if_neg hh] at hq; cases hq
        rw [if_pos hi341] at hq
        refine mx_e_si hsc hi341 ?_
        have ho343 : l2 < x338.2.1 ∧ (mx_lay l2).1 = 15 := by
          by_cases hh : l2 < x338.2.1 ∧ (mx_lay l2).1 = 15
          · exact hh
          · rw [if_neg hh] at hq; cases hq
        rw [if_pos ho343] at hq
        obtain ⟨x342, hx342, hq⟩ := mx_bS hq
        refine mx_e_cv mx_t_X12_say ho343 rfl rfl rfl ⟨Nat.le_of_ble_eq_true rfl, Nat.le_of_ble_eq_true rfl, Nat.le_of_ble_eq_true rfl⟩ (Nat.le_of_ble_eq_true rfl) rfl rfl rfl (by decide) (t_X12_say hx342) ?_
        by_cases hc344 : x338.1 = x342.1
        · rw [if_pos hc344] at hq
          refine mx_e_it (decide_eq_true hc344) ?_
          refine mx_p_inc (loc' := [some (.ref mx_SCR), some (.ref l1), some (.ref l2), some (.int (s3 + 4))]) rfl rfl ?_
          refine mx_p_gt ?_
          have HB := ih (s3 + 4) x342.2 _ hq
          exact mx_Ev.weak (mx_le.same _ (mx_le.same _ (mx_le.same _ (mx_le.same _ (mx_le.nil))))) HB
        · rw [if_neg hc344] at hq
          refine mx_e_if (fun z => hc344 (of_decide_eq_true z)) ?_
          refine mx_p_ic ?_
          cases hq; exact mx_e_rbk rfl (by decide) (by decide)
      rw [if_neg hw335] at hq
      by_cases hw345 : ((sc.2.2 (s3).toNatClampNeg) &&& 31) = 8
      · rw [if_pos hw345] at hq
        refine mx_e_sw (mx_sw_f hw269 (mx_sw_f hw279 (mx_sw_f hw285 (mx_sw_f hw291 (mx_sw_f hw297 (mx_sw_f hw311 (mx_sw_f hw325 (mx_sw_f hw335 (mx_sw_t hw345))))))))) ?_
        refine mx_p_aln rfl ?_
        have ho347 : l1 < hh.1 ∧ (mx_lay l1).1 = 14 := by
          by_cases hh : l1 < hh.1 ∧ (mx_lay l1).1 = 14
          · exact hh
          · rw [if_neg hh] at hq; cases hq
        rw [if_pos ho347] at hq
        obtain ⟨x346, hx346, hq⟩ := mx_bS hq
        refine mx_e_cv mx_t_X11_end ho347 rfl rfl rfl ⟨Nat.le_of_ble_eq_true rfl, Nat.le_of_ble_eq_true rfl, Nat.le_of_ble_eq_true rfl⟩ (Nat.le_of_ble_eq_true rfl) rfl rfl rfl (by decide) (t_X11_end hx346) ?_
        refine mx_p_aln rfl ?_
        have ho349 : l2 < x346.2.1 ∧ (mx_lay l2).1 = 15 := by
          by_cases hh : l2 < x346.2.1 ∧ (mx_lay l2).1 = 15
          · exact hh
          · rw [if_neg hh] at hq; cases hq
        rw [if_pos ho349] at hq
        obtain ⟨x348, hx348, hq⟩ := mx_bS hq
        refine mx_e_cv mx_t_X12_end ho349 rfl rfl rfl ⟨Nat.le_of_ble_eq_true rfl, Nat.le_of_ble_eq_true rfl, Nat.le_of_ble_eq_true rfl⟩ (Nat.le_of_ble_eq_true rfl) rfl rfl rfl (by decide) (t_X12_end hx348) ?_
        by_cases hc350 : x346.1 = x348.1
        · rw [if_pos hc350] at hq
          refine mx_e_it (decide_eq_true hc350) ?_
          refine mx_p_inc (loc' := [some (.ref mx_SCR), some (.ref l1), some (.ref l2), some (.int (s3 + 4))]) rfl rfl ?_
          refine mx_p_gt ?_
          have HB := ih (s3 + 4) x348.2 _ hq
          exact mx_Ev.weak (mx_le.same _ (mx_le.same _ (mx_le.same _ (mx_le.same _ (mx_le.nil))))) HB
        · rw [if_neg hc350] at hq
          refine mx_e_if (fun z => hc350 (of_decide_eq_true z)) ?_
          refine mx_p_ic ?_
          cases hq; exact mx_e_rbk rfl (by decide) (by decide)
      rw [if_neg hw345] at hq
      by_cases hw351 : ((sc.2.2 (s3).toNatClampNeg) &&& 31) = 9
      · rw [if_pos hw351] at hq
        refine mx_e_sw (mx_sw_f hw269 (mx_sw_f hw279 (mx_sw_f hw285 (mx_sw_f hw291 (mx_sw_f hw297 (mx_sw_f hw311 (mx_sw_f hw325 (mx_sw_f hw335 (mx_sw_f hw345 (mx_sw_t hw351)))))))))) ?_
        refine mx_p_aln rfl ?_
        have ho353 : l1 < hh.1 ∧ (mx_lay l1).1 = 14 := by
          by_cases hh : l1 < hh.1 ∧ (mx_lay l1).1 = 14
          · exact hh
          · rw [if_neg hh] at hq; cases hq
        rw [if_pos ho353] at hq
        obtain ⟨x352, hx352, hq⟩ := mx_bS hq
        refine mx_e_cv mx_t_X11_finish ho353 rfl rfl rfl ⟨Nat.le_of_ble_eq_true rfl, Nat.le_of_ble_eq_true rfl, Nat.le_of_ble_eq_true rfl⟩ (Nat.le_of_ble_eq_true rfl) rfl rfl rfl (by decide) (t_X11_finish hx352) ?_
        refine mx_p_aln rfl ?_
        have ho355 : l2 < x352.2.1 ∧ (mx_lay l2).1 = 15 := by
          by_cases hh : l2 < x352.2.1 ∧ (mx_lay l2).1 = 15
          · exact hh
          · rw [if_neg hh] at hq; cases hq
        rw [if_pos ho355] at hq
        obtain ⟨x354, hx354, hq⟩ := mx_bS hq
        refine mx_e_cv mx_t_X12_finish ho355 rfl rfl rfl ⟨Nat.le_of_ble_eq_true rfl, Nat.le_of_ble_eq_true rfl, Nat.le_of_ble_eq_true rfl⟩ (Nat.le_of_ble_eq_true rfl) rfl rfl rfl (by decide) (t_X12_finish hx354) ?_
        by_cases hc356 : x352.1 = x354.1
        · rw [if_pos hc356] at hq
          refine mx_e_it (decide_eq_true hc356) ?_
          refine mx_p_inc (loc' := [some (.ref mx_SCR), some (.ref l1), some (.ref l2), some (.int (s3 + 4))]) rfl rfl ?_
          refine mx_p_gt ?_
          have HB := ih (s3 + 4) x354.2 _ hq
          exact mx_Ev.weak (mx_le.same _ (mx_le.same _ (mx_le.same _ (mx_le.same _ (mx_le.nil))))) HB
        · rw [if_neg hc356] at hq
          refine mx_e_if (fun z => hc356 (of_decide_eq_true z)) ?_
          refine mx_p_ic ?_
          cases hq; exact mx_e_rbk rfl (by decide) (by decide)
      rw [if_neg hw351] at hq
      by_cases hw357 : ((sc.2.2 (s3).toNatClampNeg) &&& 31) = 10
      · rw [if_pos hw357] at hq
        refine mx_e_sw (mx_sw_f hw269 (mx_sw_f hw279 (mx_sw_f hw285 (mx_sw_f hw291 (mx_sw_f hw297 (mx_sw_f hw311 (mx_sw_f hw325 (mx_sw_f hw335 (mx_sw_f hw345 (mx_sw_f hw351 (mx_sw_t hw357))))))))))) ?_
        refine mx_p_aln rfl ?_
        have ho359 : l1 < hh.1 ∧ (mx_lay l1).1 = 14 := by
          by_cases hh : l1 < hh.1 ∧ (mx_lay l1).1 = 14
          · exact hh
          · rw [if_neg hh] at hq; cases hq
        rw [if_pos ho359] at hq
        obtain ⟨x358, hx358, hq⟩ := mx_bS hq
        refine mx_e_cv mx_t_X11_drop ho359 rfl rfl rfl ⟨Nat.le_of_ble_eq_true rfl, Nat.le_of_ble_eq_true rfl, Nat.le_of_ble_eq_true rfl⟩ (Nat.le_of_ble_eq_true rfl) rfl rfl rfl (by decide) (t_X11_drop hx358) ?_
        refine mx_p_aln rfl ?_
        have ho361 : l2 < x358.2.1 ∧ (mx_lay l2).1 = 15 := by
          by_cases hh : l2 < x358.2.1 ∧ (mx_lay l2).1 = 15
          · exact hh
          · rw [if_neg hh] at hq; cases hq
        rw [if_pos ho361] at hq
        obtain ⟨x360, hx360, hq⟩ := mx_bS hq
        refine mx_e_cv mx_t_X12_drop ho361 rfl rfl rfl ⟨Nat.le_of_ble_eq_true rfl, Nat.le_of_ble_eq_true rfl, Nat.le_of_ble_eq_true rfl⟩ (Nat.le_of_ble_eq_true rfl) rfl rfl rfl (by decide) (t_X12_drop hx360) ?_
        by_cases hc362 : x358.1 = x360.1
        · rw [if_pos hc362] at hq
          refine mx_e_it (decide_eq_true hc362) ?_
          refine mx_p_inc (loc' := [some (.ref mx_SCR), some (.ref l1), some (.ref l2), some (.int (s3 + 4))]) rfl rfl ?_
          refine mx_p_gt ?_
          have HB := ih (s3 + 4) x360.2 _ hq
          exact mx_Ev.weak (mx_le.same _ (mx_le.same _ (mx_le.same _ (mx_le.same _ (mx_le.nil))))) HB
        · rw [if_neg hc362] at hq
          refine mx_e_if (fun z => hc362 (of_decide_eq_true z)) ?_
          refine mx_p_ic ?_
          cases hq; exact mx_e_rbk rfl (by decide) (by decide)
      rw [if_neg hw357] at hq
      by_cases hw363 : ((sc.2.2 (s3).toNatClampNeg) &&& 31) = 11
      · rw [if_pos hw363] at hq
        refine mx_e_sw (mx_sw_f hw269 (mx_sw_f hw279 (mx_sw_f hw285 (mx_sw_f hw291 (mx_sw_f hw297 (mx_sw_f hw311 (mx_sw_f hw325 (mx_sw_f hw335 (mx_sw_f hw345 (mx_sw_f hw351 (mx_sw_f hw357 (mx_sw_t hw363)))))))))))) ?_
        refine mx_p_aln rfl ?_
        refine mx_p_aln rfl ?_
        refine mx_p_iln rfl ?_
        refine mx_p_ic ?_
        refine mx_p_iadd ?_
        have hi365 : 0 ≤ (s3 + 1) ∧ ((s3 + 1)).toNatClampNeg < sc.2.1 := by
          by_cases hh : 0 ≤ (s3 + 1) ∧ ((s3 + 1)).toNatClampNeg < sc.2.1
          · exact hh
          · rw [if_neg hh] at hq; cases hq
        rw [if_pos hi365] at hq
        refine mx_e_si hsc hi365 ?_
        refine mx_p_aln rfl ?_
        refine mx_p_iln rfl ?_
        refine mx_p_ic ?_
        refine mx_p_iadd ?_
        have hi367 : 0 ≤ (s3 + 2) ∧ ((s3 + 2)).toNatClampNeg < sc.2.1 := by
          by_cases hh : 0 ≤ (s3 + 2) ∧ ((s3 + 2)).toNatClampNeg < sc.2.1
          · exact hh
          · rw [if_neg hh] at hq; cases hq
        rw [if_pos hi367] at hq
        refine mx_e_si hsc hi367 ?_
        have ho369 : l1 < hh.1 ∧ (mx_lay l1).1 = 14 := by
          by_cases hh : l1 < hh.1 ∧ (mx_lay l1).1 = 14
          · exact hh
          · rw [if_neg hh] at hq; cases hq
        rw [if_pos ho369] at hq
        obtain ⟨x368, hx368, hq⟩ := mx_bS hq
        refine mx_e_cv mx_t_X11_learn ho369 rfl rfl rfl ⟨Nat.le_of_ble_eq_true rfl, Nat.le_of_ble_eq_true rfl, Nat.le_of_ble_eq_true rfl⟩ (Nat.le_of_ble_eq_true rfl) rfl rfl rfl (by decide) (t_X11_learn hx368) ?_
        refine mx_p_aln rfl ?_
        refine mx_p_aln rfl ?_
        refine mx_p_iln rfl ?_
        refine mx_p_ic ?_
        refine mx_p_iadd ?_
        have hi371 : 0 ≤ (s3 + 1) ∧ ((s3 + 1)).toNatClampNeg < sc.2.1 := by
          by_cases hh : 0 ≤ (s3 + 1) ∧ ((s3 + 1)).toNatClampNeg < sc.2.1
          · exact hh
          · rw [if_neg hh] at hq; cases hq
        rw [if_pos hi371] at hq
        refine mx_e_si hsc hi371 ?_
        refine mx_p_aln rfl ?_
        refine mx_p_iln rfl ?_
        refine mx_p_ic ?_
        refine mx_p_iadd ?_
        have hi373 : 0 ≤ (s3 + 2) ∧ ((s3 + 2)).toNatClampNeg < sc.2.1 := by
          by_cases hh : 0 ≤ (s3 + 2) ∧ ((s3 + 2)).toNatClampNeg < sc.2.1
          · exact hh
          · rw [if_neg hh] at hq; cases hq
        rw [if_pos hi373] at hq
        refine mx_e_si hsc hi373 ?_
        have ho375 : l2 < x368.2.1 ∧ (mx_lay l2).1 = 15 := by
          by_cases hh : l2 < x368.2.1 ∧ (mx_lay l2).1 = 15
          · exact hh
          · rw [if_neg hh] at hq; cases hq
        rw [if_pos ho375] at hq
        obtain ⟨x374, hx374, hq⟩ := mx_bS hq
        refine mx_e_cv mx_t_X12_learn ho375 rfl rfl rfl ⟨Nat.le_of_ble_eq_true rfl, Nat.le_of_ble_eq_true rfl, Nat.le_of_ble_eq_true rfl⟩ (Nat.le_of_ble_eq_true rfl) rfl rfl rfl (by decide) (t_X12_learn hx374) ?_
        by_cases hc376 : x368.1 = x374.1
        · rw [if_pos hc376] at hq
          refine mx_e_it (decide_eq_true hc376) ?_
          refine mx_p_inc (loc' := [some (.ref mx_SCR), some (.ref l1), some (.ref l2), some (.int (s3 + 4))]) rfl rfl ?_
          refine mx_p_gt ?_
          have HB := ih (s3 + 4) x374.2 _ hq
          exact mx_Ev.weak (mx_le.same _ (mx_le.same _ (mx_le.same _ (mx_le.same _ (mx_le.nil))))) HB
        · rw [if_neg hc376] at hq
          refine mx_e_if (fun z => hc376 (of_decide_eq_true z)) ?_
          refine mx_p_ic ?_
          cases hq; exact mx_e_rbk rfl (by decide) (by decide)
      rw [if_neg hw363] at hq
      by_cases hw377 : ((sc.2.2 (s3).toNatClampNeg) &&& 31) = 12
      · rw [if_pos hw377] at hq
        refine mx_e_sw (mx_sw_f hw269 (mx_sw_f hw279 (mx_sw_f hw285 (mx_sw_f hw291 (mx_sw_f hw297 (mx_sw_f hw311 (mx_sw_f hw325 (mx_sw_f hw335 (mx_sw_f hw345 (mx_sw_f hw351 (mx_sw_f hw357 (mx_sw_f hw363 (mx_sw_t hw377))))))))))))) ?_
        refine mx_p_aln rfl ?_
        have ho379 : l1 < hh.1 ∧ (mx_lay l1).1 = 14 := by
          by_cases hh : l1 < hh.1 ∧ (mx_lay l1).1 = 14
          · exact hh
          · rw [if_neg hh] at hq; cases hq
        rw [if_pos ho379] at hq
        obtain ⟨x378, hx378, hq⟩ := mx_bS hq
        refine mx_e_cv mx_t_X11_undo ho379 rfl rfl rfl ⟨Nat.le_of_ble_eq_true rfl, Nat.le_of_ble_eq_true rfl, Nat.le_of_ble_eq_true rfl⟩ (Nat.le_of_ble_eq_true rfl) rfl rfl rfl (by decide) (t_X11_undo hx378) ?_
        refine mx_p_aln rfl ?_
        have ho381 : l2 < x378.2.1 ∧ (mx_lay l2).1 = 15 := by
          by_cases hh : l2 < x378.2.1 ∧ (mx_lay l2).1 = 15
          · exact hh
          · rw [if_neg hh] at hq; cases hq
        rw [if_pos ho381] at hq
        obtain ⟨x380, hx380, hq⟩ := mx_bS hq
        refine mx_e_cv mx_t_X12_undo ho381 rfl rfl rfl ⟨Nat.le_of_ble_eq_true rfl, Nat.le_of_ble_eq_true rfl, Nat.le_of_ble_eq_true rfl⟩ (Nat.le_of_ble_eq_true rfl) rfl rfl rfl (by decide) (t_X12_undo hx380) ?_
        by_cases hc382 : x378.1 = x380.1
        · rw [if_pos hc382] at hq
          refine mx_e_it (decide_eq_true hc382) ?_
          refine mx_p_inc (loc' := [some (.ref mx_SCR), some (.ref l1), some (.ref l2), some (.int (s3 + 4))]) rfl rfl ?_
          refine mx_p_gt ?_
          have HB := ih (s3 + 4) x380.2 _ hq
          exact mx_Ev.weak (mx_le.same _ (mx_le.same _ (mx_le.same _ (mx_le.same _ (mx_le.nil))))) HB
        · rw [if_neg hc382] at hq
          refine mx_e_if (fun z => hc382 (of_decide_eq_true z)) ?_
          refine mx_p_ic ?_
          cases hq; exact mx_e_rbk rfl (by decide) (by decide)
      rw [if_neg hw377] at hq
      by_cases hw383 : ((sc.2.2 (s3).toNatClampNeg) &&& 31) = 13
      · rw [if_pos hw383] at hq
        refine mx_e_sw (mx_sw_f hw269 (mx_sw_f hw279 (mx_sw_f hw285 (mx_sw_f hw291 (mx_sw_f hw297 (mx_sw_f hw311 (mx_sw_f hw325 (mx_sw_f hw335 (mx_sw_f hw345 (mx_sw_f hw351 (mx_sw_f hw357 (mx_sw_f hw363 (mx_sw_f hw377 (mx_sw_t hw383)))))))))))))) ?_
        refine mx_p_aln rfl ?_
        refine mx_p_aln rfl ?_
        refine mx_p_iln rfl ?_
        refine mx_p_ic ?_
        refine mx_p_iadd ?_
        have hi385 : 0 ≤ (s3 + 1) ∧ ((s3 + 1)).toNatClampNeg < sc.2.1 := by
          by_cases hh : 0 ≤ (s3 + 1) ∧ ((s3 + 1)).toNatClampNeg < sc.2.1
          · exact hh
          · rw [if_neg hh] at hq; cases hq
        rw [if_pos hi385] at hq
        refine mx_e_si hsc hi385 ?_
        have ho387 : l1 < hh.1 ∧ (mx_lay l1).1 = 14 := by
          by_cases hh : l1 < hh.1 ∧ (mx_lay l1).1 = 14
          · exact hh
          · rw [if_neg hh] at hq; cases hq
        rw [if_pos ho387] at hq
        obtain ⟨x386, hx386, hq⟩ := mx_bS hq
        refine mx_e_cv mx_t_X11_finishing ho387 rfl rfl rfl ⟨Nat.le_of_ble_eq_true rfl, Nat.le_of_ble_eq_true rfl, Nat.le_of_ble_eq_true rfl⟩ (Nat.le_of_ble_eq_true rfl) rfl rfl rfl (by decide) (t_X11_finishing hx386) ?_
        refine mx_p_aln rfl ?_
        refine mx_p_aln rfl ?_
        refine mx_p_iln rfl ?_
        refine mx_p_ic ?_
        refine mx_p_iadd ?_
        have hi389 : 0 ≤ (s3 + 1) ∧ ((s3 + 1)).toNatClampNeg < sc.2.1 := by
          by_cases hh : 0 ≤ (s3 + 1) ∧ ((s3 + 1)).toNatClampNeg < sc.2.1
          · exact hh
          · rw [if_neg hh] at hq; cases hq
        rw [if_pos hi389] at hq
        refine mx_e_si hsc hi389 ?_
        have ho391 : l2 < x386.2.1 ∧ (mx_lay l2).1 = 15 := by
          by_cases hh : l2 < x386.2.1 ∧ (mx_lay l2).1 = 15
          · exact hh
          · rw [if_neg hh] at hq; cases hq
        rw [if_pos ho391] at hq
        obtain ⟨x390, hx390, hq⟩ := mx_bS hq
        refine mx_e_cv mx_t_X12_finishing ho391 rfl rfl rfl ⟨Nat.le_of_ble_eq_true rfl, Nat.le_of_ble_eq_true rfl, Nat.le_of_ble_eq_true rfl⟩ (Nat.le_of_ble_eq_true rfl) rfl rfl rfl (by decide) (t_X12_finishing hx390) ?_
        by_cases hc392 : x386.1 = x390.1
        · rw [if_pos hc392] at hq
          refine mx_e_it (decide_eq_true hc392) ?_
          refine mx_p_inc (loc' := [some (.ref mx_SCR), some (.ref l1), some (.ref l2), some (.int (s3 + 4))]) rfl rfl ?_
          refine mx_p_gt ?_
          have HB := ih (s3 + 4) x390.2 _ hq
          exact mx_Ev.weak (mx_le.same _ (mx_le.same _ (mx_le.same _ (mx_le.same _ (mx_le.nil))))) HB
        · rw [if_neg hc392] at hq
          refine mx_e_if (fun z => hc392 (of_decide_eq_true z)) ?_
          refine mx_p_ic ?_
          cases hq; exact mx_e_rbk rfl (by decide) (by decide)
      rw [if_neg hw383] at hq
      by_cases hw393 : ((sc.2.2 (s3).toNatClampNeg) &&& 31) = 14
      · rw [if_pos hw393] at hq
        refine mx_e_sw (mx_sw_f hw269 (mx_sw_f hw279 (mx_sw_f hw285 (mx_sw_f hw291 (mx_sw_f hw297 (mx_sw_f hw311 (mx_sw_f hw325 (mx_sw_f hw335 (mx_sw_f hw345 (mx_sw_f hw351 (mx_sw_f hw357 (mx_sw_f hw363 (mx_sw_f hw377 (mx_sw_f hw383 (mx_sw_t hw393))))))))))))))) ?_
        refine mx_p_aln rfl ?_
        refine mx_p_aln rfl ?_
        refine mx_p_iln rfl ?_
        refine mx_p_ic ?_
        refine mx_p_iadd ?_
        have hi395 : 0 ≤ (s3 + 1) ∧ ((s3 + 1)).toNatClampNeg < sc.2.1 := by
          by_cases hh : 0 ≤ (s3 + 1) ∧ ((s3 + 1)).toNatClampNeg < sc.2.1
          · exact hh
          · rw [if_neg hh] at hq; cases hq
        rw [if_pos hi395] at hq
        refine mx_e_si hsc hi395 ?_
        refine mx_p_aln rfl ?_
        refine mx_p_iln rfl ?_
        refine mx_p_ic ?_
        refine mx_p_iadd ?_
        have hi397 : 0 ≤ (s3 + 2) ∧ ((s3 + 2)).toNatClampNeg < sc.2.1 := by
          by_cases hh : 0 ≤ (s3 + 2) ∧ ((s3 + 2)).toNatClampNeg < sc.2.1
          · exact hh
          · rw [if_neg hh] at hq; cases hq
        rw [if_pos hi397] at hq
        refine mx_e_si hsc hi397 ?_
        have ho399 : l1 < hh.1 ∧ (mx_lay l1).1 = 14 := by
          by_cases hh : l1 < hh.1 ∧ (mx_lay l1).1 = 14
          · exact hh
          · rw [if_neg hh] at hq; cases hq
        rw [if_pos ho399] at hq
        obtain ⟨x398, hx398, hq⟩ := mx_bS hq
        refine mx_e_cv mx_t_X11_safe ho399 rfl rfl rfl ⟨Nat.le_of_ble_eq_true rfl, Nat.le_of_ble_eq_true rfl, Nat.le_of_ble_eq_true rfl⟩ (Nat.le_of_ble_eq_true rfl) rfl rfl rfl (by decide) (t_X11_safe hx398) ?_
        refine mx_p_aln rfl ?_
        refine mx_p_aln rfl ?_
        refine mx_p_iln rfl ?_
        refine mx_p_ic ?_
        refine mx_p_iadd ?_
        have hi401 : 0 ≤ (s3 + 1) ∧ ((s3 + 1)).toNatClampNeg < sc.2.1 := by
          by_cases hh : 0 ≤ (s3 + 1) ∧ ((s3 + 1)).toNatClampNeg < sc.2.1
          · exact hh
          · rw [if_neg hh] at hq; cases hq
        rw [if_pos hi401] at hq
        refine mx_e_si hsc hi401 ?_
        refine mx_p_aln rfl ?_
        refine mx_p_iln rfl ?_
        refine mx_p_ic ?_
        refine mx_p_iadd ?_
        have hi403 : 0 ≤ (s3 + 2) ∧ ((s3 + 2)).toNatClampNeg < sc.2.1 := by
          by_cases hh : 0 ≤ (s3 + 2) ∧ ((s3 + 2)).toNatClampNeg < sc.2.1
          · exact hh
          · rw [if_neg hh] at hq; cases hq
        rw [if_pos hi403] at hq
        refine mx_e_si hsc hi403 ?_
        have ho405 : l2 < x398.2.1 ∧ (mx_lay l2).1 = 15 := by
          by_cases hh : l2 < x398.2.1 ∧ (mx_lay l2).1 = 15
          · exact hh
          · rw [if_neg hh] at hq; cases hq
        rw [if_pos ho405] at hq
        obtain ⟨x404, hx404, hq⟩ := mx_bS hq
        refine mx_e_cv mx_t_X12_safe ho405 rfl rfl rfl ⟨Nat.le_of_ble_eq_true rfl, Nat.le_of_ble_eq_true rfl, Nat.le_of_ble_eq_true rfl⟩ (Nat.le_of_ble_eq_true rfl) rfl rfl rfl (by decide) (t_X12_safe hx404) ?_
        by_cases hc406 : x398.1 = x404.1
        · rw [if_pos hc406] at hq
          refine mx_e_it (decide_eq_true hc406) ?_
          refine mx_p_inc (loc' := [some (.ref mx_SCR), some (.ref l1), some (.ref l2), some (.int (s3 + 4))]) rfl rfl ?_
          refine mx_p_gt ?_
          have HB := ih (s3 + 4) x404.2 _ hq
          exact mx_Ev.weak (mx_le.same _ (mx_le.same _ (mx_le.same _ (mx_le.same _ (mx_le.nil))))) HB
        · rw [if_neg hc406] at hq
          refine mx_e_if (fun z => hc406 (of_decide_eq_true z)) ?_
          refine mx_p_ic ?_
          cases hq; exact mx_e_rbk rfl (by decide) (by decide)
      rw [if_neg hw393] at hq
      by_cases hw407 : ((sc.2.2 (s3).toNatClampNeg) &&& 31) = 15
      · rw [if_pos hw407] at hq
        refine mx_e_sw (mx_sw_f hw269 (mx_sw_f hw279 (mx_sw_f hw285 (mx_sw_f hw291 (mx_sw_f hw297 (mx_sw_f hw311 (mx_sw_f hw325 (mx_sw_f hw335 (mx_sw_f hw345 (mx_sw_f hw351 (mx_sw_f hw357 (mx_sw_f hw363 (mx_sw_f hw377 (mx_sw_f hw383 (mx_sw_f hw393 (mx_sw_t hw407)))))))))))))))) ?_
        refine mx_p_aln rfl ?_
        refine mx_p_aln rfl ?_
        refine mx_p_iln rfl ?_
        refine mx_p_ic ?_
        refine mx_p_iadd ?_
        have hi409 : 0 ≤ (s3 + 1) ∧ ((s3 + 1)).toNatClampNeg < sc.2.1 := by
          by_cases hh : 0 ≤ (s3 + 1) ∧ ((s3 + 1)).toNatClampNeg < sc.2.1
          · exact hh
          · rw [if_neg hh] at hq; cases hq
        rw [if_pos hi409] at hq
        refine mx_e_si hsc hi409 ?_
        refine mx_p_aln rfl ?_
        refine mx_p_iln rfl ?_
        refine mx_p_ic ?_
        refine mx_p_iadd ?_
        have hi411 : 0 ≤ (s3 + 2) ∧ ((s3 + 2)).toNatClampNeg < sc.2.1 := by
          by_cases hh : 0 ≤ (s3 + 2) ∧ ((s3 + 2)).toNatClampNeg < sc.2.1
          · exact hh
          · rw [if_neg hh] at hq; cases hq
        rw [if_pos hi411] at hq
        refine mx_e_si hsc hi411 ?_
        have ho413 : l1 < hh.1 ∧ (mx_lay l1).1 = 14 := by
          by_cases hh : l1 < hh.1 ∧ (mx_lay l1).1 = 14
          · exact hh
          · rw [if_neg hh] at hq; cases hq
        rw [if_pos ho413] at hq
        obtain ⟨x412, hx412, hq⟩ := mx_bS hq
        refine mx_e_cv mx_t_X11_best ho413 rfl rfl rfl ⟨Nat.le_of_ble_eq_true rfl, Nat.le_of_ble_eq_true rfl, Nat.le_of_ble_eq_true rfl⟩ (Nat.le_of_ble_eq_true rfl) rfl rfl rfl (by decide) (t_X11_best hx412) ?_
        refine mx_p_aln rfl ?_
        refine mx_p_aln rfl ?_
        refine mx_p_iln rfl ?_
        refine mx_p_ic ?_
        refine mx_p_iadd ?_
        have hi415 : 0 ≤ (s3 + 1) ∧ ((s3 + 1)).toNatClampNeg < sc.2.1 := by
          by_cases hh : 0 ≤ (s3 + 1) ∧ ((s3 + 1)).toNatClampNeg < sc.2.1
          · exact hh
          · rw [if_neg hh] at hq; cases hq
        rw [if_pos hi415] at hq
        refine mx_e_si hsc hi415 ?_
        refine mx_p_aln rfl ?_
        refine mx_p_iln rfl ?_
        refine mx_p_ic ?_
        refine mx_p_iadd ?_
        have hi417 : 0 ≤ (s3 + 2) ∧ ((s3 + 2)).toNatClampNeg < sc.2.1 := by
          by_cases hh : 0 ≤ (s3 + 2) ∧ ((s3 + 2)).toNatClampNeg < sc.2.1
          · exact hh
          · rw [if_neg hh] at hq; cases hq
        rw [if_pos hi417] at hq
        refine mx_e_si hsc hi417 ?_
        have ho419 : l2 < x412.2.1 ∧ (mx_lay l2).1 = 15 := by
          by_cases hh : l2 < x412.2.1 ∧ (mx_lay l2).1 = 15
          · exact hh
          · rw [if_neg hh] at hq; cases hq
        rw [if_pos ho419] at hq
        obtain ⟨x418, hx418, hq⟩ := mx_bS hq
        refine mx_e_cv mx_t_X12_best ho419 rfl rfl rfl ⟨Nat.le_of_ble_eq_true rfl, Nat.le_of_ble_eq_true rfl, Nat.le_of_ble_eq_true rfl⟩ (Nat.le_of_ble_eq_true rfl) rfl rfl rfl (by decide) (t_X12_best hx418) ?_
        by_cases hc420 : x412.1 = x418.1
        · rw [if_pos hc420] at hq
          refine mx_e_it (decide_eq_true hc420) ?_
          refine mx_p_inc (loc' := [some (.ref mx_SCR), some (.ref l1), some (.ref l2), some (.int (s3 + 4))]) rfl rfl ?_
          refine mx_p_gt ?_
          have HB := ih (s3 + 4) x418.2 _ hq
          exact mx_Ev.weak (mx_le.same _ (mx_le.same _ (mx_le.same _ (mx_le.same _ (mx_le.nil))))) HB
        · rw [if_neg hc420] at hq
          refine mx_e_if (fun z => hc420 (of_decide_eq_true z)) ?_
          refine mx_p_ic ?_
          cases hq; exact mx_e_rbk rfl (by decide) (by decide)
      rw [if_neg hw407] at hq
      by_cases hw421 : ((sc.2.2 (s3).toNatClampNeg) &&& 31) = 16
      · rw [if_pos hw421] at hq
        refine mx_e_sw (mx_sw_f hw269 (mx_sw_f hw279 (mx_sw_f hw285 (mx_sw_f hw291 (mx_sw_f hw297 (mx_sw_f hw311 (mx_sw_f hw325 (mx_sw_f hw335 (mx_sw_f hw345 (mx_sw_f hw351 (mx_sw_f hw357 (mx_sw_f hw363 (mx_sw_f hw377 (mx_sw_f hw383 (mx_sw_f hw393 (mx_sw_f hw407 (mx_sw_t hw421))))))))))))))))) ?_
        refine mx_p_aln rfl ?_
        refine mx_p_aln rfl ?_
        refine mx_p_iln rfl ?_
        refine mx_p_ic ?_
        refine mx_p_iadd ?_
        have hi423 : 0 ≤ (s3 + 1) ∧ ((s3 + 1)).toNatClampNeg < sc.2.1 := by
          by_cases hh : 0 ≤ (s3 + 1) ∧ ((s3 + 1)).toNatClampNeg < sc.2.1
          · exact hh
          · rw [if_neg hh] at hq; cases hq
        rw [if_pos hi423] at hq
        refine mx_e_si hsc hi423 ?_
        refine mx_p_aln rfl ?_
        refine mx_p_iln rfl ?_
        refine mx_p_ic ?_
        refine mx_p_iadd ?_
        have hi425 : 0 ≤ (s3 + 2) ∧ ((s3 + 2)).toNatClampNeg < sc.2.1 := by
          by_cases hh : 0 ≤ (s3 + 2) ∧ ((s3 + 2)).toNatClampNeg < sc.2.1
          · exact hh
          · rw [if_neg hh] at hq; cases hq
        rw [if_pos hi425] at hq
        refine mx_e_si hsc hi425 ?_
        have ho427 : l1 < hh.1 ∧ (mx_lay l1).1 = 14 := by
          by_cases hh : l1 < hh.1 ∧ (mx_lay l1).1 = 14
          · exact hh
          · rw [if_neg hh] at hq; cases hq
        rw [if_pos ho427] at hq
        obtain ⟨x426, hx426, hq⟩ := mx_bS hq
        refine mx_e_cv mx_t_X11_lure ho427 rfl rfl rfl ⟨Nat.le_of_ble_eq_true rfl, Nat.le_of_ble_eq_true rfl, Nat.le_of_ble_eq_true rfl⟩ (Nat.le_of_ble_eq_true rfl) rfl rfl rfl (by decide) (t_X11_lure hx426) ?_
        refine mx_p_aln rfl ?_
        refine mx_p_aln rfl ?_
        refine mx_p_iln rfl ?_
        refine mx_p_ic ?_
        refine mx_p_iadd ?_
        have hi429 : 0 ≤ (s3 + 1) ∧ ((s3 + 1)).toNatClampNeg < sc.2.1 := by
          by_cases hh : 0 ≤ (s3 + 1) ∧ ((s3 + 1)).toNatClampNeg < sc.2.1
          · exact hh
          · rw [if_neg hh] at hq; cases hq
        rw [if_pos hi429] at hq
        refine mx_e_si hsc hi429 ?_
        refine mx_p_aln rfl ?_
        refine mx_p_iln rfl ?_
        refine mx_p_ic ?_
        refine mx_p_iadd ?_
        have hi431 : 0 ≤ (s3 + 2) ∧ ((s3 + 2)).toNatClampNeg < sc.2.1 := by
          by_cases hh : 0 ≤ (s3 + 2) ∧ ((s3 + 2)).toNatClampNeg < sc.2.1
          · exact hh
          · rw [if_neg hh] at hq; cases hq
        rw [if_pos hi431] at hq
        refine mx_e_si hsc hi431 ?_
        have ho433 : l2 < x426.2.1 ∧ (mx_lay l2).1 = 15 := by
          by_cases hh : l2 < x426.2.1 ∧ (mx_lay l2).1 = 15
          · exact hh
          · rw [if_neg hh] at hq; cases hq
        rw [if_pos ho433] at hq
        obtain ⟨x432, hx432, hq⟩ := mx_bS hq
        refine mx_e_cv mx_t_X12_lure ho433 rfl rfl rfl ⟨Nat.le_of_ble_eq_true rfl, Nat.le_of_ble_eq_true rfl, Nat.le_of_ble_eq_true rfl⟩ (Nat.le_of_ble_eq_true rfl) rfl rfl rfl (by decide) (t_X12_lure hx432) ?_
        by_cases hc434 : x426.1 = x432.1
        · rw [if_pos hc434] at hq
          refine mx_e_it (decide_eq_true hc434) ?_
          refine mx_p_inc (loc' := [some (.ref mx_SCR), some (.ref l1), some (.ref l2), some (.int (s3 + 4))]) rfl rfl ?_
          refine mx_p_gt ?_
          have HB := ih (s3 + 4) x432.2 _ hq
          exact mx_Ev.weak (mx_le.same _ (mx_le.same _ (mx_le.same _ (mx_le.same _ (mx_le.nil))))) HB
        · rw [if_neg hc434] at hq
          refine mx_e_if (fun z => hc434 (of_decide_eq_true z)) ?_
          refine mx_p_ic ?_
          cases hq; exact mx_e_rbk rfl (by decide) (by decide)
      rw [if_neg hw421] at hq
      by_cases hw435 : ((sc.2.2 (s3).toNatClampNeg) &&& 31) = 17
      · rw [if_pos hw435] at hq
        refine mx_e_sw (mx_sw_f hw269 (mx_sw_f hw279 (mx_sw_f hw285 (mx_sw_f hw291 (mx_sw_f hw297 (mx_sw_f hw311 (mx_sw_f hw325 (mx_sw_f hw335 (mx_sw_f hw345 (mx_sw_f hw351 (mx_sw_f hw357 (mx_sw_f hw363 (mx_sw_f hw377 (mx_sw_f hw383 (mx_sw_f hw393 (mx_sw_f hw407 (mx_sw_f hw421 (mx_sw_t hw435)))))))))))))))))) ?_
        refine mx_p_aln rfl ?_
        refine mx_p_aln rfl ?_
        refine mx_p_iln rfl ?_
        refine mx_p_ic ?_
        refine mx_p_iadd ?_
        have hi437 : 0 ≤ (s3 + 1) ∧ ((s3 + 1)).toNatClampNeg < sc.2.1 := by
          by_cases hh : 0 ≤ (s3 + 1) ∧ ((s3 + 1)).toNatClampNeg < sc.2.1
          · exact hh
          · rw [if_neg hh] at hq; cases hq
        rw [if_pos hi437] at hq
        refine mx_e_si hsc hi437 ?_
        have ho439 : l1 < hh.1 ∧ (mx_lay l1).1 = 14 := by
          by_cases hh : l1 < hh.1 ∧ (mx_lay l1).1 = 14
          · exact hh
          · rw [if_neg hh] at hq; cases hq
        rw [if_pos ho439] at hq
        obtain ⟨x438, hx438, hq⟩ := mx_bS hq
        refine mx_e_cv mx_t_X11_sitting ho439 rfl rfl rfl ⟨Nat.le_of_ble_eq_true rfl, Nat.le_of_ble_eq_true rfl, Nat.le_of_ble_eq_true rfl⟩ (Nat.le_of_ble_eq_true rfl) rfl rfl rfl (by decide) (t_X11_sitting hx438) ?_
        refine mx_p_aln rfl ?_
        refine mx_p_aln rfl ?_
        refine mx_p_iln rfl ?_
        refine mx_p_ic ?_
        refine mx_p_iadd ?_
        have hi441 : 0 ≤ (s3 + 1) ∧ ((s3 + 1)).toNatClampNeg < sc.2.1 := by
          by_cases hh : 0 ≤ (s3 + 1) ∧ ((s3 + 1)).toNatClampNeg < sc.2.1
          · exact hh
          · rw [if_neg hh] at hq; cases hq
        rw [if_pos hi441] at hq
        refine mx_e_si hsc hi441 ?_
        have ho443 : l2 < hh.1 ∧ (mx_lay l2).1 = 15 := by
          by_cases hh : l2 < hh.1 ∧ (mx_lay l2).1 = 15
          · exact hh
          · rw [if_neg hh] at hq; cases hq
        rw [if_pos ho443] at hq
        obtain ⟨x442, hx442, hq⟩ := mx_bS hq
        refine mx_e_cv mx_t_X12_sitting ho443 rfl rfl rfl ⟨Nat.le_of_ble_eq_true rfl, Nat.le_of_ble_eq_true rfl, Nat.le_of_ble_eq_true rfl⟩ (Nat.le_of_ble_eq_true rfl) rfl rfl rfl (by decide) (t_X12_sitting hx442) ?_
        by_cases hc444 : x438 = x442
        · rw [if_pos hc444] at hq
          refine mx_e_it (decide_eq_true hc444) ?_
          refine mx_p_inc (loc' := [some (.ref mx_SCR), some (.ref l1), some (.ref l2), some (.int (s3 + 4))]) rfl rfl ?_
          refine mx_p_gt ?_
          have HB := ih (s3 + 4) hh _ hq
          exact mx_Ev.weak (mx_le.same _ (mx_le.same _ (mx_le.same _ (mx_le.same _ (mx_le.nil))))) HB
        · rw [if_neg hc444] at hq
          refine mx_e_if (fun z => hc444 (of_decide_eq_true z)) ?_
          refine mx_p_ic ?_
          cases hq; exact mx_e_rbk rfl (by decide) (by decide)
      rw [if_neg hw435] at hq
      by_cases hw445 : ((sc.2.2 (s3).toNatClampNeg) &&& 31) = 18
      · rw [if_pos hw445] at hq
        refine mx_e_sw (mx_sw_f hw269 (mx_sw_f hw279 (mx_sw_f hw285 (mx_sw_f hw291 (mx_sw_f hw297 (mx_sw_f hw311 (mx_sw_f hw325 (mx_sw_f hw335 (mx_sw_f hw345 (mx_sw_f hw351 (mx_sw_f hw357 (mx_sw_f hw363 (mx_sw_f hw377 (mx_sw_f hw383 (mx_sw_f hw393 (mx_sw_f hw407 (mx_sw_f hw421 (mx_sw_f hw435 (mx_sw_t hw445))))))))))))))))))) ?_
        refine mx_p_aln rfl ?_
        refine mx_p_aln rfl ?_
        refine mx_p_iln rfl ?_
        refine mx_p_ic ?_
        refine mx_p_iadd ?_
        have hi447 : 0 ≤ (s3 + 1) ∧ ((s3 + 1)).toNatClampNeg < sc.2.1 := by
          by_cases hh : 0 ≤ (s3 + 1) ∧ ((s3 + 1)).toNatClampNeg < sc.2.1
          · exact hh
          · rw [if_neg hh] at hq; cases hq
        rw [if_pos hi447] at hq
        refine mx_e_si hsc hi447 ?_
        refine mx_p_aln rfl ?_
        refine mx_p_iln rfl ?_
        refine mx_p_ic ?_
        refine mx_p_iadd ?_
        have hi449 : 0 ≤ (s3 + 2) ∧ ((s3 + 2)).toNatClampNeg < sc.2.1 := by
          by_cases hh : 0 ≤ (s3 + 2) ∧ ((s3 + 2)).toNatClampNeg < sc.2.1
          · exact hh
          · rw [if_neg hh] at hq; cases hq
        rw [if_pos hi449] at hq
        refine mx_e_si hsc hi449 ?_
        have ho451 : l1 < hh.1 ∧ (mx_lay l1).1 = 14 := by
          by_cases hh : l1 < hh.1 ∧ (mx_lay l1).1 = 14
          · exact hh
          · rw [if_neg hh] at hq; cases hq
        rw [if_pos ho451] at hq
        obtain ⟨x450, hx450, hq⟩ := mx_bS hq
        refine mx_e_cv mx_t_X11_ways ho451 rfl rfl rfl ⟨Nat.le_of_ble_eq_true rfl, Nat.le_of_ble_eq_true rfl, Nat.le_of_ble_eq_true rfl⟩ (Nat.le_of_ble_eq_true rfl) rfl rfl rfl (by decide) (t_X11_ways hx450) ?_
        refine mx_p_aln rfl ?_
        refine mx_p_aln rfl ?_
        refine mx_p_iln rfl ?_
        refine mx_p_ic ?_
        refine mx_p_iadd ?_
        have hi453 : 0 ≤ (s3 + 1) ∧ ((s3 + 1)).toNatClampNeg < sc.2.1 := by
          by_cases hh : 0 ≤ (s3 + 1) ∧ ((s3 + 1)).toNatClampNeg < sc.2.1
          · exact hh
          · rw [if_neg hh] at hq; cases hq
        rw [if_pos hi453] at hq
        refine mx_e_si hsc hi453 ?_
        refine mx_p_aln rfl ?_
        refine mx_p_iln rfl ?_
        refine mx_p_ic ?_
        refine mx_p_iadd ?_
        have hi455 : 0 ≤ (s3 + 2) ∧ ((s3 + 2)).toNatClampNeg < sc.2.1 := by
          by_cases hh : 0 ≤ (s3 + 2) ∧ ((s3 + 2)).toNatClampNeg < sc.2.1
          · exact hh
          · rw [if_neg hh] at hq; cases hq
        rw [if_pos hi455] at hq
        refine mx_e_si hsc hi455 ?_
        have ho457 : l2 < x450.2.1 ∧ (mx_lay l2).1 = 15 := by
          by_cases hh : l2 < x450.2.1 ∧ (mx_lay l2).1 = 15
          · exact hh
          · rw [if_neg hh] at hq; cases hq
        rw [if_pos ho457] at hq
        obtain ⟨x456, hx456, hq⟩ := mx_bS hq
        refine mx_e_cv mx_t_X12_ways ho457 rfl rfl rfl ⟨Nat.le_of_ble_eq_true rfl, Nat.le_of_ble_eq_true rfl, Nat.le_of_ble_eq_true rfl⟩ (Nat.le_of_ble_eq_true rfl) rfl rfl rfl (by decide) (t_X12_ways hx456) ?_
        by_cases hc458 : x450.1 = x456.1
        · rw [if_pos hc458] at hq
          refine mx_e_it (decide_eq_true hc458) ?_
          refine mx_p_inc (loc' := [some (.ref mx_SCR), some (.ref l1), some (.ref l2), some (.int (s3 + 4))]) rfl rfl ?_
          refine mx_p_gt ?_
          have HB := ih (s3 + 4) x456.2 _ hq
          exact mx_Ev.weak (mx_le.same _ (mx_le.same _ (mx_le.same _ (mx_le.same _ (mx_le.nil))))) HB
        · rw [if_neg hc458] at hq
          refine mx_e_if (fun z => hc458 (of_decide_eq_true z)) ?_
          refine mx_p_ic ?_
          cases hq; exact mx_e_rbk rfl (by decide) (by decide)
      rw [if_neg hw445] at hq
      by_cases hw459 : ((sc.2.2 (s3).toNatClampNeg) &&& 31) = 19
      · rw [if_pos hw459] at hq
        refine mx_e_sw (mx_sw_f hw269 (mx_sw_f hw279 (mx_sw_f hw285 (mx_sw_f hw291 (mx_sw_f hw297 (mx_sw_f hw311 (mx_sw_f hw325 (mx_sw_f hw335 (mx_sw_f hw345 (mx_sw_f hw351 (mx_sw_f hw357 (mx_sw_f hw363 (mx_sw_f hw377 (mx_sw_f hw383 (mx_sw_f hw393 (mx_sw_f hw407 (mx_sw_f hw421 (mx_sw_f hw435 (mx_sw_f hw445 (mx_sw_t hw459)))))))))))))))))))) ?_
        refine mx_p_aln rfl ?_
        refine mx_p_aln rfl ?_
        refine mx_p_iln rfl ?_
        refine mx_p_ic ?_
        refine mx_p_iadd ?_
        have hi461 : 0 ≤ (s3 + 1) ∧ ((s3 + 1)).toNatClampNeg < sc.2.1 := by
          by_cases hh : 0 ≤ (s3 + 1) ∧ ((s3 + 1)).toNatClampNeg < sc.2.1
          · exact hh
          · rw [if_neg hh] at hq; cases hq
        rw [if_pos hi461] at hq
        refine mx_e_si hsc hi461 ?_
        refine mx_p_aln rfl ?_
        refine mx_p_iln rfl ?_
        refine mx_p_ic ?_
        refine mx_p_iadd ?_
        have hi463 : 0 ≤ (s3 + 2) ∧ ((s3 + 2)).toNatClampNeg < sc.2.1 := by
          by_cases hh : 0 ≤ (s3 + 2) ∧ ((s3 + 2)).toNatClampNeg < sc.2.1
          · exact hh
          · rw [if_neg hh] at hq; cases hq
        rw [if_pos hi463] at hq
        refine mx_e_si hsc hi463 ?_
        have ho465 : l1 < hh.1 ∧ (mx_lay l1).1 = 14 := by
          by_cases hh : l1 < hh.1 ∧ (mx_lay l1).1 = 14
          · exact hh
          · rw [if_neg hh] at hq; cases hq
        rw [if_pos ho465] at hq
        obtain ⟨x464, hx464, hq⟩ := mx_bS hq
        refine mx_e_cv mx_t_X11_seen ho465 rfl rfl rfl ⟨Nat.le_of_ble_eq_true rfl, Nat.le_of_ble_eq_true rfl, Nat.le_of_ble_eq_true rfl⟩ (Nat.le_of_ble_eq_true rfl) rfl rfl rfl (by decide) (t_X11_seen hx464) ?_
        refine mx_p_aln rfl ?_
        refine mx_p_aln rfl ?_
        refine mx_p_iln rfl ?_
        refine mx_p_ic ?_
        refine mx_p_iadd ?_
        have hi467 : 0 ≤ (s3 + 1) ∧ ((s3 + 1)).toNatClampNeg < sc.2.1 := by
          by_cases hh : 0 ≤ (s3 + 1) ∧ ((s3 + 1)).toNatClampNeg < sc.2.1
          · exact hh
          · rw [if_neg hh] at hq; cases hq
        rw [if_pos hi467] at hq
        refine mx_e_si hsc hi467 ?_
        refine mx_p_aln rfl ?_
        refine mx_p_iln rfl ?_
        refine mx_p_ic ?_
        refine mx_p_iadd ?_
        have hi469 : 0 ≤ (s3 + 2) ∧ ((s3 + 2)).toNatClampNeg < sc.2.1 := by
          by_cases hh : 0 ≤ (s3 + 2) ∧ ((s3 + 2)).toNatClampNeg < sc.2.1
          · exact hh
          · rw [if_neg hh] at hq; cases hq
        rw [if_pos hi469] at hq
        refine mx_e_si hsc hi469 ?_
        have ho471 : l2 < x464.2.1 ∧ (mx_lay l2).1 = 15 := by
          by_cases hh : l2 < x464.2.1 ∧ (mx_lay l2).1 = 15
          · exact hh
          · rw [if_neg hh] at hq; cases hq
        rw [if_pos ho471] at hq
        obtain ⟨x470, hx470, hq⟩ := mx_bS hq
        refine mx_e_cv mx_t_X12_seen ho471 rfl rfl rfl ⟨Nat.le_of_ble_eq_true rfl, Nat.le_of_ble_eq_true rfl, Nat.le_of_ble_eq_true rfl⟩ (Nat.le_of_ble_eq_true rfl) rfl rfl rfl (by decide) (t_X12_seen hx470) ?_
        by_cases hc472 : x464.1 = x470.1
        · rw [if_pos hc472] at hq
          refine mx_e_it (decide_eq_true hc472) ?_
          refine mx_p_inc (loc' := [some (.ref mx_SCR), some (.ref l1), some (.ref l2), some (.int (s3 + 4))]) rfl rfl ?_
          refine mx_p_gt ?_
          have HB := ih (s3 + 4) x470.2 _ hq
          exact mx_Ev.weak (mx_le.same _ (mx_le.same _ (mx_le.same _ (mx_le.same _ (mx_le.nil))))) HB
        · rw [if_neg hc472] at hq
          refine mx_e_if (fun z => hc472 (of_decide_eq_true z)) ?_
          refine mx_p_ic ?_
          cases hq; exact mx_e_rbk rfl (by decide) (by decide)
      rw [if_neg hw459] at hq
      by_cases hw473 : ((sc.2.2 (s3).toNatClampNeg) &&& 31) = 20
      · rw [if_pos hw473] at hq
        refine mx_e_sw (mx_sw_f hw269 (mx_sw_f hw279 (mx_sw_f hw285 (mx_sw_f hw291 (mx_sw_f hw297 (mx_sw_f hw311 (mx_sw_f hw325 (mx_sw_f hw335 (mx_sw_f hw345 (mx_sw_f hw351 (mx_sw_f hw357 (mx_sw_f hw363 (mx_sw_f hw377 (mx_sw_f hw383 (mx_sw_f hw393 (mx_sw_f hw407 (mx_sw_f hw421 (mx_sw_f hw435 (mx_sw_f hw445 (mx_sw_f hw459 (mx_sw_t hw473))))))))))))))))))))) ?_
        refine mx_p_aln rfl ?_
        have ho475 : l1 < hh.1 ∧ (mx_lay l1).1 = 14 := by
          by_cases hh : l1 < hh.1 ∧ (mx_lay l1).1 = 14
          · exact hh
          · rw [if_neg hh] at hq; cases hq
        rw [if_pos ho475] at hq
        obtain ⟨x474, hx474, hq⟩ := mx_bS hq
        refine mx_e_cv mx_t_X11_forget ho475 rfl rfl rfl ⟨Nat.le_of_ble_eq_true rfl, Nat.le_of_ble_eq_true rfl, Nat.le_of_ble_eq_true rfl⟩ (Nat.le_of_ble_eq_true rfl) rfl rfl rfl (by decide) (t_X11_forget hx474) ?_
        refine mx_p_aln rfl ?_
        have ho477 : l2 < x474.2.1 ∧ (mx_lay l2).1 = 15 := by
          by_cases hh : l2 < x474.2.1 ∧ (mx_lay l2).1 = 15
          · exact hh
          · rw [if_neg hh] at hq; cases hq
        rw [if_pos ho477] at hq
        obtain ⟨x476, hx476, hq⟩ := mx_bS hq
        refine mx_e_cv mx_t_X12_forget ho477 rfl rfl rfl ⟨Nat.le_of_ble_eq_true rfl, Nat.le_of_ble_eq_true rfl, Nat.le_of_ble_eq_true rfl⟩ (Nat.le_of_ble_eq_true rfl) rfl rfl rfl (by decide) (t_X12_forget hx476) ?_
        by_cases hc478 : x474.1 = x476.1
        · rw [if_pos hc478] at hq
          refine mx_e_it (decide_eq_true hc478) ?_
          refine mx_p_inc (loc' := [some (.ref mx_SCR), some (.ref l1), some (.ref l2), some (.int (s3 + 4))]) rfl rfl ?_
          refine mx_p_gt ?_
          have HB := ih (s3 + 4) x476.2 _ hq
          exact mx_Ev.weak (mx_le.same _ (mx_le.same _ (mx_le.same _ (mx_le.same _ (mx_le.nil))))) HB
        · rw [if_neg hc478] at hq
          refine mx_e_if (fun z => hc478 (of_decide_eq_true z)) ?_
          refine mx_p_ic ?_
          cases hq; exact mx_e_rbk rfl (by decide) (by decide)
      rw [if_neg hw473] at hq
      by_cases hw479 : ((sc.2.2 (s3).toNatClampNeg) &&& 31) = 21
      · rw [if_pos hw479] at hq
        refine mx_e_sw (mx_sw_f hw269 (mx_sw_f hw279 (mx_sw_f hw285 (mx_sw_f hw291 (mx_sw_f hw297 (mx_sw_f hw311 (mx_sw_f hw325 (mx_sw_f hw335 (mx_sw_f hw345 (mx_sw_f hw351 (mx_sw_f hw357 (mx_sw_f hw363 (mx_sw_f hw377 (mx_sw_f hw383 (mx_sw_f hw393 (mx_sw_f hw407 (mx_sw_f hw421 (mx_sw_f hw435 (mx_sw_f hw445 (mx_sw_f hw459 (mx_sw_f hw473 (mx_sw_t hw479)))))))))))))))))))))) ?_
        refine mx_p_aln rfl ?_
        refine mx_p_aln rfl ?_
        refine mx_p_iln rfl ?_
        refine mx_p_ic ?_
        refine mx_p_iadd ?_
        have hi481 : 0 ≤ (s3 + 1) ∧ ((s3 + 1)).toNatClampNeg < sc.2.1 := by
          by_cases hh : 0 ≤ (s3 + 1) ∧ ((s3 + 1)).toNatClampNeg < sc.2.1
          · exact hh
          · rw [if_neg hh] at hq; cases hq
        rw [if_pos hi481] at hq
        refine mx_e_si hsc hi481 ?_
        have ho483 : l1 < hh.1 ∧ (mx_lay l1).1 = 14 := by
          by_cases hh : l1 < hh.1 ∧ (mx_lay l1).1 = 14
          · exact hh
          · rw [if_neg hh] at hq; cases hq
        rw [if_pos ho483] at hq
        obtain ⟨x482, hx482, hq⟩ := mx_bS hq
        refine mx_e_cv mx_t_X11_guessed ho483 rfl rfl rfl ⟨Nat.le_of_ble_eq_true rfl, Nat.le_of_ble_eq_true rfl, Nat.le_of_ble_eq_true rfl⟩ (Nat.le_of_ble_eq_true rfl) rfl rfl rfl (by decide) (t_X11_guessed hx482) ?_
        refine mx_p_aln rfl ?_
        refine mx_p_aln rfl ?_
        refine mx_p_iln rfl ?_
        refine mx_p_ic ?_
        refine mx_p_iadd ?_
        have hi485 : 0 ≤ (s3 + 1) ∧ ((s3 + 1)).toNatClampNeg < sc.2.1 := by
          by_cases hh : 0 ≤ (s3 + 1) ∧ ((s3 + 1)).toNatClampNeg < sc.2.1
          · exact hh
          · rw [if_neg hh] at hq; cases hq
        rw [if_pos hi485] at hq
        refine mx_e_si hsc hi485 ?_
        have ho487 : l2 < x482.2.1 ∧ (mx_lay l2).1 = 15 := by
          by_cases hh : l2 < x482.2.1 ∧ (mx_lay l2).1 = 15
          · exact hh
          · rw [if_neg hh] at hq; cases hq
        rw [if_pos ho487] at hq
        obtain ⟨x486, hx486, hq⟩ := mx_bS hq
        refine mx_e_cv mx_t_X12_guessed ho487 rfl rfl rfl ⟨Nat.le_of_ble_eq_true rfl, Nat.le_of_ble_eq_true rfl, Nat.le_of_ble_eq_true rfl⟩ (Nat.le_of_ble_eq_true rfl) rfl rfl rfl (by decide) (t_X12_guessed hx486) ?_
        by_cases hc488 : x482.1 = x486.1
        · rw [if_pos hc488] at hq
          refine mx_e_it (decide_eq_true hc488) ?_
          refine mx_p_inc (loc' := [some (.ref mx_SCR), some (.ref l1), some (.ref l2), some (.int (s3 + 4))]) rfl rfl ?_
          refine mx_p_gt ?_
          have HB := ih (s3 + 4) x486.2 _ hq
          exact mx_Ev.weak (mx_le.same _ (mx_le.same _ (mx_le.same _ (mx_le.same _ (mx_le.nil))))) HB
        · rw [if_neg hc488] at hq
          refine mx_e_if (fun z => hc488 (of_decide_eq_true z)) ?_
          refine mx_p_ic ?_
          cases hq; exact mx_e_rbk rfl (by decide) (by decide)
      rw [if_neg hw479] at hq
      by_cases hw489 : ((sc.2.2 (s3).toNatClampNeg) &&& 31) = 22
      · rw [if_pos hw489] at hq
        refine mx_e_sw (mx_sw_f hw269 (mx_sw_f hw279 (mx_sw_f hw285 (mx_sw_f hw291 (mx_sw_f hw297 (mx_sw_f hw311 (mx_sw_f hw325 (mx_sw_f hw335 (mx_sw_f hw345 (mx_sw_f hw351 (mx_sw_f hw357 (mx_sw_f hw363 (mx_sw_f hw377 (mx_sw_f hw383 (mx_sw_f hw393 (mx_sw_f hw407 (mx_sw_f hw421 (mx_sw_f hw435 (mx_sw_f hw445 (mx_sw_f hw459 (mx_sw_f hw473 (mx_sw_f hw479 (mx_sw_t hw489))))))))))))))))))))))) ?_
        refine mx_p_aln rfl ?_
        refine mx_p_aln rfl ?_
        refine mx_p_iln rfl ?_
        refine mx_p_ic ?_
        refine mx_p_iadd ?_
        have hi491 : 0 ≤ (s3 + 1) ∧ ((s3 + 1)).toNatClampNeg < sc.2.1 := by
          by_cases hh : 0 ≤ (s3 + 1) ∧ ((s3 + 1)).toNatClampNeg < sc.2.1
          · exact hh
          · rw [if_neg hh] at hq; cases hq
        rw [if_pos hi491] at hq
        refine mx_e_si hsc hi491 ?_
        refine mx_p_aln rfl ?_
        refine mx_p_iln rfl ?_
        refine mx_p_ic ?_
        refine mx_p_iadd ?_
        have hi493 : 0 ≤ (s3 + 2) ∧ ((s3 + 2)).toNatClampNeg < sc.2.1 := by
          by_cases hh : 0 ≤ (s3 + 2) ∧ ((s3 + 2)).toNatClampNeg < sc.2.1
          · exact hh
          · rw [if_neg hh] at hq; cases hq
        rw [if_pos hi493] at hq
        refine mx_e_si hsc hi493 ?_
        refine mx_p_aln rfl ?_
        refine mx_p_iln rfl ?_
        refine mx_p_ic ?_
        refine mx_p_iadd ?_
        have hi495 : 0 ≤ (s3 + 3) ∧ ((s3 + 3)).toNatClampNeg < sc.2.1 := by
          by_cases hh : 0 ≤ (s3 + 3) ∧ ((s3 + 3)).toNatClampNeg < sc.2.1
          · exact hh
          · rw [if_neg hh] at hq; cases hq
        rw [if_pos hi495] at hq
        refine mx_e_si hsc hi495 ?_
        have ho497 : l1 < hh.1 ∧ (mx_lay l1).1 = 14 := by
          by_cases hh : l1 < hh.1 ∧ (mx_lay l1).1 = 14
          · exact hh
          · rw [if_neg hh] at hq; cases hq
        rw [if_pos ho497] at hq
        obtain ⟨x496, hx496, hq⟩ := mx_bS hq
        refine mx_e_cv mx_t_X11_council ho497 rfl rfl rfl ⟨Nat.le_of_ble_eq_true rfl, Nat.le_of_ble_eq_true rfl, Nat.le_of_ble_eq_true rfl⟩ (Nat.le_of_ble_eq_true rfl) rfl rfl rfl (by decide) (t_X11_council hx496) ?_
        refine mx_p_aln rfl ?_
        refine mx_p_aln rfl ?_
        refine mx_p_iln rfl ?_
        refine mx_p_ic ?_
        refine mx_p_iadd ?_
        have hi499 : 0 ≤ (s3 + 1) ∧ ((s3 + 1)).toNatClampNeg < sc.2.1 := by
          by_cases hh : 0 ≤ (s3 + 1) ∧ ((s3 + 1)).toNatClampNeg < sc.2.1
          · exact hh
          · rw [if_neg hh] at hq; cases hq
        rw [if_pos hi499] at hq
        refine mx_e_si hsc hi499 ?_
        refine mx_p_aln rfl ?_
        refine mx_p_iln rfl ?_
        refine mx_p_ic ?_
        refine mx_p_iadd ?_
        have hi501 : 0 ≤ (s3 + 2) ∧ ((s3 + 2)).toNatClampNeg < sc.2.1 := by
          by_cases hh : 0 ≤ (s3 + 2) ∧ ((s3 + 2)).toNatClampNeg < sc.2.1
          · exact hh
          · rw [if_neg hh] at hq; cases hq
        rw [if_pos hi501] at hq
        refine mx_e_si hsc hi501 ?_
        refine mx_p_aln rfl ?_
        refine mx_p_iln rfl ?_
        refine mx_p_ic ?_
        refine mx_p_iadd ?_
        have hi503 : 0 ≤ (s3 + 3) ∧ ((s3 + 3)).toNatClampNeg < sc.2.1 := by
          by_cases hh : 0 ≤ (s3 + 3) ∧ ((s3 + 3)).toNatClampNeg < sc.2.1
          · exact hh
          · rw [if_neg hh] at hq; cases hq
        rw [if_pos hi503] at hq
        refine mx_e_si hsc hi503 ?_
        have ho505 : l2 < x496.2.1 ∧ (mx_lay l2).1 = 15 := by
          by_cases hh : l2 < x496.2.1 ∧ (mx_lay l2).1 = 15
          · exact hh
          · rw [if_neg hh] at hq; cases hq
        rw [if_pos ho505] at hq
        obtain ⟨x504, hx504, hq⟩ := mx_bS hq
        refine mx_e_cv mx_t_X12_council ho505 rfl rfl rfl ⟨Nat.le_of_ble_eq_true rfl, Nat.le_of_ble_eq_true rfl, Nat.le_of_ble_eq_true rfl⟩ (Nat.le_of_ble_eq_true rfl) rfl rfl rfl (by decide) (t_X12_council hx504) ?_
        by_cases hc506 : x496.1 = x504.1
        · rw [if_pos hc506] at hq
          refine mx_e_it (decide_eq_true hc506) ?_
          refine mx_p_inc (loc' := [some (.ref mx_SCR), some (.ref l1), some (.ref l2), some (.int (s3 + 4))]) rfl rfl ?_
          refine mx_p_gt ?_
          have HB := ih (s3 + 4) x504.2 _ hq
          exact mx_Ev.weak (mx_le.same _ (mx_le.same _ (mx_le.same _ (mx_le.same _ (mx_le.nil))))) HB
        · rw [if_neg hc506] at hq
          refine mx_e_if (fun z => hc506 (of_decide_eq_true z)) ?_
          refine mx_p_ic ?_
          cases hq; exact mx_e_rbk rfl (by decide) (by decide)
      rw [if_neg hw489] at hq
      by_cases hw507 : ((sc.2.2 (s3).toNatClampNeg) &&& 31) = 23
      · rw [if_pos hw507] at hq
        refine mx_e_sw (mx_sw_f hw269 (mx_sw_f hw279 (mx_sw_f hw285 (mx_sw_f hw291 (mx_sw_f hw297 (mx_sw_f hw311 (mx_sw_f hw325 (mx_sw_f hw335 (mx_sw_f hw345 (mx_sw_f hw351 (mx_sw_f hw357 (mx_sw_f hw363 (mx_sw_f hw377 (mx_sw_f hw383 (mx_sw_f hw393 (mx_sw_f hw407 (mx_sw_f hw421 (mx_sw_f hw435 (mx_sw_f hw445 (mx_sw_f hw459 (mx_sw_f hw473 (mx_sw_f hw479 (mx_sw_f hw489 (mx_sw_t hw507)))))))))))))))))))))))) ?_
        refine mx_p_aln rfl ?_
        have ho509 : l1 < hh.1 ∧ (mx_lay l1).1 = 14 := by
          by_cases hh : l1 < hh.1 ∧ (mx_lay l1).1 = 14
          · exact hh
          · rw [if_neg hh] at hq; cases hq
        rw [if_pos ho509] at hq
        obtain ⟨x508, hx508, hq⟩ := mx_bS hq
        refine mx_e_cv mx_t_X11_keep ho509 rfl rfl rfl ⟨Nat.le_of_ble_eq_true rfl, Nat.le_of_ble_eq_true rfl, Nat.le_of_ble_eq_true rfl⟩ (Nat.le_of_ble_eq_true rfl) rfl rfl rfl (by decide) (t_X11_keep hx508) ?_
        refine mx_p_aln rfl ?_
        have ho511 : l2 < x508.2.1 ∧ (mx_lay l2).1 = 15 := by
          by_cases hh : l2 < x508.2.1 ∧ (mx_lay l2).1 = 15
          · exact hh
          · rw [if_neg hh] at hq; cases hq
        rw [if_pos ho511] at hq
        obtain ⟨x510, hx510, hq⟩ := mx_bS hq
        refine mx_e_cv mx_t_X12_keep ho511 rfl rfl rfl ⟨Nat.le_of_ble_eq_true rfl, Nat.le_of_ble_eq_true rfl, Nat.le_of_ble_eq_true rfl⟩ (Nat.le_of_ble_eq_true rfl) rfl rfl rfl (by decide) (t_X12_keep hx510) ?_
        by_cases hc512 : x508.1 = x510.1
        · rw [if_pos hc512] at hq
          refine mx_e_it (decide_eq_true hc512) ?_
          refine mx_p_inc (loc' := [some (.ref mx_SCR), some (.ref l1), some (.ref l2), some (.int (s3 + 4))]) rfl rfl ?_
          refine mx_p_gt ?_
          have HB := ih (s3 + 4) x510.2 _ hq
          exact mx_Ev.weak (mx_le.same _ (mx_le.same _ (mx_le.same _ (mx_le.same _ (mx_le.nil))))) HB
        · rw [if_neg hc512] at hq
          refine mx_e_if (fun z => hc512 (of_decide_eq_true z)) ?_
          refine mx_p_ic ?_
          cases hq; exact mx_e_rbk rfl (by decide) (by decide)
      rw [if_neg hw507] at hq
      by_cases hw513 : ((sc.2.2 (s3).toNatClampNeg) &&& 31) = 24
      · rw [if_pos hw513] at hq
        refine mx_e_sw (mx_sw_f hw269 (mx_sw_f hw279 (mx_sw_f hw285 (mx_sw_f hw291 (mx_sw_f hw297 (mx_sw_f hw311 (mx_sw_f hw325 (mx_sw_f hw335 (mx_sw_f hw345 (mx_sw_f hw351 (mx_sw_f hw357 (mx_sw_f hw363 (mx_sw_f hw377 (mx_sw_f hw383 (mx_sw_f hw393 (mx_sw_f hw407 (mx_sw_f hw421 (mx_sw_f hw435 (mx_sw_f hw445 (mx_sw_f hw459 (mx_sw_f hw473 (mx_sw_f hw479 (mx_sw_f hw489 (mx_sw_f hw507 (mx_sw_t hw513))))))))))))))))))))))))) ?_
        refine mx_p_aln rfl ?_
        have ho515 : l1 < hh.1 ∧ (mx_lay l1).1 = 14 := by
          by_cases hh : l1 < hh.1 ∧ (mx_lay l1).1 = 14
          · exact hh
          · rw [if_neg hh] at hq; cases hq
        rw [if_pos ho515] at hq
        obtain ⟨x514, hx514, hq⟩ := mx_bS hq
        refine mx_e_cv mx_t_X11_back ho515 rfl rfl rfl ⟨Nat.le_of_ble_eq_true rfl, Nat.le_of_ble_eq_true rfl, Nat.le_of_ble_eq_true rfl⟩ (Nat.le_of_ble_eq_true rfl) rfl rfl rfl (by decide) (t_X11_back hx514) ?_
        refine mx_p_aln rfl ?_
        have ho517 : l2 < x514.2.1 ∧ (mx_lay l2).1 = 15 := by
          by_cases hh : l2 < x514.2.1 ∧ (mx_lay l2).1 = 15
          · exact hh
          · rw [if_neg hh] at hq; cases hq
        rw [if_pos ho517] at hq
        obtain ⟨x516, hx516, hq⟩ := mx_bS hq
        refine mx_e_cv mx_t_X12_back ho517 rfl rfl rfl ⟨Nat.le_of_ble_eq_true rfl, Nat.le_of_ble_eq_true rfl, Nat.le_of_ble_eq_true rfl⟩ (Nat.le_of_ble_eq_true rfl) rfl rfl rfl (by decide) (t_X12_back hx516) ?_
        by_cases hc518 : x514.1 = x516.1
        · rw [if_pos hc518] at hq
          refine mx_e_it (decide_eq_true hc518) ?_
          refine mx_p_inc (loc' := [some (.ref mx_SCR), some (.ref l1), some (.ref l2), some (.int (s3 + 4))]) rfl rfl ?_
          refine mx_p_gt ?_
          have HB := ih (s3 + 4) x516.2 _ hq
          exact mx_Ev.weak (mx_le.same _ (mx_le.same _ (mx_le.same _ (mx_le.same _ (mx_le.nil))))) HB
        · rw [if_neg hc518] at hq
          refine mx_e_if (fun z => hc518 (of_decide_eq_true z)) ?_
          refine mx_p_ic ?_
          cases hq; exact mx_e_rbk rfl (by decide) (by decide)
      rw [if_neg hw513] at hq
      by_cases hw519 : ((sc.2.2 (s3).toNatClampNeg) &&& 31) = 25
      · rw [if_pos hw519] at hq
        refine mx_e_sw (mx_sw_f hw269 (mx_sw_f hw279 (mx_sw_f hw285 (mx_sw_f hw291 (mx_sw_f hw297 (mx_sw_f hw311 (mx_sw_f hw325 (mx_sw_f hw335 (mx_sw_f hw345 (mx_sw_f hw351 (mx_sw_f hw357 (mx_sw_f hw363 (mx_sw_f hw377 (mx_sw_f hw383 (mx_sw_f hw393 (mx_sw_f hw407 (mx_sw_f hw421 (mx_sw_f hw435 (mx_sw_f hw445 (mx_sw_f hw459 (mx_sw_f hw473 (mx_sw_f hw479 (mx_sw_f hw489 (mx_sw_f hw507 (mx_sw_f hw513 (mx_sw_t hw519)))))))))))))))))))))))))) ?_
        refine mx_p_aln rfl ?_
        refine mx_p_aln rfl ?_
        refine mx_p_iln rfl ?_
        refine mx_p_ic ?_
        refine mx_p_iadd ?_
        have hi521 : 0 ≤ (s3 + 1) ∧ ((s3 + 1)).toNatClampNeg < sc.2.1 := by
          by_cases hh : 0 ≤ (s3 + 1) ∧ ((s3 + 1)).toNatClampNeg < sc.2.1
          · exact hh
          · rw [if_neg hh] at hq; cases hq
        rw [if_pos hi521] at hq
        refine mx_e_si hsc hi521 ?_
        have ho523 : l1 < hh.1 ∧ (mx_lay l1).1 = 14 := by
          by_cases hh : l1 < hh.1 ∧ (mx_lay l1).1 = 14
          · exact hh
          · rw [if_neg hh] at hq; cases hq
        rw [if_pos ho523] at hq
        obtain ⟨x522, hx522, hq⟩ := mx_bS hq
        refine mx_e_cv mx_t_X11_count ho523 rfl rfl rfl ⟨Nat.le_of_ble_eq_true rfl, Nat.le_of_ble_eq_true rfl, Nat.le_of_ble_eq_true rfl⟩ (Nat.le_of_ble_eq_true rfl) rfl rfl rfl (by decide) (t_X11_count hx522) ?_
        refine mx_p_aln rfl ?_
        refine mx_p_aln rfl ?_
        refine mx_p_iln rfl ?_
        refine mx_p_ic ?_
        refine mx_p_iadd ?_
        have hi525 : 0 ≤ (s3 + 1) ∧ ((s3 + 1)).toNatClampNeg < sc.2.1 := by
          by_cases hh : 0 ≤ (s3 + 1) ∧ ((s3 + 1)).toNatClampNeg < sc.2.1
          · exact hh
          · rw [if_neg hh] at hq; cases hq
        rw [if_pos hi525] at hq
        refine mx_e_si hsc hi525 ?_
        have ho527 : l2 < hh.1 ∧ (mx_lay l2).1 = 15 := by
          by_cases hh : l2 < hh.1 ∧ (mx_lay l2).1 = 15
          · exact hh
          · rw [if_neg hh] at hq; cases hq
        rw [if_pos ho527] at hq
        obtain ⟨x526, hx526, hq⟩ := mx_bS hq
        refine mx_e_cv mx_t_X12_count ho527 rfl rfl rfl ⟨Nat.le_of_ble_eq_true rfl, Nat.le_of_ble_eq_true rfl, Nat.le_of_ble_eq_true rfl⟩ (Nat.le_of_ble_eq_true rfl) rfl rfl rfl (by decide) (t_X12_count hx526) ?_
        by_cases hc528 : x522 = x526
        · rw [if_pos hc528] at hq
          refine mx_e_it (decide_eq_true hc528) ?_
          refine mx_p_inc (loc' := [some (.ref mx_SCR), some (.ref l1), some (.ref l2), some (.int (s3 + 4))]) rfl rfl ?_
          refine mx_p_gt ?_
          have HB := ih (s3 + 4) hh _ hq
          exact mx_Ev.weak (mx_le.same _ (mx_le.same _ (mx_le.same _ (mx_le.same _ (mx_le.nil))))) HB
        · rw [if_neg hc528] at hq
          refine mx_e_if (fun z => hc528 (of_decide_eq_true z)) ?_
          refine mx_p_ic ?_
          cases hq; exact mx_e_rbk rfl (by decide) (by decide)
      rw [if_neg hw519] at hq
      refine mx_e_sw (mx_sw_f hw269 (mx_sw_f hw279 (mx_sw_f hw285 (mx_sw_f hw291 (mx_sw_f hw297 (mx_sw_f hw311 (mx_sw_f hw325 (mx_sw_f hw335 (mx_sw_f hw345 (mx_sw_f hw351 (mx_sw_f hw357 (mx_sw_f hw363 (mx_sw_f hw377 (mx_sw_f hw383 (mx_sw_f hw393 (mx_sw_f hw407 (mx_sw_f hw421 (mx_sw_f hw435 (mx_sw_f hw445 (mx_sw_f hw459 (mx_sw_f hw473 (mx_sw_f hw479 (mx_sw_f hw489 (mx_sw_f hw507 (mx_sw_f hw513 (mx_sw_f hw519 rfl)))))))))))))))))))))))))) ?_
      refine mx_p_inc (loc' := [some (.ref mx_SCR), some (.ref l1), some (.ref l2), some (.int (s3 + 4))]) rfl rfl ?_
      refine mx_p_gt ?_
      have HB := ih (s3 + 4) hh _ hq
      exact mx_Ev.weak (mx_le.same _ (mx_le.same _ (mx_le.same _ (mx_le.same _ (mx_le.nil))))) HB
