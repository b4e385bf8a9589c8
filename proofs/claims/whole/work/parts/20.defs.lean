/-! the methods as functions: by wip/gen/dec.py -/
def f_X0_clear (a0 : Nat) (h : mx_Hp) : Option (mx_Hp) :=
  (mx_pi h a0 0 3 0).bind fun h1 =>
  (mx_pi h1 a0 0 4 0).bind fun h2 =>
  (mx_pi h2 a0 0 5 0).bind fun h3 =>
  (mx_pi h3 a0 0 6 0).bind fun h4 =>
  (mx_pi h4 a0 0 7 0).bind fun h5 =>
  (mx_pi h5 a0 0 8 0).bind fun h6 =>
  (mx_pi h6 a0 0 9 2).bind fun h7 =>
  (mx_pi h7 a0 0 10 0).bind fun h8 =>
  some h8
def f_X11_bit (a0 : Int32) (h : mx_Hp) : Option (Int32) :=
  (if a0 < 0 then
  some 0
  else
  if 10 ≤ a0 then
  some 0
  else
  some ((1 : Int32) <<< (a0 &&& 31)) : Option (Int32)).bind fun v3 =>
  some v3
def f_X0_addWord (a0 : Nat) (a1 : Int32) (a2 : Int32) (h : mx_Hp) : Option (Int32 × mx_Hp) :=
  if a1 < 0 then
  some (0, h)
  else
  if 3 < a1 then
  some (0, h)
  else
  if a2 < 0 then
  some (0, h)
  else
  if 9 < a2 then
  some (0, h)
  else
  (mx_gi h a0 0 3).bind fun x5 =>
  if x5 < 10 then
  (mx_gr h a0 0 0).bind fun x7 =>
  (mx_gi h a0 0 3).bind fun x8 =>
  (mx_as h x7 x8 a1).bind fun h9 =>
  (mx_gr h9 a0 0 1).bind fun x10 =>
  (mx_gi h9 a0 0 3).bind fun x11 =>
  (mx_as h9 x10 x11 a2).bind fun h12 =>
  (mx_gr h12 a0 0 2).bind fun x13 =>
  (mx_gi h12 a0 0 3).bind fun x14 =>
  (mx_as h12 x13 x14 0).bind fun h15 =>
  (mx_gi h15 a0 0 4).bind fun x16 =>
  (if ¬ a1 = 1 then
  some 0
  else
  (mx_gi h15 a0 0 3).bind fun x18 =>
  (f_X11_bit x18 h15).bind fun x19 =>
  some x19 : Option (Int32)).bind fun v20 =>
  (mx_pi h15 a0 0 4 (x16 ||| v20)).bind fun h21 =>
  (mx_gi h21 a0 0 5).bind fun x22 =>
  (if ¬ a1 = 2 then
  some 0
  else
  (mx_gi h21 a0 0 3).bind fun x24 =>
  (f_X11_bit x24 h21).bind fun x25 =>
  some x25 : Option (Int32)).bind fun v26 =>
  (mx_pi h21 a0 0 5 (x22 ||| v26)).bind fun h27 =>
  (mx_gi h27 a0 0 6).bind fun x28 =>
  (if ¬ a1 = 3 then
  some 0
  else
  (mx_gi h27 a0 0 3).bind fun x30 =>
  (f_X11_bit x30 h27).bind fun x31 =>
  some x31 : Option (Int32)).bind fun v32 =>
  (mx_pi h27 a0 0 6 (x28 ||| v32)).bind fun h33 =>
  (mx_gi h33 a0 0 3).bind fun x34 =>
  (mx_pi h33 a0 0 3 (x34 + 1)).bind fun h35 =>
  some (1, h35)
  else
  some (0, h)
def f_X0_has (a0 : Nat) (a1 : Int32) (h : mx_Hp) : Option (Int32) :=
  (if a1 < 0 then
  some 0
  else
  (mx_gi h a0 0 3).bind fun x2 =>
  if x2 ≤ a1 then
  some 0
  else
  if 10 ≤ a1 then
  some 0
  else
  some 1 : Option (Int32)).bind fun v5 =>
  if v5 = 0 ∨ v5 = 1 then some v5 else none
def f_X0_addBehind (a0 : Nat) (a1 : Int32) (a2 : Int32) (h : mx_Hp) : Option (Int32 × mx_Hp) :=
  if a0 < h.1 ∧ (mx_lay a0).1 = 3 then
  ((f_X0_has a0 a1 h).bind fun x1 =>
  if x1 = 0 then
  some (0, h)
  else
  if a0 < h.1 ∧ (mx_lay a0).1 = 3 then
  ((f_X0_has a0 a2 h).bind fun x4 =>
  if ¬ x4 = 0 then
  (mx_gr h a0 0 2).bind fun x7 =>
  (mx_al h x7 a1).bind fun x8 =>
  (f_X11_bit a2 h).bind fun x9 =>
  (mx_as h x7 a1 (x8 ||| x9)).bind fun h10 =>
  some (1, h10)
  else
  some (0, h))
  else none)
  else none
def f_X11_isMayor (a0 : Int32) (h : mx_Hp) : Option (Int32) :=
  (if a0 = 0 then
  some 1
  else
  if ¬ a0 = 1 then
  some 0
  else
  some 1 : Option (Int32)).bind fun v3 =>
  if v3 = 0 ∨ v3 = 1 then some v3 else none
def f_X0_addKnown (a0 : Nat) (a1 : Int32) (a2 : Int32) (h : mx_Hp) : Option (Int32 × mx_Hp) :=
  (f_X11_isMayor a1 h).bind fun x1 =>
  if x1 = 0 then
  some (0, h)
  else
  if a0 < h.1 ∧ (mx_lay a0).1 = 3 then
  ((f_X0_has a0 a2 h).bind fun x3 =>
  if ¬ x3 = 0 then
  (if ¬ a1 = 0 then
  (mx_gi h a0 0 8).bind fun x7 =>
  (f_X11_bit a2 h).bind fun x8 =>
  (mx_pi h a0 0 8 (x7 ||| x8)).bind fun h9 =>
  some h9
  else
  (mx_gi h a0 0 7).bind fun x10 =>
  (f_X11_bit a2 h).bind fun x11 =>
  (mx_pi h a0 0 7 (x10 ||| x11)).bind fun h12 =>
  some h12 : Option (mx_Hp)).bind fun v13 =>
  some (1, v13)
  else
  some (0, h))
  else none
def f_X0_takePair (a0 : Nat) (a1 : Int32) (a2 : Int32) (a3 : Int32) (h : mx_Hp) : Option (Int32 × mx_Hp) :=
  if a1 = 103 then
  if a0 < h.1 ∧ (mx_lay a0).1 = 3 then
  ((f_X0_addBehind a0 a2 a3 h).bind fun x2 =>
  if x2.1 = 0 ∨ x2.1 = 1 then some (x2.1, x2.2) else none)
  else none
  else
  if a1 = 107 then
  if a0 < h.1 ∧ (mx_lay a0).1 = 3 then
  ((f_X0_addKnown a0 a2 a3 h).bind fun x6 =>
  if x6.1 = 0 ∨ x6.1 = 1 then some (x6.1, x6.2) else none)
  else none
  else
  if a1 = 119 then
  if a0 < h.1 ∧ (mx_lay a0).1 = 3 then
  ((f_X0_addWord a0 a2 a3 h).bind fun x10 =>
  if x10.1 = 0 ∨ x10.1 = 1 then some (x10.1, x10.2) else none)
  else none
  else
  some (0, h)
def f_X0_setLongest (a0 : Nat) (a1 : Int32) (h : mx_Hp) : Option (Int32 × mx_Hp) :=
  if a1 < 1 then
  some (0, h)
  else
  if a1 ≤ 4 then
  (mx_pi h a0 0 9 a1).bind fun h3 =>
  some (1, h3)
  else
  some (0, h)
def f_X0_setChain (a0 : Nat) (a1 : Int32) (h : mx_Hp) : Option (Int32 × mx_Hp) :=
  (f_X11_isMayor a1 h).bind fun x1 =>
  if ¬ x1 = 0 then
  (mx_pi h a0 0 10 a1).bind fun h3 =>
  some (1, h3)
  else
  some (0, h)
def f_X0_takeSingle (a0 : Nat) (a1 : Int32) (a2 : Int32) (h : mx_Hp) : Option (Int32 × mx_Hp) :=
  if a1 = 99 then
  if a0 < h.1 ∧ (mx_lay a0).1 = 3 then
  ((f_X0_setChain a0 a2 h).bind fun x2 =>
  if x2.1 = 0 ∨ x2.1 = 1 then some (x2.1, x2.2) else none)
  else none
  else
  if a1 = 108 then
  if a0 < h.1 ∧ (mx_lay a0).1 = 3 then
  ((f_X0_setLongest a0 a2 h).bind fun x6 =>
  if x6.1 = 0 ∨ x6.1 = 1 then some (x6.1, x6.2) else none)
  else none
  else
  some (0, h)
def f_X0_kindOf (a0 : Nat) (a1 : Int32) (h : mx_Hp) : Option (Int32) :=
  if a0 < h.1 ∧ (mx_lay a0).1 = 3 then
  ((f_X0_has a0 a1 h).bind fun x1 =>
  (if x1 = 0 then
  some (-4)
  else
  (mx_gr h a0 0 0).bind fun x4 =>
  (mx_al h x4 a1).bind fun x5 =>
  some x5 : Option (Int32)).bind fun v6 =>
  some v6)
  else none
def f_X0_worthOf (a0 : Nat) (a1 : Int32) (h : mx_Hp) : Option (Int32) :=
  if a0 < h.1 ∧ (mx_lay a0).1 = 3 then
  ((f_X0_has a0 a1 h).bind fun x1 =>
  (if x1 = 0 then
  some 0
  else
  (mx_gr h a0 0 1).bind fun x4 =>
  (mx_al h x4 a1).bind fun x5 =>
  some x5 : Option (Int32)).bind fun v6 =>
  some v6)
  else none
def f_X0_behindOf (a0 : Nat) (a1 : Int32) (h : mx_Hp) : Option (Int32) :=
  if a0 < h.1 ∧ (mx_lay a0).1 = 3 then
  ((f_X0_has a0 a1 h).bind fun x1 =>
  (if x1 = 0 then
  some 0
  else
  (mx_gr h a0 0 2).bind fun x4 =>
  (mx_al h x4 a1).bind fun x5 =>
  some x5 : Option (Int32)).bind fun v6 =>
  some v6)
  else none
def f_X0_allWords (a0 : Nat) (h : mx_Hp) : Option (Int32) :=
  (mx_gi h a0 0 3).bind fun x1 =>
  some (((1 : Int32) <<< (x1 &&& 31)) - 1)
def f_X0_aheadOf_L4 (l0 : Nat) (l1 : Int32) (h : mx_Hp)  : (Int32 × Int32 → Option (Int32)) → Int32 × Int32 → Option (Int32) := fun self s =>
  (mx_gi h l0 0 3).bind fun x1 =>
  if x1 ≤ s.2 then
  some s.1
  else
  if 10 ≤ s.2 then
  some s.1
  else
  (mx_gr h l0 0 2).bind fun x4 =>
  (mx_al h x4 s.2).bind fun x5 =>
  (if (x5 &&& l1) = 0 then
  some s.1
  else
  some (s.1 ||| ((1 : Int32) <<< (s.2 &&& 31))) : Option (Int32)).bind fun v7 =>
  self (v7, (s.2 + 1))
def f_X0_aheadOf (a0 : Nat) (a1 : Int32) (h : mx_Hp) : Option (Int32) :=
  mx_fix (f_X0_aheadOf_L4 a0 a1 h) 2000 (0, 0)
def f_X0_firstOf_L2 (l0 : Nat) (l1 : Int32) (h : mx_Hp)  : (Int32 → Option (Int32)) → Int32 → Option (Int32) := fun self s =>
  (mx_gi h l0 0 3).bind fun x1 =>
  if x1 ≤ s then
  some (-4)
  else
  if ((l1 >>> (s &&& 31)) &&& 1) = 0 then
  self (s + 1)
  else
  some s
def f_X0_firstOf (a0 : Nat) (a1 : Int32) (h : mx_Hp) : Option (Int32) :=
  mx_fix (f_X0_firstOf_L2 a0 a1 h) 2000 0
def f_X7_clear (a0 : Nat) (h : mx_Hp) : Option (mx_Hp) :=
  (mx_pi h a0 7 1 0).bind fun h1 =>
  some h1
def f_X7_at (a0 : Nat) (a1 : Int32) (h : mx_Hp) : Option (Int32) :=
  (if a1 < 0 then
  some (-4)
  else
  (mx_gi h a0 7 1).bind fun x2 =>
  if x2 ≤ a1 then
  some (-4)
  else
  (mx_gr h a0 7 0).bind fun x4 =>
  (mx_ln h x4).bind fun x5 =>
  if x5 ≤ a1 then
  some (-4)
  else
  (mx_gr h a0 7 0).bind fun x7 =>
  (mx_al h x7 a1).bind fun x8 =>
  some x8 : Option (Int32)).bind fun v9 =>
  some v9
def f_X7_add (a0 : Nat) (a1 : Int32) (h : mx_Hp) : Option (mx_Hp) :=
  (mx_gi h a0 7 1).bind fun x1 =>
  (if x1 < 0 then
  some h
  else
  (mx_gi h a0 7 1).bind fun x3 =>
  (mx_gr h a0 7 0).bind fun x4 =>
  (mx_ln h x4).bind fun x5 =>
  if x5 ≤ x3 then
  some h
  else
  (mx_gr h a0 7 0).bind fun x7 =>
  (mx_gi h a0 7 1).bind fun x8 =>
  (mx_as h x7 x8 a1).bind fun h9 =>
  (mx_gi h9 a0 7 1).bind fun x10 =>
  (mx_pi h9 a0 7 1 (x10 + 1)).bind fun h11 =>
  some h11 : Option (mx_Hp)).bind fun v12 =>
  some v12
def f_X7_copyFrom_L6 (l0 : Nat) (l1 : Nat)  : (Int32 × mx_Hp → Option (mx_Hp)) → Int32 × mx_Hp → Option (mx_Hp) := fun self s =>
  (mx_gi s.2 l1 7 1).bind fun x3 =>
  if x3 ≤ s.1 then
  some s.2
  else
  if l1 < s.2.1 ∧ (mx_lay l1).1 = 10 then
  ((f_X7_at l1 s.1 s.2).bind fun x5 =>
  if l0 < s.2.1 ∧ (mx_lay l0).1 = 10 then
  ((f_X7_add l0 x5 s.2).bind fun x7 =>
  self ((s.1 + 1), x7))
  else none)
  else none
def f_X7_copyFrom (a0 : Nat) (a1 : Nat) (h : mx_Hp) : Option (mx_Hp) :=
  if a0 < h.1 ∧ (mx_lay a0).1 = 10 then
  ((f_X7_clear a0 h).bind fun x1 =>
  mx_fix (f_X7_copyFrom_L6 a0 a1) 2000 (0, x1))
  else none
def f_X4_copyFrom (a0 : Nat) (a1 : Nat) (h : mx_Hp) : Option (mx_Hp) :=
  (mx_gi h a1 4 0).bind fun x1 =>
  (mx_pi h a0 4 0 x1).bind fun h2 =>
  (mx_gi h2 a1 4 1).bind fun x3 =>
  (mx_pi h2 a0 4 1 x3).bind fun h4 =>
  (mx_gi h4 a1 4 2).bind fun x5 =>
  (mx_pi h4 a0 4 2 x5).bind fun h6 =>
  some h6
def f_X9_copyFrom (a0 : Nat) (a1 : Nat) (h : mx_Hp) : Option (mx_Hp) :=
  (mx_gr h a0 9 0).bind fun x1 =>
  (mx_gr h a1 9 0).bind fun x2 =>
  if x1 < h.1 ∧ (mx_lay x1).1 = 10 then
  ((f_X7_copyFrom x1 x2 h).bind fun x3 =>
  (mx_gr x3 a0 9 1).bind fun x5 =>
  (mx_gr x3 a1 9 1).bind fun x6 =>
  if x5 < x3.1 ∧ (mx_lay x5).1 = 7 then
  ((f_X4_copyFrom x5 x6 x3).bind fun x7 =>
  (mx_gr x7 a0 9 2).bind fun x9 =>
  (mx_gr x7 a1 9 2).bind fun x10 =>
  if x9 < x7.1 ∧ (mx_lay x9).1 = 7 then
  ((f_X4_copyFrom x9 x10 x7).bind fun x11 =>
  (mx_gi x11 a1 9 3).bind fun x13 =>
  (mx_pi x11 a0 9 3 x13).bind fun h14 =>
  (mx_gi h14 a1 9 4).bind fun x15 =>
  (mx_pi h14 a0 9 4 x15).bind fun h16 =>
  (mx_gi h16 a1 9 5).bind fun x17 =>
  (mx_pi h16 a0 9 5 x17).bind fun h18 =>
  some h18)
  else none)
  else none)
  else none
def f_X1_drawOf (a0 : Int32) (a1 : Int32) (h : mx_Hp) : Option (Int32) :=
  if ((65521 : Int32).toInt64 : Int64) = 0 then none else
  if ((2 : Int32).toInt64 : Int64) = 0 then none else
  some (((((((((7919 : Int32).toInt64 * (a0).toInt64) + ((6151 : Int32).toInt64 * (a1).toInt64)) + (1 : Int32).toInt64) * ((((7919 : Int32).toInt64 * (a0).toInt64) + ((6151 : Int32).toInt64 * (a1).toInt64)) + (1 : Int32).toInt64)) - (((((7919 : Int32).toInt64 * (a0).toInt64) + ((6151 : Int32).toInt64 * (a1).toInt64)) + (1 : Int32).toInt64) * ((((7919 : Int32).toInt64 * (a0).toInt64) + ((6151 : Int32).toInt64 * (a1).toInt64)) + (1 : Int32).toInt64)) / (65521 : Int32).toInt64 * (65521 : Int32).toInt64) / (2 : Int32).toInt64)).toInt32)
def f_X9_lastWord (a0 : Nat) (h : mx_Hp) : Option (Int32) :=
  (mx_gr h a0 9 0).bind fun x1 =>
  (mx_gr h a0 9 0).bind fun x2 =>
  (mx_gi h x2 7 1).bind fun x3 =>
  if x1 < h.1 ∧ (mx_lay x1).1 = 10 then
  ((f_X7_at x1 (x3 - 1) h).bind fun x4 =>
  some x4)
  else none
def f_X9_mayorOf (a0 : Nat) (a1 : Int32) (h : mx_Hp) : Option (Nat) :=
  (if ¬ a1 = 0 then
  (mx_gr h a0 9 2).bind fun x2 =>
  some x2
  else
  (mx_gr h a0 9 1).bind fun x3 =>
  some x3 : Option (Nat)).bind fun v4 =>
  some v4
def f_X9_otherMayor (a0 : Nat) (h : mx_Hp) : Option (Nat) :=
  (mx_gi h a0 9 3).bind fun x1 =>
  if a0 < h.1 ∧ (mx_lay a0).1 = 12 then
  ((f_X9_mayorOf a0 (1 - x1) h).bind fun x2 =>
  some x2)
  else none
def f_X9_sayableByOther (a0 : Nat) (a1 : Nat) (h : mx_Hp) : Option (Int32) :=
  (mx_gr h a0 9 0).bind fun x1 =>
  if x1 < h.1 ∧ (mx_lay x1).1 = 10 then
  ((f_X7_at x1 0 h).bind fun x2 =>
  if a1 < h.1 ∧ (mx_lay a1).1 = 3 then
  ((f_X0_kindOf a1 x2 h).bind fun x4 =>
  (if ¬ x4 = 3 then
  if a0 < h.1 ∧ (mx_lay a0).1 = 12 then
  ((f_X9_otherMayor a0 h).bind fun x7 =>
  (mx_gi h x7 4 2).bind fun x9 =>
  some x9)
  else none
  else
  if a1 < h.1 ∧ (mx_lay a1).1 = 3 then
  ((f_X0_allWords a1 h).bind fun x10 =>
  some x10)
  else none : Option (Int32)).bind fun v12 =>
  some v12)
  else none)
  else none
def f_X2_fillStarts_L10 (l0 : Nat) (l1 : Nat) (l2 : Int32)  : (Int32 × Int32 × mx_Hp → Option (mx_Hp)) → Int32 × Int32 × mx_Hp → Option (mx_Hp) := fun self s =>
  (mx_gr s.2.2 l0 2 1).bind fun x2 =>
  (mx_ln s.2.2 x2).bind fun x3 =>
  if x3 ≤ s.2.1 then
  some s.2.2
  else
  (mx_gr s.2.2 l0 2 1).bind fun x5 =>
  (mx_gi s.2.2 l1 0 9).bind fun x6 =>
  (if x6 ≤ s.2.1 then
  some 0
  else
  some s.1 : Option (Int32)).bind fun v8 =>
  (mx_as s.2.2 x5 s.2.1 v8).bind fun h9 =>
  if l1 < h9.1 ∧ (mx_lay l1).1 = 3 then
  ((f_X0_aheadOf l1 s.1 h9).bind fun x10 =>
  self ((x10 &&& l2), (s.2.1 + 1), h9))
  else none
def f_X2_fillStarts (a0 : Nat) (a1 : Nat) (a2 : Int32) (h : mx_Hp) : Option (mx_Hp) :=
  (mx_gi h a1 0 5).bind fun x1 =>
  mx_fix (f_X2_fillStarts_L10 a0 a1 a2) 2000 ((x1 &&& a2), 0, h)
def f_X2_fewestMore_L2 (l0 : Nat) (l1 : Int32) (h : mx_Hp)  : (Int32 → Option (Int32)) → Int32 → Option (Int32) := fun self s =>
  (mx_gr h l0 2 1).bind fun x1 =>
  (mx_ln h x1).bind fun x2 =>
  if x2 ≤ s then
  some (-1)
  else
  (mx_gr h l0 2 1).bind fun x4 =>
  (mx_al h x4 s).bind fun x5 =>
  if (l1 &&& x5) = 0 then
  self (s + 1)
  else
  some s
def f_X2_fewestMore (a0 : Nat) (a1 : Int32) (h : mx_Hp) : Option (Int32) :=
  mx_fix (f_X2_fewestMore_L2 a0 a1 h) 2000 0
def f_X2_find_L45 (l0 : Nat) (l1 : Nat)  : (Int32 × Int32 × mx_Hp → Option (mx_Hp)) → Int32 × Int32 × mx_Hp → Option (mx_Hp) := fun self s =>
  if s.2.1 < 0 then
  some s.2.2
  else
  (mx_gr s.2.2 l0 2 1).bind fun x17 =>
  (mx_ln s.2.2 x17).bind fun x18 =>
  if x18 ≤ s.2.1 then
  some s.2.2
  else
  if l1 < s.2.2.1 ∧ (mx_lay l1).1 = 3 then
  ((f_X0_behindOf l1 s.1 s.2.2).bind fun x20 =>
  (mx_gr s.2.2 l0 2 1).bind fun x22 =>
  (mx_al s.2.2 x22 s.2.1).bind fun x23 =>
  if l1 < s.2.2.1 ∧ (mx_lay l1).1 = 3 then
  ((f_X0_firstOf l1 (x20 &&& x23) s.2.2).bind fun x24 =>
  (mx_gr s.2.2 l0 2 0).bind fun x26 =>
  if x26 < s.2.2.1 ∧ (mx_lay x26).1 = 10 then
  ((f_X7_add x26 x24 s.2.2).bind fun x27 =>
  self (x24, (s.2.1 + (-1)), x27))
  else none)
  else none)
  else none
def f_X2_find (a0 : Nat) (a1 : Nat) (a2 : Int32) (a3 : Int32) (h : mx_Hp) : Option (mx_Hp) :=
  (mx_gr h a0 2 0).bind fun x1 =>
  if x1 < h.1 ∧ (mx_lay x1).1 = 10 then
  ((f_X7_clear x1 h).bind fun x2 =>
  if a1 < x2.1 ∧ (mx_lay a1).1 = 3 then
  ((f_X0_has a1 a2 x2).bind fun x4 =>
  if x4 = 0 then
  some x2
  else
  if a1 < x2.1 ∧ (mx_lay a1).1 = 3 then
  ((f_X0_kindOf a1 a2 x2).bind fun x7 =>
  if ¬ x7 = 1 then
  if a0 < x2.1 ∧ (mx_lay a0).1 = 5 then
  ((f_X2_fillStarts a0 a1 a3 x2).bind fun x10 =>
  if a1 < x10.1 ∧ (mx_lay a1).1 = 3 then
  ((f_X0_behindOf a1 a2 x10).bind fun x12 =>
  if a0 < x10.1 ∧ (mx_lay a0).1 = 5 then
  ((f_X2_fewestMore a0 x12 x10).bind fun x14 =>
  mx_fix (f_X2_find_L45 a0 a1) 2000 (a2, x14, x10))
  else none)
  else none)
  else none
  else
  some x2)
  else none)
  else none)
  else none
def f_X7_worthIn_L4 (l0 : Nat) (l1 : Nat) (h : mx_Hp)  : (Int32 × Int32 → Option (Int32)) → Int32 × Int32 → Option (Int32) := fun self s =>
  (mx_gi h l0 7 1).bind fun x1 =>
  if x1 ≤ s.2 then
  some s.1
  else
  (mx_gr h l0 7 0).bind fun x3 =>
  (mx_ln h x3).bind fun x4 =>
  if x4 ≤ s.2 then
  some s.1
  else
  (mx_gr h l0 7 0).bind fun x6 =>
  (mx_al h x6 s.2).bind fun x7 =>
  if l1 < h.1 ∧ (mx_lay l1).1 = 3 then
  ((f_X0_worthOf l1 x7 h).bind fun x8 =>
  self ((s.1 + x8), (s.2 + 1)))
  else none
def f_X7_worthIn (a0 : Nat) (a1 : Nat) (h : mx_Hp) : Option (Int32) :=
  mx_fix (f_X7_worthIn_L4 a0 a1 h) 2000 (0, 0)
def f_X9_gain (a0 : Nat) (a1 : Nat) (a2 : Int32) (h : mx_Hp) : Option (Int32 × mx_Hp) :=
  (mx_gi h a1 4 0).bind fun x1 =>
  (mx_pi h a1 4 0 (x1 + 1)).bind fun h2 =>
  (mx_gi h2 a1 4 1).bind fun x3 =>
  (mx_pi h2 a1 4 1 (x3 + a2)).bind fun h4 =>
  (mx_gr h4 a0 9 0).bind fun x5 =>
  if x5 < h4.1 ∧ (mx_lay x5).1 = 10 then
  ((f_X7_clear x5 h4).bind fun x6 =>
  some (a2, x6))
  else none
def f_X9_passOver (a0 : Nat) (a1 : Nat) (a2 : Nat) (h : mx_Hp) : Option (Int32 × mx_Hp) :=
  (mx_gr h a0 9 0).bind fun x1 =>
  if x1 < h.1 ∧ (mx_lay x1).1 = 10 then
  ((f_X7_worthIn x1 a1 h).bind fun x2 =>
  if a2 < h.1 ∧ (mx_lay a2).1 = 10 then
  ((f_X7_worthIn a2 a1 h).bind fun x4 =>
  (mx_gi h a0 9 4).bind fun x6 =>
  (mx_gi h a2 7 1).bind fun x7 =>
  (mx_pi h a0 9 4 (x6 + x7)).bind fun h8 =>
  (mx_gi h8 a0 9 3).bind fun x9 =>
  (mx_pi h8 a0 9 3 (1 - x9)).bind fun h10 =>
  (mx_gi h10 a0 9 5).bind fun x11 =>
  (mx_pi h10 a0 9 5 (x11 + 1)).bind fun h12 =>
  (mx_gi h12 a0 9 3).bind fun x13 =>
  if a0 < h12.1 ∧ (mx_lay a0).1 = 12 then
  ((f_X9_mayorOf a0 x13 h12).bind fun x14 =>
  if a0 < h12.1 ∧ (mx_lay a0).1 = 12 then
  ((f_X9_gain a0 x14 (x2 + x4) h12).bind fun x16 =>
  some (x16.1, x16.2))
  else none)
  else none)
  else none)
  else none
def f_X1_finishes (a0 : Nat) (a1 : Nat) (h : mx_Hp) : Option (Int32 × mx_Hp) :=
  (mx_gr h a0 1 1).bind fun x1 =>
  (mx_gr h a0 1 0).bind fun x2 =>
  if x2 < h.1 ∧ (mx_lay x2).1 = 12 then
  ((f_X9_lastWord x2 h).bind fun x3 =>
  (mx_gr h a0 1 0).bind fun x5 =>
  if x5 < h.1 ∧ (mx_lay x5).1 = 12 then
  ((f_X9_sayableByOther x5 a1 h).bind fun x6 =>
  if x1 < h.1 ∧ (mx_lay x1).1 = 5 then
  ((f_X2_find x1 a1 x3 x6 h).bind fun x8 =>
  (mx_gr x8 a0 1 1).bind fun x10 =>
  (mx_gr x8 x10 2 0).bind fun x11 =>
  (mx_gi x8 x11 7 1).bind fun x12 =>
  if ¬ x12 = 0 then
  (mx_gr x8 a0 1 0).bind fun x14 =>
  (mx_gr x8 a0 1 1).bind fun x15 =>
  (mx_gr x8 x15 2 0).bind fun x16 =>
  if x14 < x8.1 ∧ (mx_lay x14).1 = 12 then
  ((f_X9_passOver x14 a1 x16 x8).bind fun x17 =>
  some (1, x17.2))
  else none
  else
  some (0, x8))
  else none)
  else none)
  else none
def f_X9_isEndable (a0 : Nat) (a1 : Nat) (h : mx_Hp) : Option (Int32) :=
  if a0 < h.1 ∧ (mx_lay a0).1 = 12 then
  ((f_X9_lastWord a0 h).bind fun x1 =>
  if a1 < h.1 ∧ (mx_lay a1).1 = 3 then
  ((f_X0_kindOf a1 x1 h).bind fun x3 =>
  (if ¬ x3 = 2 then
  some 0
  else
  some 1 : Option (Int32)).bind fun v6 =>
  if v6 = 0 ∨ v6 = 1 then some v6 else none)
  else none)
  else none
def f_X9_decree (a0 : Nat) (a1 : Nat) (h : mx_Hp) : Option (Int32 × mx_Hp) :=
  (mx_gi h a0 9 3).bind fun x1 =>
  if a0 < h.1 ∧ (mx_lay a0).1 = 12 then
  ((f_X9_mayorOf a0 x1 h).bind fun x2 =>
  (mx_gr h a0 9 0).bind fun x4 =>
  if x4 < h.1 ∧ (mx_lay x4).1 = 10 then
  ((f_X7_worthIn x4 a1 h).bind fun x5 =>
  if a0 < h.1 ∧ (mx_lay a0).1 = 12 then
  ((f_X9_gain a0 x2 x5 h).bind fun x7 =>
  some (x7.1, x7.2))
  else none)
  else none)
  else none
def f_X9_fits (a0 : Nat) (a1 : Nat) (a2 : Int32) (h : mx_Hp) : Option (Int32) :=
  (mx_gr h a0 9 0).bind fun x1 =>
  (mx_gi h x1 7 1).bind fun x2 =>
  (if x2 = 0 then
  some 1
  else
  if a0 < h.1 ∧ (mx_lay a0).1 = 12 then
  ((f_X9_lastWord a0 h).bind fun x4 =>
  if a1 < h.1 ∧ (mx_lay a1).1 = 3 then
  ((f_X0_behindOf a1 x4 h).bind fun x6 =>
  (f_X11_bit a2 h).bind fun x8 =>
  if (x6 &&& x8) = 0 then
  some 0
  else
  some 1)
  else none)
  else none : Option (Int32)).bind fun v10 =>
  if v10 = 0 ∨ v10 = 1 then some v10 else none
def f_X9_speak (a0 : Nat) (a1 : Int32) (h : mx_Hp) : Option (mx_Hp) :=
  (mx_gr h a0 9 0).bind fun x1 =>
  if x1 < h.1 ∧ (mx_lay x1).1 = 10 then
  ((f_X7_add x1 a1 h).bind fun x2 =>
  (mx_gi x2 a0 9 4).bind fun x4 =>
  (mx_pi x2 a0 9 4 (x4 + 1)).bind fun h5 =>
  some h5)
  else none
def f_X9_letFall (a0 : Nat) (h : mx_Hp) : Option (mx_Hp) :=
  (mx_gr h a0 9 0).bind fun x1 =>
  if x1 < h.1 ∧ (mx_lay x1).1 = 10 then
  ((f_X7_clear x1 h).bind fun x2 =>
  (mx_gi x2 a0 9 4).bind fun x4 =>
  (mx_pi x2 a0 9 4 (x4 + 1)).bind fun h5 =>
  some h5)
  else none
def f_X1_step (a0 : Nat) (a1 : Nat) (a2 : Int32) (h : mx_Hp) : Option (mx_Hp) :=
  if (64 : Int32) = 0 then none else
  if (3 : Int32) = 0 then none else
  if ¬ ((a2 / 64) - (a2 / 64) / 3 * 3) = 0 then
  if ¬ ((a2 / 64) - (a2 / 64) / 3 * 3) = 1 then
  (mx_gi h a1 0 3).bind fun x5 =>
  (if x5 ≤ 0 then
  some (-4)
  else
  (mx_gi h a1 0 3).bind fun x7 =>
  if (x7 : Int32) = 0 then none else
  some (a2 - a2 / x7 * x7) : Option (Int32)).bind fun v9 =>
  if a1 < h.1 ∧ (mx_lay a1).1 = 3 then
  ((f_X0_has a1 v9 h).bind fun x10 =>
  (if x10 = 0 then
  (mx_gr h a0 1 0).bind fun x13 =>
  (mx_gr h x13 9 0).bind fun x14 =>
  (mx_gi h x14 7 1).bind fun x15 =>
  if x15 ≤ 0 then
  some h
  else
  (mx_gr h a0 1 0).bind fun x17 =>
  if x17 < h.1 ∧ (mx_lay x17).1 = 12 then
  ((f_X9_letFall x17 h).bind fun x18 =>
  some x18)
  else none
  else
  (mx_gr h a0 1 0).bind fun x20 =>
  if x20 < h.1 ∧ (mx_lay x20).1 = 12 then
  ((f_X9_fits x20 a1 v9 h).bind fun x21 =>
  if x21 = 0 then
  (mx_gr h a0 1 0).bind fun x24 =>
  (mx_gr h x24 9 0).bind fun x25 =>
  (mx_gi h x25 7 1).bind fun x26 =>
  if x26 ≤ 0 then
  some h
  else
  (mx_gr h a0 1 0).bind fun x28 =>
  if x28 < h.1 ∧ (mx_lay x28).1 = 12 then
  ((f_X9_letFall x28 h).bind fun x29 =>
  some x29)
  else none
  else
  (mx_gr h a0 1 0).bind fun x31 =>
  (mx_gr h x31 9 0).bind fun x32 =>
  (mx_gi h x32 7 1).bind fun x33 =>
  if 12 ≤ x33 then
  (mx_gr h a0 1 0).bind fun x35 =>
  (mx_gr h x35 9 0).bind fun x36 =>
  (mx_gi h x36 7 1).bind fun x37 =>
  if x37 ≤ 0 then
  some h
  else
  (mx_gr h a0 1 0).bind fun x39 =>
  if x39 < h.1 ∧ (mx_lay x39).1 = 12 then
  ((f_X9_letFall x39 h).bind fun x40 =>
  some x40)
  else none
  else
  (mx_gr h a0 1 0).bind fun x42 =>
  if x42 < h.1 ∧ (mx_lay x42).1 = 12 then
  ((f_X9_speak x42 v9 h).bind fun x43 =>
  some x43)
  else none)
  else none : Option (mx_Hp)).bind fun v45 =>
  some v45)
  else none
  else
  (mx_gr h a0 1 0).bind fun x46 =>
  if x46 < h.1 ∧ (mx_lay x46).1 = 12 then
  ((f_X9_isEndable x46 a1 h).bind fun x47 =>
  if x47 = 0 then
  (mx_gi h a1 0 3).bind fun x50 =>
  (if x50 ≤ 0 then
  some (-4)
  else
  (mx_gi h a1 0 3).bind fun x52 =>
  if (x52 : Int32) = 0 then none else
  some (a2 - a2 / x52 * x52) : Option (Int32)).bind fun v54 =>
  if a1 < h.1 ∧ (mx_lay a1).1 = 3 then
  ((f_X0_has a1 v54 h).bind fun x55 =>
  (if x55 = 0 then
  (mx_gr h a0 1 0).bind fun x58 =>
  (mx_gr h x58 9 0).bind fun x59 =>
  (mx_gi h x59 7 1).bind fun x60 =>
  if x60 ≤ 0 then
  some h
  else
  (mx_gr h a0 1 0).bind fun x62 =>
  if x62 < h.1 ∧ (mx_lay x62).1 = 12 then
  ((f_X9_letFall x62 h).bind fun x63 =>
  some x63)
  else none
  else
  (mx_gr h a0 1 0).bind fun x65 =>
  if x65 < h.1 ∧ (mx_lay x65).1 = 12 then
  ((f_X9_fits x65 a1 v54 h).bind fun x66 =>
  if x66 = 0 then
  (mx_gr h a0 1 0).bind fun x69 =>
  (mx_gr h x69 9 0).bind fun x70 =>
  (mx_gi h x70 7 1).bind fun x71 =>
  if x71 ≤ 0 then
  some h
  else
  (mx_gr h a0 1 0).bind fun x73 =>
  if x73 < h.1 ∧ (mx_lay x73).1 = 12 then
  ((f_X9_letFall x73 h).bind fun x74 =>
  some x74)
  else none
  else
  (mx_gr h a0 1 0).bind fun x76 =>
  (mx_gr h x76 9 0).bind fun x77 =>
  (mx_gi h x77 7 1).bind fun x78 =>
  if 12 ≤ x78 then
  (mx_gr h a0 1 0).bind fun x80 =>
  (mx_gr h x80 9 0).bind fun x81 =>
  (mx_gi h x81 7 1).bind fun x82 =>
  if x82 ≤ 0 then
  some h
  else
  (mx_gr h a0 1 0).bind fun x84 =>
  if x84 < h.1 ∧ (mx_lay x84).1 = 12 then
  ((f_X9_letFall x84 h).bind fun x85 =>
  some x85)
  else none
  else
  (mx_gr h a0 1 0).bind fun x87 =>
  if x87 < h.1 ∧ (mx_lay x87).1 = 12 then
  ((f_X9_speak x87 v54 h).bind fun x88 =>
  some x88)
  else none)
  else none : Option (mx_Hp)).bind fun v90 =>
  some v90)
  else none
  else
  (mx_gr h a0 1 0).bind fun x91 =>
  if x91 < h.1 ∧ (mx_lay x91).1 = 12 then
  ((f_X9_decree x91 a1 h).bind fun x92 =>
  some x92.2)
  else none)
  else none
  else
  if a0 < h.1 ∧ (mx_lay a0).1 = 4 then
  ((f_X1_finishes a0 a1 h).bind fun x94 =>
  if x94.1 = 0 then
  if ¬ ((a2 / 64) - (a2 / 64) / 3 * 3) = 1 then
  (mx_gi x94.2 a1 0 3).bind fun x98 =>
  (if x98 ≤ 0 then
  some (-4)
  else
  (mx_gi x94.2 a1 0 3).bind fun x100 =>
  if (x100 : Int32) = 0 then none else
  some (a2 - a2 / x100 * x100) : Option (Int32)).bind fun v102 =>
  if a1 < x94.2.1 ∧ (mx_lay a1).1 = 3 then
  ((f_X0_has a1 v102 x94.2).bind fun x103 =>
  (if x103 = 0 then
  (mx_gr x94.2 a0 1 0).bind fun x106 =>
  (mx_gr x94.2 x106 9 0).bind fun x107 =>
  (mx_gi x94.2 x107 7 1).bind fun x108 =>
  if x108 ≤ 0 then
  some x94.2
  else
  (mx_gr x94.2 a0 1 0).bind fun x110 =>
  if x110 < x94.2.1 ∧ (mx_lay x110).1 = 12 then
  ((f_X9_letFall x110 x94.2).bind fun x111 =>
  some x111)
  else none
  else
  (mx_gr x94.2 a0 1 0).bind fun x113 =>
  if x113 < x94.2.1 ∧ (mx_lay x113).1 = 12 then
  ((f_X9_fits x113 a1 v102 x94.2).bind fun x114 =>
  if x114 = 0 then
  (mx_gr x94.2 a0 1 0).bind fun x117 =>
  (mx_gr x94.2 x117 9 0).bind fun x118 =>
  (mx_gi x94.2 x118 7 1).bind fun x119 =>
  if x119 ≤ 0 then
  some x94.2
  else
  (mx_gr x94.2 a0 1 0).bind fun x121 =>
  if x121 < x94.2.1 ∧ (mx_lay x121).1 = 12 then
  ((f_X9_letFall x121 x94.2).bind fun x122 =>
  some x122)
  else none
  else
  (mx_gr x94.2 a0 1 0).bind fun x124 =>
  (mx_gr x94.2 x124 9 0).bind fun x125 =>
  (mx_gi x94.2 x125 7 1).bind fun x126 =>
  if 12 ≤ x126 then
  (mx_gr x94.2 a0 1 0).bind fun x128 =>
  (mx_gr x94.2 x128 9 0).bind fun x129 =>
  (mx_gi x94.2 x129 7 1).bind fun x130 =>
  if x130 ≤ 0 then
  some x94.2
  else
  (mx_gr x94.2 a0 1 0).bind fun x132 =>
  if x132 < x94.2.1 ∧ (mx_lay x132).1 = 12 then
  ((f_X9_letFall x132 x94.2).bind fun x133 =>
  some x133)
  else none
  else
  (mx_gr x94.2 a0 1 0).bind fun x135 =>
  if x135 < x94.2.1 ∧ (mx_lay x135).1 = 12 then
  ((f_X9_speak x135 v102 x94.2).bind fun x136 =>
  some x136)
  else none)
  else none : Option (mx_Hp)).bind fun v138 =>
  some v138)
  else none
  else
  (mx_gr x94.2 a0 1 0).bind fun x139 =>
  if x139 < x94.2.1 ∧ (mx_lay x139).1 = 12 then
  ((f_X9_isEndable x139 a1 x94.2).bind fun x140 =>
  if x140 = 0 then
  (mx_gi x94.2 a1 0 3).bind fun x143 =>
  (if x143 ≤ 0 then
  some (-4)
  else
  (mx_gi x94.2 a1 0 3).bind fun x145 =>
  if (x145 : Int32) = 0 then none else
  some (a2 - a2 / x145 * x145) : Option (Int32)).bind fun v147 =>
  if a1 < x94.2.1 ∧ (mx_lay a1).1 = 3 then
  ((f_X0_has a1 v147 x94.2).bind fun x148 =>
  (if x148 = 0 then
  (mx_gr x94.2 a0 1 0).bind fun x151 =>
  (mx_gr x94.2 x151 9 0).bind fun x152 =>
  (mx_gi x94.2 x152 7 1).bind fun x153 =>
  if x153 ≤ 0 then
  some x94.2
  else
  (mx_gr x94.2 a0 1 0).bind fun x155 =>
  if x155 < x94.2.1 ∧ (mx_lay x155).1 = 12 then
  ((f_X9_letFall x155 x94.2).bind fun x156 =>
  some x156)
  else none
  else
  (mx_gr x94.2 a0 1 0).bind fun x158 =>
  if x158 < x94.2.1 ∧ (mx_lay x158).1 = 12 then
  ((f_X9_fits x158 a1 v147 x94.2).bind fun x159 =>
  if x159 = 0 then
  (mx_gr x94.2 a0 1 0).bind fun x162 =>
  (mx_gr x94.2 x162 9 0).bind fun x163 =>
  (mx_gi x94.2 x163 7 1).bind fun x164 =>
  if x164 ≤ 0 then
  some x94.2
  else
  (mx_gr x94.2 a0 1 0).bind fun x166 =>
  if x166 < x94.2.1 ∧ (mx_lay x166).1 = 12 then
  ((f_X9_letFall x166 x94.2).bind fun x167 =>
  some x167)
  else none
  else
  (mx_gr x94.2 a0 1 0).bind fun x169 =>
  (mx_gr x94.2 x169 9 0).bind fun x170 =>
  (mx_gi x94.2 x170 7 1).bind fun x171 =>
  if 12 ≤ x171 then
  (mx_gr x94.2 a0 1 0).bind fun x173 =>
  (mx_gr x94.2 x173 9 0).bind fun x174 =>
  (mx_gi x94.2 x174 7 1).bind fun x175 =>
  if x175 ≤ 0 then
  some x94.2
  else
  (mx_gr x94.2 a0 1 0).bind fun x177 =>
  if x177 < x94.2.1 ∧ (mx_lay x177).1 = 12 then
  ((f_X9_letFall x177 x94.2).bind fun x178 =>
  some x178)
  else none
  else
  (mx_gr x94.2 a0 1 0).bind fun x180 =>
  if x180 < x94.2.1 ∧ (mx_lay x180).1 = 12 then
  ((f_X9_speak x180 v147 x94.2).bind fun x181 =>
  some x181)
  else none)
  else none : Option (mx_Hp)).bind fun v183 =>
  some v183)
  else none
  else
  (mx_gr x94.2 a0 1 0).bind fun x184 =>
  if x184 < x94.2.1 ∧ (mx_lay x184).1 = 12 then
  ((f_X9_decree x184 a1 x94.2).bind fun x185 =>
  some x185.2)
  else none)
  else none
  else
  some x94.2)
  else none
def f_X1_outcome_L11 (l0 : Nat) (l1 : Nat) (l3 : Int32) (l4 : Int32)  : (Int32 × mx_Hp → Option (Nat × mx_Hp)) → Int32 × mx_Hp → Option (Nat × mx_Hp) := fun self s =>
  if l4 ≤ s.1 then
  (mx_gr s.2 l0 1 0).bind fun x5 =>
  some (x5, s.2)
  else
  (f_X1_drawOf l3 s.1 s.2).bind fun x6 =>
  if l0 < s.2.1 ∧ (mx_lay l0).1 = 4 then
  ((f_X1_step l0 l1 x6 s.2).bind fun x7 =>
  self ((s.1 + 1), x7))
  else none
def f_X1_outcome (a0 : Nat) (a1 : Nat) (a2 : Nat) (a3 : Int32) (a4 : Int32) (h : mx_Hp) : Option (Nat × mx_Hp) :=
  (mx_gr h a0 1 0).bind fun x1 =>
  if x1 < h.1 ∧ (mx_lay x1).1 = 12 then
  ((f_X9_copyFrom x1 a2 h).bind fun x2 =>
  mx_fix (f_X1_outcome_L11 a0 a1 a3 a4) 2000 (0, x2))
  else none
def f_X2_couldBehind_L13 (l1 : Nat) (l2 : Int32) (h : mx_Hp) (k51 : Int32 × Int32 × Int32 → Option (Int32)) : (Int32 × Int32 × Int32 → Option (Int32)) → Int32 × Int32 × Int32 → Option (Int32) := fun self s =>
  (mx_gi h l1 0 9).bind fun x2 =>
  if x2 ≤ s.2.2 then
  k51 (s.1, s.2.1, s.2.2)
  else
  if s.1 = 0 then
  k51 (s.1, s.2.1, s.2.2)
  else
  if l1 < h.1 ∧ (mx_lay l1).1 = 3 then
  ((f_X0_aheadOf l1 s.1 h).bind fun x5 =>
  self ((x5 &&& l2), (s.2.1 ||| x5), (s.2.2 + 1)))
  else none
def f_X2_couldBehind (a0 : Nat) (a1 : Nat) (a2 : Int32) (h : mx_Hp) : Option (Int32) :=
  (mx_gi h a1 0 5).bind fun x1 =>
  mx_fix (f_X2_couldBehind_L13 a1 a2 h (fun s12 => (mx_gi h a1 0 4).bind fun x13 =>
  some (s12.2.1 &&& (x13 ^^^ (-1))))) 2000 ((x1 &&& a2), 0, 0)
def f_X3_clear (a0 : Nat) (h : mx_Hp) : Option (mx_Hp) :=
  (mx_pi h a0 3 2 0).bind fun h1 =>
  (mx_pi h1 a0 3 3 0).bind fun h2 =>
  (mx_pi h2 a0 3 4 0).bind fun h3 =>
  some h3
def f_X3_startAnew (a0 : Nat) (h : mx_Hp) : Option (mx_Hp) :=
  (mx_pi h a0 3 1 0).bind fun h1 =>
  if a0 < h1.1 ∧ (mx_lay a0).1 = 6 then
  ((f_X3_clear a0 h1).bind fun x2 =>
  some x2)
  else none
def f_X3_note (a0 : Nat) (a1 : Int32) (a2 : Int32) (h : mx_Hp) : Option (Int32 × mx_Hp) :=
  (mx_gi h a0 3 2).bind fun x1 =>
  if x1 < 8 then
  (mx_gi h a0 3 3).bind fun x3 =>
  (if a2 = 0 then
  some 0
  else
  (f_X11_bit a1 h).bind fun x5 =>
  some x5 : Option (Int32)).bind fun v6 =>
  (mx_pi h a0 3 3 (x3 ||| v6)).bind fun h7 =>
  (mx_gi h7 a0 3 4).bind fun x8 =>
  (if a2 = 0 then
  (f_X11_bit a1 h7).bind fun x10 =>
  some x10
  else
  some 0 : Option (Int32)).bind fun v11 =>
  (mx_pi h7 a0 3 4 (x8 ||| v11)).bind fun h12 =>
  (mx_gi h12 a0 3 2).bind fun x13 =>
  (mx_pi h12 a0 3 2 (x13 + 1)).bind fun h14 =>
  some (1, h14)
  else
  some (0, h)
def f_X3_tableOnce_L10 (l0 : Nat) (l1 : Nat) (l2 : Nat)  : (Int32 × mx_Hp → Option (mx_Hp)) → Int32 × mx_Hp → Option (mx_Hp) := fun self s =>
  if l1 < s.2.1 ∧ (mx_lay l1).1 = 3 then
  ((f_X0_allWords l1 s.2).bind fun x3 =>
  if x3 < s.1 then
  (mx_pi s.2 l0 3 1 1).bind fun h6 =>
  some h6
  else
  if 1024 ≤ s.1 then
  (mx_pi s.2 l0 3 1 1).bind fun h8 =>
  some h8
  else
  (mx_gr s.2 l0 3 0).bind fun x9 =>
  if l2 < s.2.1 ∧ (mx_lay l2).1 = 5 then
  ((f_X2_couldBehind l2 l1 s.1 s.2).bind fun x10 =>
  (mx_as s.2 x9 s.1 x10).bind fun h12 =>
  self ((s.1 + 1), h12))
  else none)
  else none
def f_X3_tableOnce (a0 : Nat) (a1 : Nat) (a2 : Nat) (h : mx_Hp) : Option (mx_Hp) :=
  (mx_gi h a0 3 1).bind fun x1 =>
  if x1 = 0 then
  mx_fix (f_X3_tableOnce_L10 a0 a1 a2) 2000 (0, h)
  else
  some h
def f_X3_weigh_L26 (l0 : Nat) (l1 : Nat)  : (Int32 × mx_Hp → Option (mx_Hp)) → Int32 × mx_Hp → Option (mx_Hp) := fun self s =>
  if l1 < s.2.1 ∧ (mx_lay l1).1 = 3 then
  ((f_X0_allWords l1 s.2).bind fun x8 =>
  if x8 < s.1 then
  some s.2
  else
  if 1024 ≤ s.1 then
  some s.2
  else
  (mx_gr s.2 l0 3 0).bind fun x12 =>
  (mx_al s.2 x12 s.1).bind fun x13 =>
  (mx_gi s.2 l0 3 3).bind fun x14 =>
  (mx_gi s.2 l0 3 4).bind fun x15 =>
  (mx_gi s.2 l0 3 3).bind fun x16 =>
  (if ¬ (x13 &&& (x14 ||| x15)) = x16 then
  some s.2
  else
  (mx_gi s.2 l0 3 3).bind fun x18 =>
  (mx_gi s.2 l0 3 4).bind fun x19 =>
  if ¬ (x18 &&& x19) = 0 then
  some s.2
  else
  (mx_gi s.2 l0 3 5).bind fun x21 =>
  (mx_pi s.2 l0 3 5 (x21 + 1)).bind fun h22 =>
  (mx_gi h22 l0 3 6).bind fun x23 =>
  (mx_pi h22 l0 3 6 (x23 &&& s.1)).bind fun h24 =>
  (mx_gi h24 l0 3 7).bind fun x25 =>
  (mx_pi h24 l0 3 7 (x25 ||| s.1)).bind fun h26 =>
  some h26 : Option (mx_Hp)).bind fun v27 =>
  self ((s.1 + 1), v27))
  else none
def f_X3_weigh (a0 : Nat) (a1 : Nat) (a2 : Nat) (h : mx_Hp) : Option (mx_Hp) :=
  if a0 < h.1 ∧ (mx_lay a0).1 = 6 then
  ((f_X3_tableOnce a0 a1 a2 h).bind fun x1 =>
  (mx_pi x1 a0 3 5 0).bind fun h3 =>
  if a1 < h3.1 ∧ (mx_lay a1).1 = 3 then
  ((f_X0_allWords a1 h3).bind fun x4 =>
  (mx_pi h3 a0 3 6 x4).bind fun h6 =>
  (mx_pi h6 a0 3 7 0).bind fun h7 =>
  mx_fix (f_X3_weigh_L26 a0 a1) 2000 (0, h7))
  else none)
  else none
def f_X4_startWith (a0 : Nat) (a1 : Int32) (h : mx_Hp) : Option (mx_Hp) :=
  (mx_pi h a0 4 0 0).bind fun h1 =>
  (mx_pi h1 a0 4 1 0).bind fun h2 =>
  (mx_pi h2 a0 4 2 a1).bind fun h3 =>
  some h3
def f_X5_prepare (a0 : Nat) (a1 : Nat) (a2 : Nat) (a3 : Int32) (a4 : Int32) (h : mx_Hp) : Option (mx_Hp) :=
  (mx_pi h a0 5 0 a3).bind fun h1 =>
  (mx_pi h1 a0 5 1 a4).bind fun h2 =>
  if a2 < h2.1 ∧ (mx_lay a2).1 = 5 then
  ((f_X2_couldBehind a2 a1 a4 h2).bind fun x3 =>
  (mx_pi h2 a0 5 2 x3).bind fun h5 =>
  some h5)
  else none
def f_X5_leadingWith (a0 : Nat) (a1 : Int32) (a2 : Int32) (h : mx_Hp) : Option (Int32) :=
  if a1 < 0 then
  some 0
  else
  if a1 < 10 then
  (if a2 = 0 then
  (mx_gr h a0 5 3).bind fun x4 =>
  (mx_al h x4 a1).bind fun x5 =>
  some x5
  else
  (mx_gr h a0 5 4).bind fun x6 =>
  (mx_al h x6 a1).bind fun x7 =>
  some x7 : Option (Int32)).bind fun v8 =>
  some v8
  else
  some 0
def f_X5_firstsWith (a0 : Nat) (a1 : Int32) (h : mx_Hp) : Option (Int32) :=
  if a0 < h.1 ∧ (mx_lay a0).1 = 8 then
  ((f_X5_leadingWith a0 a1 0 h).bind fun x1 =>
  (mx_gi h a0 5 0).bind fun x3 =>
  some (x1 &&& x3))
  else none
def f_X5_tableAt (a0 : Nat) (a1 : Int32) (a2 : Int32) (h : mx_Hp) : Option (Int32) :=
  (if a1 < 0 then
  some (-1)
  else
  if 10 ≤ a1 then
  some (-1)
  else
  if a2 < 0 then
  some (-1)
  else
  if 10 ≤ a2 then
  some (-1)
  else
  (mx_gr h a0 5 5).bind fun x5 =>
  (mx_rl h x5 a1).bind fun x6 =>
  (mx_al h x6 a2).bind fun x7 =>
  some x7 : Option (Int32)).bind fun v8 =>
  some v8
def f_X5_seekSafe_L27 (l0 : Nat) (l1 : Nat) (l2 : Int32)  : (Int32 × mx_Hp → Option (mx_Hp)) → Int32 × mx_Hp → Option (mx_Hp) := fun self s =>
  if 10 ≤ s.1 then
  some s.2
  else
  (mx_gr s.2 l0 5 4).bind fun x9 =>
  (mx_gr s.2 l0 5 4).bind fun x10 =>
  (mx_al s.2 x10 (s.1 - 1)).bind fun x11 =>
  if l1 < s.2.1 ∧ (mx_lay l1).1 = 3 then
  ((f_X0_aheadOf l1 x11 s.2).bind fun x12 =>
  (mx_gi s.2 l0 5 2).bind fun x14 =>
  (mx_as s.2 x9 s.1 (x12 &&& (x14 ^^^ (-1)))).bind fun h15 =>
  (mx_gr h15 l0 5 3).bind fun x16 =>
  (mx_al h15 x16 (s.1 - 1)).bind fun x17 =>
  if l1 < h15.1 ∧ (mx_lay l1).1 = 3 then
  ((f_X0_aheadOf l1 x17 h15).bind fun x18 =>
  (mx_gi h15 l0 5 2).bind fun x20 =>
  (f_X11_bit l2 h15).bind fun x21 =>
  (mx_gr h15 l0 5 3).bind fun x22 =>
  (mx_gr h15 l0 5 4).bind fun x23 =>
  (mx_al h15 x23 s.1).bind fun x24 =>
  (f_X11_bit l2 h15).bind fun x25 =>
  (mx_as h15 x22 s.1 ((x24 &&& x25) ||| ((x18 &&& (x20 ^^^ (-1))) &&& (x21 ^^^ (-1))))).bind fun h26 =>
  self ((s.1 + 1), h26))
  else none)
  else none
def f_X5_seekSafe (a0 : Nat) (a1 : Nat) (a2 : Int32) (h : mx_Hp) : Option (mx_Hp) :=
  (mx_gr h a0 5 4).bind fun x1 =>
  (mx_gi h a1 0 5).bind fun x2 =>
  (mx_as h x1 0 x2).bind fun h3 =>
  (mx_gr h3 a0 5 3).bind fun x4 =>
  (mx_gi h3 a1 0 5).bind fun x5 =>
  (f_X11_bit a2 h3).bind fun x6 =>
  (mx_as h3 x4 0 (x5 &&& x6)).bind fun h7 =>
  mx_fix (f_X5_seekSafe_L27 a0 a1 a2) 2000 (1, h7)
def f_X7_holds_L2 (l0 : Nat) (l1 : Int32) (h : mx_Hp)  : (Int32 → Option (Int32)) → Int32 → Option (Int32) := fun self s =>
  (mx_gi h l0 7 1).bind fun x1 =>
  if x1 ≤ s then
  some 0
  else
  (mx_gr h l0 7 0).bind fun x3 =>
  (mx_ln h x3).bind fun x4 =>
  if x4 ≤ s then
  some 0
  else
  (mx_gr h l0 7 0).bind fun x6 =>
  (mx_al h x6 s).bind fun x7 =>
  if ¬ x7 = l1 then
  self (s + 1)
  else
  some 1
def f_X7_holds (a0 : Nat) (a1 : Int32) (h : mx_Hp) : Option (Int32) :=
  mx_fix (f_X7_holds_L2 a0 a1 h) 2000 0
def f_X5_luresTo_L6 (l0 : Nat) (l1 : Nat) (l2 : Nat) (l3 : Int32)  : (Int32 × Int32 × mx_Hp → Option (Int32 × mx_Hp)) → Int32 × Int32 × mx_Hp → Option (Int32 × mx_Hp) := fun self s =>
  (mx_gi s.2.2 l1 0 3).bind fun x1 =>
  if x1 ≤ s.2.1 then
  some (s.1, s.2.2)
  else
  (mx_gi s.2.2 l0 5 2).bind fun x3 =>
  (f_X11_bit s.2.1 s.2.2).bind fun x4 =>
  (if (x3 &&& x4) = 0 then
  some (s.1, s.2.2)
  else
  (mx_gi s.2.2 l0 5 1).bind fun x6 =>
  if l2 < s.2.2.1 ∧ (mx_lay l2).1 = 5 then
  ((f_X2_find l2 l1 s.2.1 x6 s.2.2).bind fun x7 =>
  (mx_gr x7 l2 2 0).bind fun x9 =>
  if x9 < x7.1 ∧ (mx_lay x9).1 = 10 then
  ((f_X7_holds x9 l3 x7).bind fun x10 =>
  (if x10 = 0 then
  some 0
  else
  (f_X11_bit s.2.1 x7).bind fun x13 =>
  some x13 : Option (Int32)).bind fun v14 =>
  some ((s.1 ||| v14), x7))
  else none)
  else none : Option (Int32 × mx_Hp)).bind fun v15 =>
  self (v15.1, (s.2.1 + 1), v15.2)
def f_X5_luresTo (a0 : Nat) (a1 : Nat) (a2 : Nat) (a3 : Int32) (h : mx_Hp) : Option (Int32 × mx_Hp) :=
  mx_fix (f_X5_luresTo_L6 a0 a1 a2 a3) 2000 (0, 0, h)
def f_X5_seekLure_L16 (l0 : Nat) (l1 : Nat)  : (Int32 × mx_Hp → Option (mx_Hp)) → Int32 × mx_Hp → Option (mx_Hp) := fun self s =>
  if 10 ≤ s.1 then
  some s.2
  else
  (mx_gr s.2 l0 5 3).bind fun x6 =>
  (mx_gr s.2 l0 5 3).bind fun x7 =>
  (mx_al s.2 x7 (s.1 - 1)).bind fun x8 =>
  if l1 < s.2.1 ∧ (mx_lay l1).1 = 3 then
  ((f_X0_aheadOf l1 x8 s.2).bind fun x9 =>
  (mx_gi s.2 l0 5 2).bind fun x11 =>
  (mx_as s.2 x6 s.1 (x9 &&& (x11 ^^^ (-1)))).bind fun h12 =>
  self ((s.1 + 1), h12))
  else none
def f_X5_seekLure (a0 : Nat) (a1 : Nat) (a2 : Nat) (a3 : Int32) (h : mx_Hp) : Option (mx_Hp) :=
  (mx_gr h a0 5 3).bind fun x1 =>
  if a0 < h.1 ∧ (mx_lay a0).1 = 8 then
  ((f_X5_luresTo a0 a1 a2 a3 h).bind fun x2 =>
  (mx_as x2.2 x1 0 x2.1).bind fun h4 =>
  mx_fix (f_X5_seekLure_L16 a0 a1) 2000 (1, h4))
  else none
def f_X5_mostBehind_L13 (l0 : Nat) (l1 : Nat) (l3 : Int32) (l4 : Int32) (h : mx_Hp)  : (Int32 × Int32 → Option (Int32)) → Int32 × Int32 → Option (Int32) := fun self s =>
  (mx_gi h l1 0 3).bind fun x3 =>
  if x3 ≤ s.2 then
  some s.1
  else
  (f_X11_bit s.2 h).bind fun x5 =>
  (if (l4 &&& x5) = 0 then
  some s.1
  else
  if l0 < h.1 ∧ (mx_lay l0).1 = 8 then
  ((f_X5_tableAt l0 l3 s.2 h).bind fun x7 =>
  some (if s.1 < x7 then x7 else s.1))
  else none : Option (Int32)).bind fun v9 =>
  self (v9, (s.2 + 1))
def f_X5_mostBehind (a0 : Nat) (a1 : Nat) (a2 : Int32) (a3 : Int32) (h : mx_Hp) : Option (Int32) :=
  if a1 < h.1 ∧ (mx_lay a1).1 = 3 then
  ((f_X0_behindOf a1 a2 h).bind fun x1 =>
  mx_fix (f_X5_mostBehind_L13 a0 a1 a3 x1 h) 2000 ((-1), 0))
  else none
def f_X5_tableWorths_L2 (l0 : Nat) (l1 : Nat) (l2 : Int32) (k48 : Int32 × mx_Hp → Option (mx_Hp)) : (Int32 × mx_Hp → Option (mx_Hp)) → Int32 × mx_Hp → Option (mx_Hp) := fun self s =>
  (mx_gi s.2 l1 0 3).bind fun x1 =>
  if x1 ≤ s.1 then
  k48 (s.1, s.2)
  else
  if 10 ≤ s.1 then
  k48 (s.1, s.2)
  else
  (mx_gr s.2 l0 5 5).bind fun x4 =>
  (mx_rl s.2 x4 0).bind fun x5 =>
  if l1 < s.2.1 ∧ (mx_lay l1).1 = 3 then
  ((f_X0_kindOf l1 s.1 s.2).bind fun x6 =>
  (if ¬ x6 = 2 then
  some (-1)
  else
  if l1 < s.2.1 ∧ (mx_lay l1).1 = 3 then
  ((f_X0_worthOf l1 s.1 s.2).bind fun x9 =>
  some x9)
  else none : Option (Int32)).bind fun v11 =>
  (mx_as s.2 x5 s.1 v11).bind fun h12 =>
  self ((s.1 + 1), h12))
  else none
def f_X5_tableWorths_L64 (l0 : Nat) (l1 : Nat) (l2 : Int32) (l3 : Int32) (k143 : Int32 × mx_Hp → Option (mx_Hp)) : (Int32 × mx_Hp → Option (mx_Hp)) → Int32 × mx_Hp → Option (mx_Hp) := fun self s =>
  (mx_gi s.2 l1 0 3).bind fun x28 =>
  if x28 ≤ s.1 then
  k143 (s.1, s.2)
  else
  if 10 ≤ s.1 then
  k143 (s.1, s.2)
  else
  (mx_gi s.2 l0 5 2).bind fun x31 =>
  (f_X11_bit s.1 s.2).bind fun x32 =>
  (if (x31 &&& x32) = 0 then
  if l0 < s.2.1 ∧ (mx_lay l0).1 = 8 then
  ((f_X5_mostBehind l0 l1 s.1 (l3 - 1) s.2).bind fun x34 =>
  some x34)
  else none
  else
  some (-1) : Option (Int32)).bind fun v36 =>
  (mx_gr s.2 l0 5 5).bind fun x37 =>
  (mx_rl s.2 x37 l3).bind fun x38 =>
  (if ¬ v36 = (-1) then
  if l1 < s.2.1 ∧ (mx_lay l1).1 = 3 then
  ((f_X0_worthOf l1 s.1 s.2).bind fun x40 =>
  some (v36 + x40))
  else none
  else
  some (-1) : Option (Int32)).bind fun v42 =>
  (mx_as s.2 x38 s.1 v42).bind fun h43 =>
  self ((s.1 + 1), h43)
def f_X5_tableWorths_L50 (l0 : Nat) (l1 : Nat) (l2 : Int32)  : (Int32 × mx_Hp → Option (mx_Hp)) → Int32 × mx_Hp → Option (mx_Hp) := fun self s =>
  if l2 ≤ s.1 then
  some s.2
  else
  if 10 ≤ s.1 then
  some s.2
  else
  mx_fix (f_X5_tableWorths_L64 l0 l1 l2 s.1 (fun s60 => self ((s.1 + 1), s60.2))) 2000 (0, s.2)
def f_X5_tableWorths (a0 : Nat) (a1 : Nat) (a2 : Int32) (h : mx_Hp) : Option (mx_Hp) :=
  mx_fix (f_X5_tableWorths_L2 a0 a1 a2 (fun s25 => mx_fix (f_X5_tableWorths_L50 a0 a1 a2) 2000 (1, s25.2))) 2000 (0, h)
def f_X5_sumBehind_L13 (l0 : Nat) (l1 : Nat) (l3 : Int32) (l4 : Int32) (h : mx_Hp)  : (Int32 × Int32 → Option (Int32)) → Int32 × Int32 → Option (Int32) := fun self s =>
  (mx_gi h l1 0 3).bind fun x3 =>
  if x3 ≤ s.2 then
  some s.1
  else
  (f_X11_bit s.2 h).bind fun x5 =>
  (if (l4 &&& x5) = 0 then
  some s.1
  else
  if l0 < h.1 ∧ (mx_lay l0).1 = 8 then
  ((f_X5_tableAt l0 l3 s.2 h).bind fun x7 =>
  some (s.1 + x7))
  else none : Option (Int32)).bind fun v9 =>
  self (v9, (s.2 + 1))
def f_X5_sumBehind (a0 : Nat) (a1 : Nat) (a2 : Int32) (a3 : Int32) (h : mx_Hp) : Option (Int32) :=
  if a1 < h.1 ∧ (mx_lay a1).1 = 3 then
  ((f_X0_behindOf a1 a2 h).bind fun x1 =>
  mx_fix (f_X5_sumBehind_L13 a0 a1 a3 x1 h) 2000 (0, 0))
  else none
def f_X5_tableWays_L17 (l0 : Nat) (l1 : Nat) (l2 : Int32) (l4 : Int32) (k63 : Int32 × mx_Hp → Option (mx_Hp)) : (Int32 × mx_Hp → Option (mx_Hp)) → Int32 × mx_Hp → Option (mx_Hp) := fun self s =>
  (mx_gi s.2 l1 0 3).bind fun x4 =>
  if x4 ≤ s.1 then
  k63 (s.1, s.2)
  else
  if 10 ≤ s.1 then
  k63 (s.1, s.2)
  else
  (mx_gr s.2 l0 5 5).bind fun x7 =>
  (mx_rl s.2 x7 0).bind fun x8 =>
  if l1 < s.2.1 ∧ (mx_lay l1).1 = 3 then
  ((f_X0_kindOf l1 s.1 s.2).bind fun x9 =>
  (if ¬ x9 = 2 then
  some 0
  else
  some 1 : Option (Int32)).bind fun v12 =>
  (mx_as s.2 x8 s.1 v12).bind fun h13 =>
  self ((s.1 + 1), h13))
  else none
def f_X5_tableWays_L82 (l0 : Nat) (l1 : Nat) (l2 : Int32) (l4 : Int32) (l5 : Int32) (k140 : Int32 × mx_Hp → Option (mx_Hp)) : (Int32 × mx_Hp → Option (mx_Hp)) → Int32 × mx_Hp → Option (mx_Hp) := fun self s =>
  (mx_gi s.2 l1 0 3).bind fun x27 =>
  if x27 ≤ s.1 then
  k140 (s.1, s.2)
  else
  if 10 ≤ s.1 then
  k140 (s.1, s.2)
  else
  (mx_gr s.2 l0 5 5).bind fun x30 =>
  (mx_rl s.2 x30 l5).bind fun x31 =>
  (f_X11_bit s.1 s.2).bind fun x32 =>
  (if (l4 &&& x32) = 0 then
  if l0 < s.2.1 ∧ (mx_lay l0).1 = 8 then
  ((f_X5_sumBehind l0 l1 s.1 (l5 - 1) s.2).bind fun x34 =>
  some x34)
  else none
  else
  some 0 : Option (Int32)).bind fun v36 =>
  (mx_as s.2 x31 s.1 v36).bind fun h37 =>
  self ((s.1 + 1), h37)
def f_X5_tableWays_L66 (l0 : Nat) (l1 : Nat) (l2 : Int32) (l4 : Int32)  : (Int32 × mx_Hp → Option (mx_Hp)) → Int32 × mx_Hp → Option (mx_Hp) := fun self s =>
  if l2 ≤ s.1 then
  some s.2
  else
  if 10 ≤ s.1 then
  some s.2
  else
  mx_fix (f_X5_tableWays_L82 l0 l1 l2 l4 s.1 (fun s49 => self ((s.1 + 1), s49.2))) 2000 (0, s.2)
def f_X5_tableWays (a0 : Nat) (a1 : Nat) (a2 : Int32) (a3 : Int32) (h : mx_Hp) : Option (mx_Hp) :=
  (if a3 = 0 then
  some 0
  else
  (mx_gi h a0 5 2).bind fun x2 =>
  some x2 : Option (Int32)).bind fun v3 =>
  mx_fix (f_X5_tableWays_L17 a0 a1 a2 v3 (fun s24 => mx_fix (f_X5_tableWays_L66 a0 a1 a2 v3) 2000 (1, s24.2))) 2000 (0, h)
def f_X6_clear (a0 : Nat) (h : mx_Hp) : Option (mx_Hp) :=
  (mx_pi h a0 6 1 0).bind fun h1 =>
  some h1
def f_X6_placeAt (a0 : Nat) (a1 : Int32) (h : mx_Hp) : Option (Option Nat) :=
  (if a1 < 0 then
  some none
  else
  (mx_gr h a0 6 0).bind fun x2 =>
  (mx_ln h x2).bind fun x3 =>
  if x3 ≤ a1 then
  some none
  else
  (mx_gr h a0 6 0).bind fun x5 =>
  (mx_rl h x5 a1).bind fun x6 =>
  some (some x6) : Option (Option Nat)).bind fun v7 =>
  some v7
def f_X6_giveOldestToNewest_L8 (l0 : Nat) (l1 : Option Nat) (k37 : Int32 × mx_Hp → Option (mx_Hp)) : (Int32 × mx_Hp → Option (mx_Hp)) → Int32 × mx_Hp → Option (mx_Hp) := fun self s =>
  (mx_gr s.2 l0 6 0).bind fun x3 =>
  (mx_ln s.2 x3).bind fun x4 =>
  if x4 ≤ s.1 then
  k37 (s.1, s.2)
  else
  (mx_gr s.2 l0 6 0).bind fun x6 =>
  (mx_gr s.2 l0 6 0).bind fun x7 =>
  (mx_rl s.2 x7 s.1).bind fun x8 =>
  (mx_rs s.2 x6 (s.1 - 1) x8).bind fun h9 =>
  self ((s.1 + 1), h9)
def f_X6_giveOldestToNewest (a0 : Nat) (h : mx_Hp) : Option (mx_Hp) :=
  if a0 < h.1 ∧ (mx_lay a0).1 = 9 then
  ((f_X6_placeAt a0 0 h).bind fun x1 =>
  mx_fix (f_X6_giveOldestToNewest_L8 a0 x1 (fun s17 => (mx_gr s17.2 a0 6 0).bind fun x18 =>
  (mx_ln s17.2 x18).bind fun x19 =>
  (mx_pi s17.2 a0 6 1 (x19 - 1)).bind fun h20 =>
  (mx_gi h20 a0 6 1).bind fun x21 =>
  (if x21 < 0 then
  some h20
  else
  (match x1 with
  | none => some h20
  | some y23 => (mx_gr h20 a0 6 0).bind fun x24 =>
  (mx_gi h20 a0 6 1).bind fun x25 =>
  (mx_rs h20 x24 x25 y23).bind fun h26 =>
  some h26) : Option (mx_Hp)).bind fun v27 =>
  some v27)) 2000 (1, h))
  else none
def f_X6_put (a0 : Nat) (a1 : Nat) (h : mx_Hp) : Option (mx_Hp) :=
  (mx_gi h a0 6 1).bind fun x1 =>
  (mx_gr h a0 6 0).bind fun x2 =>
  (mx_ln h x2).bind fun x3 =>
  (if x1 < x3 then
  some h
  else
  if a0 < h.1 ∧ (mx_lay a0).1 = 9 then
  ((f_X6_giveOldestToNewest a0 h).bind fun x5 =>
  some x5)
  else none : Option (mx_Hp)).bind fun v7 =>
  (mx_gi v7 a0 6 1).bind fun x8 =>
  if a0 < v7.1 ∧ (mx_lay a0).1 = 9 then
  ((f_X6_placeAt a0 x8 v7).bind fun x9 =>
  (match x9 with
  | none => some v7
  | some y11 => if y11 < v7.1 ∧ (mx_lay y11).1 = 12 then
  ((f_X9_copyFrom y11 a1 v7).bind fun x12 =>
  (mx_gi x12 a0 6 1).bind fun x14 =>
  (mx_pi x12 a0 6 1 (x14 + 1)).bind fun h15 =>
  some h15)
  else none))
  else none
def f_X6_takeInto (a0 : Nat) (a1 : Nat) (h : mx_Hp) : Option (Int32 × mx_Hp) :=
  (mx_gi h a0 6 1).bind fun x1 =>
  if a0 < h.1 ∧ (mx_lay a0).1 = 9 then
  ((f_X6_placeAt a0 (x1 - 1) h).bind fun x2 =>
  (match x2 with
  | none => some (0, h)
  | some y4 => if a1 < h.1 ∧ (mx_lay a1).1 = 12 then
  ((f_X9_copyFrom a1 y4 h).bind fun x5 =>
  (mx_gi x5 a0 6 1).bind fun x7 =>
  (mx_pi x5 a0 6 1 (x7 - 1)).bind fun h8 =>
  some (1, h8))
  else none))
  else none
def f_X8_prepare (a0 : Nat) (a1 : Nat) (a2 : Nat) (h : mx_Hp) : Option (mx_Hp) :=
  (mx_gr h a0 8 0).bind fun x1 =>
  if x1 < h.1 ∧ (mx_lay x1).1 = 10 then
  ((f_X7_clear x1 h).bind fun x2 =>
  (mx_gr x2 a0 8 1).bind fun x4 =>
  (mx_gr x2 a0 8 3).bind fun x5 =>
  (mx_gi x2 a1 0 6).bind fun x6 =>
  if a1 < x2.1 ∧ (mx_lay a1).1 = 3 then
  ((f_X0_allWords a1 x2).bind fun x7 =>
  if x4 < x2.1 ∧ (mx_lay x4).1 = 8 then
  ((f_X5_prepare x4 a1 x5 x6 x7 x2).bind fun x9 =>
  (mx_gr x9 a0 8 2).bind fun x11 =>
  (mx_gr x9 a0 8 3).bind fun x12 =>
  if a1 < x9.1 ∧ (mx_lay a1).1 = 3 then
  ((f_X0_allWords a1 x9).bind fun x13 =>
  (mx_gi x9 a1 0 6).bind fun x15 =>
  if a2 < x9.1 ∧ (mx_lay a2).1 = 12 then
  ((f_X9_otherMayor a2 x9).bind fun x16 =>
  (mx_gi x9 x16 4 2).bind fun x18 =>
  if x11 < x9.1 ∧ (mx_lay x11).1 = 8 then
  ((f_X5_prepare x11 a1 x12 (x13 &&& (x15 ^^^ (-1))) x18 x9).bind fun x19 =>
  some x19)
  else none)
  else none)
  else none)
  else none)
  else none)
  else none
def f_X8_openingBy (a0 : Nat) (a1 : Nat) (a2 : Int32) (h : mx_Hp) : Option (Nat) :=
  if a1 < h.1 ∧ (mx_lay a1).1 = 3 then
  ((f_X0_kindOf a1 a2 h).bind fun x1 =>
  (if ¬ x1 = 3 then
  (mx_gr h a0 8 2).bind fun x4 =>
  some x4
  else
  (mx_gr h a0 8 1).bind fun x5 =>
  some x5 : Option (Nat)).bind fun v6 =>
  some v6)
  else none
def f_X8_follow_L39 (l0 : Nat) (l1 : Nat) (l4 : Int32) (l5 : Nat)  : (Int32 × Int32 × Int32 × mx_Hp → Option (mx_Hp)) → Int32 × Int32 × Int32 × mx_Hp → Option (mx_Hp) := fun self s =>
  if s.2.2.1 < 0 then
  some s.2.2.2
  else
  if l1 < s.2.2.2.1 ∧ (mx_lay l1).1 = 3 then
  ((f_X0_behindOf l1 s.1 s.2.2.2).bind fun x9 =>
  if l5 < s.2.2.2.1 ∧ (mx_lay l5).1 = 8 then
  ((f_X5_leadingWith l5 s.2.2.1 s.2.1 s.2.2.2).bind fun x11 =>
  if l1 < s.2.2.2.1 ∧ (mx_lay l1).1 = 3 then
  ((f_X0_firstOf l1 (x9 &&& x11) s.2.2.2).bind fun x13 =>
  (mx_gr s.2.2.2 l0 8 0).bind fun x15 =>
  if x15 < s.2.2.2.1 ∧ (mx_lay x15).1 = 10 then
  ((f_X7_add x15 x13 s.2.2.2).bind fun x16 =>
  (if ¬ s.2.1 = 0 then
  some 1
  else
  if ¬ x13 = l4 then
  some 0
  else
  some 1 : Option (Int32)).bind fun v20 =>
  self (x13, v20, (s.2.2.1 + (-1)), x16))
  else none)
  else none)
  else none)
  else none
def f_X8_follow (a0 : Nat) (a1 : Nat) (a2 : Int32) (a3 : Int32) (a4 : Int32) (h : mx_Hp) : Option (mx_Hp) :=
  if a0 < h.1 ∧ (mx_lay a0).1 = 11 then
  ((f_X8_openingBy a0 a1 a2 h).bind fun x1 =>
  (mx_gr h a0 8 0).bind fun x3 =>
  if x3 < h.1 ∧ (mx_lay x3).1 = 10 then
  ((f_X7_add x3 a2 h).bind fun x4 =>
  (if ¬ a2 = a4 then
  some 0
  else
  some 1 : Option (Int32)).bind fun v7 =>
  mx_fix (f_X8_follow_L39 a0 a1 a4 x1) 2000 (a2, v7, (a3 - 1), x4))
  else none)
  else none
def f_X8_followShortest_L2 (l0 : Nat) (l1 : Nat) (l2 : Int32)  : (Int32 × mx_Hp → Option (mx_Hp)) → Int32 × mx_Hp → Option (mx_Hp) := fun self s =>
  if 10 ≤ s.1 then
  some s.2
  else
  (mx_gr s.2 l0 8 1).bind fun x2 =>
  if x2 < s.2.1 ∧ (mx_lay x2).1 = 8 then
  ((f_X5_firstsWith x2 s.1 s.2).bind fun x3 =>
  (mx_gr s.2 l0 8 2).bind fun x5 =>
  if x5 < s.2.1 ∧ (mx_lay x5).1 = 8 then
  ((f_X5_firstsWith x5 s.1 s.2).bind fun x6 =>
  if l1 < s.2.1 ∧ (mx_lay l1).1 = 3 then
  ((f_X0_firstOf l1 (x3 ||| x6) s.2).bind fun x8 =>
  if x8 = (-4) then
  self ((s.1 + 1), s.2)
  else
  if l0 < s.2.1 ∧ (mx_lay l0).1 = 11 then
  ((f_X8_follow l0 l1 x8 s.1 l2 s.2).bind fun x11 =>
  some x11)
  else none)
  else none)
  else none)
  else none
def f_X8_followShortest (a0 : Nat) (a1 : Nat) (a2 : Int32) (h : mx_Hp) : Option (mx_Hp) :=
  mx_fix (f_X8_followShortest_L2 a0 a1 a2) 2000 (0, h)
def f_X8_findSafe (a0 : Nat) (a1 : Nat) (a2 : Nat) (a3 : Int32) (h : mx_Hp) : Option (mx_Hp) :=
  if a0 < h.1 ∧ (mx_lay a0).1 = 11 then
  ((f_X8_prepare a0 a1 a2 h).bind fun x1 =>
  (mx_gr x1 a0 8 1).bind fun x3 =>
  if x3 < x1.1 ∧ (mx_lay x3).1 = 8 then
  ((f_X5_seekSafe x3 a1 a3 x1).bind fun x4 =>
  (mx_gr x4 a0 8 2).bind fun x6 =>
  if x6 < x4.1 ∧ (mx_lay x6).1 = 8 then
  ((f_X5_seekSafe x6 a1 a3 x4).bind fun x7 =>
  if a0 < x7.1 ∧ (mx_lay a0).1 = 11 then
  ((f_X8_followShortest a0 a1 a3 x7).bind fun x9 =>
  some x9)
  else none)
  else none)
  else none)
  else none
def f_X8_findLure (a0 : Nat) (a1 : Nat) (a2 : Nat) (a3 : Int32) (h : mx_Hp) : Option (mx_Hp) :=
  if a0 < h.1 ∧ (mx_lay a0).1 = 11 then
  ((f_X8_prepare a0 a1 a2 h).bind fun x1 =>
  (mx_gr x1 a0 8 1).bind fun x3 =>
  (mx_gr x1 a0 8 3).bind fun x4 =>
  if x3 < x1.1 ∧ (mx_lay x3).1 = 8 then
  ((f_X5_seekLure x3 a1 x4 a3 x1).bind fun x5 =>
  (mx_gr x5 a0 8 2).bind fun x7 =>
  (mx_gr x5 a0 8 3).bind fun x8 =>
  if x7 < x5.1 ∧ (mx_lay x7).1 = 8 then
  ((f_X5_seekLure x7 a1 x8 a3 x5).bind fun x9 =>
  if a0 < x9.1 ∧ (mx_lay a0).1 = 11 then
  ((f_X8_followShortest a0 a1 (-4) x9).bind fun x11 =>
  some x11)
  else none)
  else none)
  else none)
  else none
def f_X8_firstBehindWith_L3 (l1 : Nat) (l2 : Nat) (l3 : Int32) (l4 : Int32) (l5 : Int32) (h : mx_Hp)  : (Int32 → Option (Int32)) → Int32 → Option (Int32) := fun self s =>
  (mx_gi h l1 0 3).bind fun x1 =>
  if x1 ≤ s then
  some (-4)
  else
  if l1 < h.1 ∧ (mx_lay l1).1 = 3 then
  ((f_X0_behindOf l1 l3 h).bind fun x3 =>
  (f_X11_bit s h).bind fun x5 =>
  if (x3 &&& x5) = 0 then
  self (s + 1)
  else
  if l2 < h.1 ∧ (mx_lay l2).1 = 8 then
  ((f_X5_tableAt l2 l4 s h).bind fun x7 =>
  if ¬ x7 = l5 then
  self (s + 1)
  else
  some s)
  else none)
  else none
def f_X8_firstBehindWith (a0 : Nat) (a1 : Nat) (a2 : Nat) (a3 : Int32) (a4 : Int32) (a5 : Int32) (h : mx_Hp) : Option (Int32) :=
  mx_fix (f_X8_firstBehindWith_L3 a1 a2 a3 a4 a5 h) 2000 0
def f_X8_followWorth_L34 (l0 : Nat) (l1 : Nat) (l4 : Nat)  : (Int32 × Int32 × mx_Hp → Option (mx_Hp)) → Int32 × Int32 × mx_Hp → Option (mx_Hp) := fun self s =>
  if s.2.1 < 0 then
  some s.2.2
  else
  if l4 < s.2.2.1 ∧ (mx_lay l4).1 = 8 then
  ((f_X5_tableAt l4 (s.2.1 + 1) s.1 s.2.2).bind fun x10 =>
  if l1 < s.2.2.1 ∧ (mx_lay l1).1 = 3 then
  ((f_X0_worthOf l1 s.1 s.2.2).bind fun x12 =>
  if l0 < s.2.2.1 ∧ (mx_lay l0).1 = 11 then
  ((f_X8_firstBehindWith l0 l1 l4 s.1 s.2.1 (x10 - x12) s.2.2).bind fun x14 =>
  (mx_gr s.2.2 l0 8 0).bind fun x16 =>
  if x16 < s.2.2.1 ∧ (mx_lay x16).1 = 10 then
  ((f_X7_add x16 x14 s.2.2).bind fun x17 =>
  self (x14, (s.2.1 + (-1)), x17))
  else none)
  else none)
  else none)
  else none
def f_X8_followWorth (a0 : Nat) (a1 : Nat) (a2 : Int32) (a3 : Int32) (h : mx_Hp) : Option (mx_Hp) :=
  if a1 < h.1 ∧ (mx_lay a1).1 = 3 then
  ((f_X0_has a1 a2 h).bind fun x1 =>
  if ¬ x1 = 0 then
  if a0 < h.1 ∧ (mx_lay a0).1 = 11 then
  ((f_X8_openingBy a0 a1 a2 h).bind fun x4 =>
  (mx_gr h a0 8 0).bind fun x6 =>
  if x6 < h.1 ∧ (mx_lay x6).1 = 10 then
  ((f_X7_add x6 a2 h).bind fun x7 =>
  mx_fix (f_X8_followWorth_L34 a0 a1 x4) 2000 (a2, (a3 - 1), x7))
  else none)
  else none
  else
  some h)
  else none
def f_X8_findBest_L46 (l0 : Nat) (l1 : Nat) (l3 : Int32) (l7 : Int32) (h : mx_Hp) (k96 : Int32 × Int32 × Int32 × Int32 → Option (Int32 × mx_Hp)) : (Int32 × Int32 × Int32 × Int32 → Option (Int32 × mx_Hp)) → Int32 × Int32 × Int32 × Int32 → Option (Int32 × mx_Hp) := fun self s =>
  (mx_gi h l1 0 3).bind fun x10 =>
  if x10 ≤ s.2.2.2 then
  k96 (s.1, s.2.1, s.2.2.1, s.2.2.2)
  else
  if l0 < h.1 ∧ (mx_lay l0).1 = 11 then
  ((f_X8_openingBy l0 l1 s.2.2.2 h).bind fun x12 =>
  if x12 < h.1 ∧ (mx_lay x12).1 = 8 then
  ((f_X5_tableAt x12 l7 s.2.2.2 h).bind fun x14 =>
  (if x14 ≤ s.1 then
  some (s.1, s.2.1, s.2.2.1)
  else
  some (x14, s.2.2.2, l7) : Option (Int32 × Int32 × Int32)).bind fun v17 =>
  self (v17.1, v17.2.1, v17.2.2, (s.2.2.2 + 1)))
  else none)
  else none
def f_X8_findBest_L37 (l0 : Nat) (l1 : Nat) (l3 : Int32) (h : mx_Hp) (k102 : Int32 × Int32 × Int32 × Int32 → Option (Int32 × mx_Hp)) : (Int32 × Int32 × Int32 × Int32 → Option (Int32 × mx_Hp)) → Int32 × Int32 × Int32 × Int32 → Option (Int32 × mx_Hp) := fun self s =>
  if l3 ≤ s.2.2.2 then
  k102 (s.1, s.2.1, s.2.2.1, s.2.2.2)
  else
  mx_fix (f_X8_findBest_L46 l0 l1 l3 s.2.2.2 h (fun s26 => self (s26.1, s26.2.1, s26.2.2.1, (s.2.2.2 + 1)))) 2000 (s.1, s.2.1, s.2.2.1, 0)
def f_X8_findBest (a0 : Nat) (a1 : Nat) (a2 : Nat) (a3 : Int32) (h : mx_Hp) : Option (Int32 × mx_Hp) :=
  if a0 < h.1 ∧ (mx_lay a0).1 = 11 then
  ((f_X8_prepare a0 a1 a2 h).bind fun x1 =>
  (mx_gr x1 a0 8 1).bind fun x3 =>
  if x3 < x1.1 ∧ (mx_lay x3).1 = 8 then
  ((f_X5_tableWorths x3 a1 a3 x1).bind fun x4 =>
  (mx_gr x4 a0 8 2).bind fun x6 =>
  if x6 < x4.1 ∧ (mx_lay x6).1 = 8 then
  ((f_X5_tableWorths x6 a1 a3 x4).bind fun x7 =>
  mx_fix (f_X8_findBest_L37 a0 a1 a3 x7 (fun s32 => if a0 < x7.1 ∧ (mx_lay a0).1 = 11 then
  ((f_X8_followWorth a0 a1 s32.2.1 s32.2.2.1 x7).bind fun x33 =>
  some (s32.1, x33))
  else none)) 2000 ((-1), (-4), 0, 0))
  else none)
  else none)
  else none
def f_X8_countWays_L34 (l0 : Nat) (l1 : Nat) (l3 : Int32) (h : mx_Hp)  : (Int32 × Int32 → Option (Int32 × mx_Hp)) → Int32 × Int32 → Option (Int32 × mx_Hp) := fun self s =>
  (mx_gi h l1 0 3).bind fun x9 =>
  if x9 ≤ s.2 then
  some (s.1, h)
  else
  if l0 < h.1 ∧ (mx_lay l0).1 = 11 then
  ((f_X8_openingBy l0 l1 s.2 h).bind fun x11 =>
  if x11 < h.1 ∧ (mx_lay x11).1 = 8 then
  ((f_X5_tableAt x11 (l3 - 1) s.2 h).bind fun x13 =>
  self ((s.1 + x13), (s.2 + 1)))
  else none)
  else none
def f_X8_countWays (a0 : Nat) (a1 : Nat) (a2 : Nat) (a3 : Int32) (a4 : Int32) (h : mx_Hp) : Option (Int32 × mx_Hp) :=
  if a0 < h.1 ∧ (mx_lay a0).1 = 11 then
  ((f_X8_prepare a0 a1 a2 h).bind fun x1 =>
  (mx_gr x1 a0 8 1).bind fun x3 =>
  if x3 < x1.1 ∧ (mx_lay x3).1 = 8 then
  ((f_X5_tableWays x3 a1 a3 a4 x1).bind fun x4 =>
  (mx_gr x4 a0 8 2).bind fun x6 =>
  if x6 < x4.1 ∧ (mx_lay x6).1 = 8 then
  ((f_X5_tableWays x6 a1 a3 a4 x4).bind fun x7 =>
  mx_fix (f_X8_countWays_L34 a0 a1 a3 x7) 2000 (0, 0))
  else none)
  else none)
  else none
def f_X8_winnerBehind_L15 (l1 : Nat) (l2 : Int32) (h : mx_Hp) (k62 : Int32 × Int32 × Int32 → Option (Int32)) : (Int32 × Int32 × Int32 → Option (Int32)) → Int32 × Int32 × Int32 → Option (Int32) := fun self s =>
  if 10 ≤ s.2.2 then
  k62 (s.1, s.2.1, s.2.2)
  else
  if l1 < h.1 ∧ (mx_lay l1).1 = 3 then
  ((f_X0_allWords l1 h).bind fun x5 =>
  if l1 < h.1 ∧ (mx_lay l1).1 = 3 then
  ((f_X0_allWords l1 h).bind fun x7 =>
  if l1 < h.1 ∧ (mx_lay l1).1 = 3 then
  ((f_X0_aheadOf l1 (x7 &&& (s.1 ^^^ (-1))) h).bind fun x9 =>
  if l1 < h.1 ∧ (mx_lay l1).1 = 3 then
  ((f_X0_aheadOf l1 ((x5 &&& (s.1 ^^^ (-1))) &&& (x9 ^^^ (-1))) h).bind fun x11 =>
  self ((s.1 ||| x11), ((x5 &&& (s.1 ^^^ (-1))) &&& (x9 ^^^ (-1))), (s.2.2 + 1)))
  else none)
  else none)
  else none)
  else none
def f_X8_winnerBehind (a0 : Nat) (a1 : Nat) (a2 : Int32) (h : mx_Hp) : Option (Int32) :=
  (mx_gi h a1 0 5).bind fun x1 =>
  if a1 < h.1 ∧ (mx_lay a1).1 = 3 then
  ((f_X0_aheadOf a1 x1 h).bind fun x2 =>
  mx_fix (f_X8_winnerBehind_L15 a1 a2 h (fun s22 => (f_X11_bit a2 h).bind fun x23 =>
  if (s22.1 &&& x23) = 0 then
  (f_X11_bit a2 h).bind fun x25 =>
  (if (s22.2.1 &&& x25) = 0 then
  some 0
  else
  some 2 : Option (Int32)).bind fun v27 =>
  some v27
  else
  some 1)) 2000 (x2, 0, 0))
  else none
def f_X9_startIn (a0 : Nat) (a1 : Nat) (h : mx_Hp) : Option (mx_Hp) :=
  (mx_gr h a0 9 0).bind fun x1 =>
  if x1 < h.1 ∧ (mx_lay x1).1 = 10 then
  ((f_X7_clear x1 h).bind fun x2 =>
  (mx_gr x2 a0 9 1).bind fun x4 =>
  (mx_gi x2 a1 0 7).bind fun x5 =>
  if x4 < x2.1 ∧ (mx_lay x4).1 = 7 then
  ((f_X4_startWith x4 x5 x2).bind fun x6 =>
  (mx_gr x6 a0 9 2).bind fun x8 =>
  (mx_gi x6 a1 0 8).bind fun x9 =>
  if x8 < x6.1 ∧ (mx_lay x8).1 = 7 then
  ((f_X4_startWith x8 x9 x6).bind fun x10 =>
  (mx_gi x10 a1 0 10).bind fun x12 =>
  (mx_pi x10 a0 9 3 x12).bind fun h13 =>
  (mx_pi h13 a0 9 4 0).bind fun h14 =>
  (mx_pi h14 a0 9 5 0).bind fun h15 =>
  some h15)
  else none)
  else none)
  else none
def f_X9_knowersOf (a0 : Nat) (a1 : Int32) (h : mx_Hp) : Option (Int32) :=
  (mx_gr h a0 9 1).bind fun x1 =>
  (mx_gi h x1 4 2).bind fun x2 =>
  (f_X11_bit a1 h).bind fun x3 =>
  (if (x2 &&& x3) = 0 then
  some 0
  else
  some 1 : Option (Int32)).bind fun v5 =>
  (mx_gr h a0 9 2).bind fun x6 =>
  (mx_gi h x6 4 2).bind fun x7 =>
  (f_X11_bit a1 h).bind fun x8 =>
  (if (x7 &&& x8) = 0 then
  some 0
  else
  some 2 : Option (Int32)).bind fun v10 =>
  some (v5 + v10)
def f_X9_decreesOfBoth (a0 : Nat) (h : mx_Hp) : Option (Int32) :=
  (mx_gr h a0 9 1).bind fun x1 =>
  (mx_gi h x1 4 0).bind fun x2 =>
  (mx_gr h a0 9 2).bind fun x3 =>
  (mx_gi h x3 4 0).bind fun x4 =>
  some (x2 + x4)
def f_X10_add (a0 : Nat) (a1 : Int32) (h : mx_Hp) : Option (Int32 × mx_Hp) :=
  (mx_gi h a0 10 2).bind fun x1 =>
  if x1 < 0 then
  some (0, h)
  else
  (mx_gi h a0 10 2).bind fun x3 =>
  (mx_gr h a0 10 0).bind fun x4 =>
  (mx_ln h x4).bind fun x5 =>
  if x3 < x5 then
  (mx_gr h a0 10 0).bind fun x7 =>
  (mx_gi h a0 10 2).bind fun x8 =>
  (mx_as h x7 x8 a1).bind fun h9 =>
  (mx_gi h9 a0 10 2).bind fun x10 =>
  (mx_pi h9 a0 10 2 (x10 + 1)).bind fun h11 =>
  some (1, h11)
  else
  some (0, h)
def f_X10_clear (a0 : Nat) (h : mx_Hp) : Option (mx_Hp) :=
  (mx_pi h a0 10 2 0).bind fun h1 =>
  some h1
def f_X10_letterAt (a0 : Nat) (a1 : Int32) (h : mx_Hp) : Option (Int32) :=
  (if a1 < 0 then
  some (-4)
  else
  (mx_gi h a0 10 2).bind fun x2 =>
  if x2 ≤ a1 then
  some (-4)
  else
  (mx_gr h a0 10 0).bind fun x4 =>
  (mx_ln h x4).bind fun x5 =>
  if x5 ≤ a1 then
  some (-4)
  else
  (mx_gr h a0 10 0).bind fun x7 =>
  (mx_al h x7 a1).bind fun x8 =>
  some x8 : Option (Int32)).bind fun v9 =>
  some v9
def f_X10_isFigure (a0 : Int32) (h : mx_Hp) : Option (Int32) :=
  (if a0 < 48 then
  some 0
  else
  if 57 < a0 then
  some 0
  else
  some 1 : Option (Int32)).bind fun v3 =>
  if v3 = 0 ∨ v3 = 1 then some v3 else none
def f_X10_figuresAt (a0 : Nat) (a1 : Int32) (h : mx_Hp) : Option (Int32) :=
  if a0 < h.1 ∧ (mx_lay a0).1 = 13 then
  ((f_X10_letterAt a0 a1 h).bind fun x1 =>
  (f_X10_isFigure x1 h).bind fun x3 =>
  if ¬ x3 = 0 then
  if a0 < h.1 ∧ (mx_lay a0).1 = 13 then
  ((f_X10_letterAt a0 (a1 + 1) h).bind fun x5 =>
  (f_X10_isFigure x5 h).bind fun x7 =>
  (if x7 = 0 then
  some 1
  else
  some 2 : Option (Int32)).bind fun v9 =>
  some v9)
  else none
  else
  some 0)
  else none
def f_X10_valueAt (a0 : Nat) (a1 : Int32) (a2 : Int32) (h : mx_Hp) : Option (Int32) :=
  if a0 < h.1 ∧ (mx_lay a0).1 = 13 then
  ((f_X10_letterAt a0 a1 h).bind fun x1 =>
  (if ¬ a2 = 2 then
  some (x1 - 48)
  else
  if a0 < h.1 ∧ (mx_lay a0).1 = 13 then
  ((f_X10_letterAt a0 (a1 + 1) h).bind fun x4 =>
  some ((((x1 - 48) * 10) + x4) - 48))
  else none : Option (Int32)).bind fun v6 =>
  some v6)
  else none
def f_X10_readItem_L11 (l0 : Nat)  : (Int32 × Int32 × mx_Hp → Option (Int32 × mx_Hp)) → Int32 × Int32 × mx_Hp → Option (Int32 × mx_Hp) := fun self s =>
  (mx_gr s.2.2 l0 10 1).bind fun x2 =>
  (mx_ln s.2.2 x2).bind fun x3 =>
  if x3 ≤ s.2.1 then
  some ((-1), s.2.2)
  else
  if l0 < s.2.2.1 ∧ (mx_lay l0).1 = 13 then
  ((f_X10_figuresAt l0 s.1 s.2.2).bind fun x5 =>
  if ¬ x5 = 0 then
  (mx_gr s.2.2 l0 10 1).bind fun x8 =>
  if l0 < s.2.2.1 ∧ (mx_lay l0).1 = 13 then
  ((f_X10_valueAt l0 s.1 x5 s.2.2).bind fun x9 =>
  (mx_as s.2.2 x8 s.2.1 x9).bind fun h11 =>
  (mx_pi h11 l0 10 3 (s.2.1 + 1)).bind fun h12 =>
  if l0 < h12.1 ∧ (mx_lay l0).1 = 13 then
  ((f_X10_letterAt l0 (s.1 + x5) h12).bind fun x13 =>
  if ¬ x13 = 59 then
  if l0 < h12.1 ∧ (mx_lay l0).1 = 13 then
  ((f_X10_letterAt l0 (s.1 + x5) h12).bind fun x16 =>
  if x16 = 44 then
  self (((s.1 + x5) + 1), (s.2.1 + 1), h12)
  else
  some ((-1), h12))
  else none
  else
  some (((s.1 + x5) + 1), h12))
  else none)
  else none
  else
  some ((-1), s.2.2))
  else none
def f_X10_readItem (a0 : Nat) (a1 : Int32) (h : mx_Hp) : Option (Int32 × mx_Hp) :=
  (mx_pi h a0 10 3 0).bind fun h1 =>
  mx_fix (f_X10_readItem_L11 a0) 2000 ((a1 + 1), 0, h1)
def f_X10_takeItem (a0 : Nat) (a1 : Nat) (a2 : Int32) (h : mx_Hp) : Option (Int32 × mx_Hp) :=
  (mx_gi h a0 10 3).bind fun x1 =>
  if ¬ x1 = 2 then
  (mx_gr h a0 10 1).bind fun x3 =>
  (mx_al h x3 0).bind fun x4 =>
  if a1 < h.1 ∧ (mx_lay a1).1 = 3 then
  ((f_X0_takeSingle a1 a2 x4 h).bind fun x5 =>
  if x5.1 = 0 ∨ x5.1 = 1 then some (x5.1, x5.2) else none)
  else none
  else
  (mx_gr h a0 10 1).bind fun x8 =>
  (mx_al h x8 0).bind fun x9 =>
  (mx_gr h a0 10 1).bind fun x10 =>
  (mx_al h x10 1).bind fun x11 =>
  if a1 < h.1 ∧ (mx_lay a1).1 = 3 then
  ((f_X0_takePair a1 a2 x9 x11 h).bind fun x12 =>
  if x12.1 = 0 ∨ x12.1 = 1 then some (x12.1, x12.2) else none)
  else none
def f_X10_readInto_L8 (l0 : Nat) (l1 : Nat)  : (Int32 × Int32 × mx_Hp → Option (Int32 × mx_Hp)) → Int32 × Int32 × mx_Hp → Option (Int32 × mx_Hp) := fun self s =>
  if 66 < s.2.1 then
  some ((-4), s.2.2)
  else
  (mx_gi s.2.2 l0 10 2).bind fun x4 =>
  if x4 ≤ s.1 then
  some ((-4), s.2.2)
  else
  if l0 < s.2.2.1 ∧ (mx_lay l0).1 = 13 then
  ((f_X10_readItem l0 s.1 s.2.2).bind fun x6 =>
  if x6.1 = (-1) then
  some (s.1, x6.2)
  else
  if l0 < x6.2.1 ∧ (mx_lay l0).1 = 13 then
  ((f_X10_letterAt l0 s.1 x6.2).bind fun x9 =>
  if l0 < x6.2.1 ∧ (mx_lay l0).1 = 13 then
  ((f_X10_takeItem l0 l1 x9 x6.2).bind fun x11 =>
  if ¬ x11.1 = 0 then
  self (x6.1, (s.2.1 + 1), x11.2)
  else
  some (s.1, x11.2))
  else none)
  else none)
  else none
def f_X10_readInto (a0 : Nat) (a1 : Nat) (h : mx_Hp) : Option (Int32 × mx_Hp) :=
  if a1 < h.1 ∧ (mx_lay a1).1 = 3 then
  ((f_X0_clear a1 h).bind fun x1 =>
  mx_fix (f_X10_readInto_L8 a0 a1) 2000 (0, 0, x1))
  else none
def f_X11_layText (a0 : Nat) (h : mx_Hp) : Option (Int32 × mx_Hp) :=
  (mx_gr h a0 11 0).bind fun x1 =>
  (mx_gr h a0 11 2).bind fun x2 =>
  if x1 < h.1 ∧ (mx_lay x1).1 = 13 then
  ((f_X10_readInto x1 x2 h).bind fun x3 =>
  if ¬ x3.1 = (-4) then
  some ((-2), x3.2)
  else
  (mx_gr x3.2 a0 11 2).bind fun x6 =>
  (mx_gi x3.2 x6 0 3).bind fun x7 =>
  if ¬ x7 = 0 then
  (mx_gr x3.2 a0 11 1).bind fun x9 =>
  (mx_gr x3.2 a0 11 2).bind fun x10 =>
  (mx_pr x3.2 a0 11 1 x10).bind fun h11 =>
  (mx_pr h11 a0 11 2 x9).bind fun h12 =>
  (mx_gr h12 a0 11 3).bind fun x13 =>
  (mx_gr h12 a0 11 1).bind fun x14 =>
  if x13 < h12.1 ∧ (mx_lay x13).1 = 12 then
  ((f_X9_startIn x13 x14 h12).bind fun x15 =>
  (mx_gr x15 a0 11 4).bind fun x17 =>
  if x17 < x15.1 ∧ (mx_lay x17).1 = 9 then
  ((f_X6_clear x17 x15).bind fun x18 =>
  (mx_gr x18 a0 11 5).bind fun x20 =>
  if x20 < x18.1 ∧ (mx_lay x20).1 = 9 then
  ((f_X6_clear x20 x18).bind fun x21 =>
  (mx_gr x21 a0 11 8).bind fun x23 =>
  if x23 < x21.1 ∧ (mx_lay x23).1 = 6 then
  ((f_X3_startAnew x23 x21).bind fun x24 =>
  (mx_gr x24 a0 11 1).bind fun x26 =>
  (mx_gi x24 x26 0 3).bind fun x27 =>
  some (x27, x24))
  else none)
  else none)
  else none)
  else none
  else
  some ((-2), x3.2))
  else none
def f_X11_write (a0 : Nat) (a1 : Int32) (h : mx_Hp) : Option (Int32 × mx_Hp) :=
  if a1 < 32 then
  some ((-1), h)
  else
  if a1 ≤ 126 then
  (mx_gr h a0 11 0).bind fun x3 =>
  if x3 < h.1 ∧ (mx_lay x3).1 = 13 then
  ((f_X10_add x3 a1 h).bind fun x4 =>
  (if x4.1 = 0 then
  some (-3)
  else
  (mx_gr x4.2 a0 11 0).bind fun x7 =>
  (mx_gi x4.2 x7 10 2).bind fun x8 =>
  some x8 : Option (Int32)).bind fun v9 =>
  some (v9, x4.2))
  else none
  else
  some ((-1), h)
def f_X11_wipe (a0 : Nat) (h : mx_Hp) : Option (Int32 × mx_Hp) :=
  (mx_gr h a0 11 0).bind fun x1 =>
  (mx_gi h x1 10 2).bind fun x2 =>
  (mx_gr h a0 11 0).bind fun x3 =>
  if x3 < h.1 ∧ (mx_lay x3).1 = 13 then
  ((f_X10_clear x3 h).bind fun x4 =>
  some (x2, x4))
  else none
def f_X11_fault (a0 : Nat) (h : mx_Hp) : Option (Int32 × mx_Hp) :=
  (mx_gr h a0 11 0).bind fun x1 =>
  (mx_gr h a0 11 2).bind fun x2 =>
  if x1 < h.1 ∧ (mx_lay x1).1 = 13 then
  ((f_X10_readInto x1 x2 h).bind fun x3 =>
  some (x3.1, x3.2))
  else none
def f_X11_lay (a0 : Nat) (h : mx_Hp) : Option (Int32 × mx_Hp) :=
  if a0 < h.1 ∧ (mx_lay a0).1 = 14 then
  ((f_X11_layText a0 h).bind fun x1 =>
  some (x1.1, x1.2))
  else none
def f_X11_word (a0 : Nat) (a1 : Int32) (a2 : Int32) (h : mx_Hp) : Option (Int32) :=
  (mx_gr h a0 11 1).bind fun x1 =>
  if x1 < h.1 ∧ (mx_lay x1).1 = 3 then
  ((f_X0_has x1 a1 h).bind fun x2 =>
  if ¬ x2 = 0 then
  if a2 = 0 then
  (mx_gr h a0 11 1).bind fun x6 =>
  if x6 < h.1 ∧ (mx_lay x6).1 = 3 then
  ((f_X0_kindOf x6 a1 h).bind fun x7 =>
  some x7)
  else none
  else
  if a2 = 1 then
  (mx_gr h a0 11 1).bind fun x10 =>
  if x10 < h.1 ∧ (mx_lay x10).1 = 3 then
  ((f_X0_worthOf x10 a1 h).bind fun x11 =>
  some x11)
  else none
  else
  if a2 = 2 then
  (mx_gr h a0 11 1).bind fun x14 =>
  if x14 < h.1 ∧ (mx_lay x14).1 = 3 then
  ((f_X0_behindOf x14 a1 h).bind fun x15 =>
  some x15)
  else none
  else
  if a2 = 3 then
  (mx_gr h a0 11 3).bind fun x18 =>
  if x18 < h.1 ∧ (mx_lay x18).1 = 12 then
  ((f_X9_knowersOf x18 a1 h).bind fun x19 =>
  some x19)
  else none
  else
  some (-1)
  else
  some (-1))
  else none
def f_X11_mayor (a0 : Nat) (a1 : Int32) (a2 : Int32) (h : mx_Hp) : Option (Int32) :=
  (f_X11_isMayor a1 h).bind fun x1 =>
  if ¬ x1 = 0 then
  (mx_gr h a0 11 3).bind fun x3 =>
  if x3 < h.1 ∧ (mx_lay x3).1 = 12 then
  ((f_X9_mayorOf x3 a1 h).bind fun x4 =>
  if a2 = 0 then
  (mx_gr h a0 11 3).bind fun x7 =>
  (mx_gi h x7 9 3).bind fun x8 =>
  (if ¬ x8 = a1 then
  some 0
  else
  some 1 : Option (Int32)).bind fun v10 =>
  some v10
  else
  if a2 = 1 then
  (mx_gi h x4 4 0).bind fun x12 =>
  some x12
  else
  if a2 = 2 then
  (mx_gi h x4 4 1).bind fun x14 =>
  some x14
  else
  if a2 = 3 then
  (mx_gi h x4 4 2).bind fun x16 =>
  some x16
  else
  some (-1))
  else none
  else
  some (-1)
def f_X11_said (a0 : Nat) (a1 : Int32) (h : mx_Hp) : Option (Int32) :=
  (if 0 ≤ a1 then
  (mx_gr h a0 11 3).bind fun x2 =>
  (mx_gr h x2 9 0).bind fun x3 =>
  if x3 < h.1 ∧ (mx_lay x3).1 = 10 then
  ((f_X7_at x3 a1 h).bind fun x4 =>
  some x4)
  else none
  else
  some (-1) : Option (Int32)).bind fun v6 =>
  some v6
def f_X11_say (a0 : Nat) (a1 : Int32) (h : mx_Hp) : Option (Int32 × mx_Hp) :=
  (mx_gr h a0 11 1).bind fun x1 =>
  if x1 < h.1 ∧ (mx_lay x1).1 = 3 then
  ((f_X0_has x1 a1 h).bind fun x2 =>
  if ¬ x2 = 0 then
  (mx_gr h a0 11 3).bind fun x5 =>
  (mx_gr h a0 11 1).bind fun x6 =>
  if x5 < h.1 ∧ (mx_lay x5).1 = 12 then
  ((f_X9_fits x5 x6 a1 h).bind fun x7 =>
  if ¬ x7 = 0 then
  (mx_gr h a0 11 3).bind fun x10 =>
  (mx_gr h x10 9 0).bind fun x11 =>
  (mx_gi h x11 7 1).bind fun x12 =>
  if x12 < 12 then
  (mx_gr h a0 11 4).bind fun x14 =>
  (mx_gr h a0 11 3).bind fun x15 =>
  if x14 < h.1 ∧ (mx_lay x14).1 = 9 then
  ((f_X6_put x14 x15 h).bind fun x16 =>
  (mx_gr x16 a0 11 3).bind fun x18 =>
  if x18 < x16.1 ∧ (mx_lay x18).1 = 12 then
  ((f_X9_speak x18 a1 x16).bind fun x19 =>
  (mx_gr x19 a0 11 3).bind fun x21 =>
  (mx_gr x19 x21 9 0).bind fun x22 =>
  (mx_gi x19 x22 7 1).bind fun x23 =>
  some (x23, x19))
  else none)
  else none
  else
  some ((-3), h)
  else
  some ((-2), h))
  else none
  else
  some ((-1), h))
  else none
def f_X11_end (a0 : Nat) (h : mx_Hp) : Option (Int32 × mx_Hp) :=
  (mx_gr h a0 11 3).bind fun x1 =>
  (mx_gr h a0 11 1).bind fun x2 =>
  if x1 < h.1 ∧ (mx_lay x1).1 = 12 then
  ((f_X9_isEndable x1 x2 h).bind fun x3 =>
  if ¬ x3 = 0 then
  (mx_gr h a0 11 4).bind fun x6 =>
  (mx_gr h a0 11 3).bind fun x7 =>
  if x6 < h.1 ∧ (mx_lay x6).1 = 9 then
  ((f_X6_put x6 x7 h).bind fun x8 =>
  (mx_gr x8 a0 11 3).bind fun x10 =>
  (mx_gr x8 a0 11 1).bind fun x11 =>
  if x10 < x8.1 ∧ (mx_lay x10).1 = 12 then
  ((f_X9_decree x10 x11 x8).bind fun x12 =>
  some (x12.1, x12.2))
  else none)
  else none
  else
  some ((-2), h))
  else none
def f_X11_findFinishing (a0 : Nat) (h : mx_Hp) : Option (mx_Hp) :=
  (mx_gr h a0 11 6).bind fun x1 =>
  (mx_gr h a0 11 1).bind fun x2 =>
  (mx_gr h a0 11 3).bind fun x3 =>
  if x3 < h.1 ∧ (mx_lay x3).1 = 12 then
  ((f_X9_lastWord x3 h).bind fun x4 =>
  (mx_gr h a0 11 3).bind fun x6 =>
  (mx_gr h a0 11 1).bind fun x7 =>
  if x6 < h.1 ∧ (mx_lay x6).1 = 12 then
  ((f_X9_sayableByOther x6 x7 h).bind fun x8 =>
  if x1 < h.1 ∧ (mx_lay x1).1 = 5 then
  ((f_X2_find x1 x2 x4 x8 h).bind fun x10 =>
  some x10)
  else none)
  else none)
  else none
def f_X11_finish (a0 : Nat) (h : mx_Hp) : Option (Int32 × mx_Hp) :=
  if a0 < h.1 ∧ (mx_lay a0).1 = 14 then
  ((f_X11_findFinishing a0 h).bind fun x1 =>
  (mx_gr x1 a0 11 6).bind fun x3 =>
  (mx_gr x1 x3 2 0).bind fun x4 =>
  (mx_gi x1 x4 7 1).bind fun x5 =>
  if ¬ x5 = 0 then
  (mx_gr x1 a0 11 4).bind fun x7 =>
  (mx_gr x1 a0 11 3).bind fun x8 =>
  if x7 < x1.1 ∧ (mx_lay x7).1 = 9 then
  ((f_X6_put x7 x8 x1).bind fun x9 =>
  (mx_gr x9 a0 11 3).bind fun x11 =>
  (mx_gr x9 a0 11 1).bind fun x12 =>
  (mx_gr x9 a0 11 6).bind fun x13 =>
  (mx_gr x9 x13 2 0).bind fun x14 =>
  if x11 < x9.1 ∧ (mx_lay x11).1 = 12 then
  ((f_X9_passOver x11 x12 x14 x9).bind fun x15 =>
  some (x15.1, x15.2))
  else none)
  else none
  else
  some ((-2), x1))
  else none
def f_X11_drop (a0 : Nat) (h : mx_Hp) : Option (Int32 × mx_Hp) :=
  (mx_gr h a0 11 3).bind fun x1 =>
  (mx_gr h x1 9 0).bind fun x2 =>
  (mx_gi h x2 7 1).bind fun x3 =>
  if ¬ x3 = 0 then
  (mx_gr h a0 11 4).bind fun x5 =>
  (mx_gr h a0 11 3).bind fun x6 =>
  if x5 < h.1 ∧ (mx_lay x5).1 = 9 then
  ((f_X6_put x5 x6 h).bind fun x7 =>
  (mx_gr x7 a0 11 3).bind fun x9 =>
  if x9 < x7.1 ∧ (mx_lay x9).1 = 12 then
  ((f_X9_letFall x9 x7).bind fun x10 =>
  some (x3, x10))
  else none)
  else none
  else
  some ((-2), h)
def f_X11_learn (a0 : Nat) (a1 : Int32) (a2 : Int32) (h : mx_Hp) : Option (Int32 × mx_Hp) :=
  (f_X11_isMayor a1 h).bind fun x1 =>
  if x1 = 0 then
  some ((-1), h)
  else
  (mx_gr h a0 11 1).bind fun x3 =>
  if x3 < h.1 ∧ (mx_lay x3).1 = 3 then
  ((f_X0_has x3 a2 h).bind fun x4 =>
  if ¬ x4 = 0 then
  (mx_gr h a0 11 4).bind fun x7 =>
  (mx_gr h a0 11 3).bind fun x8 =>
  if x7 < h.1 ∧ (mx_lay x7).1 = 9 then
  ((f_X6_put x7 x8 h).bind fun x9 =>
  (mx_gr x9 a0 11 3).bind fun x11 =>
  if x11 < x9.1 ∧ (mx_lay x11).1 = 12 then
  ((f_X9_mayorOf x11 a1 x9).bind fun x12 =>
  (mx_gi x9 x12 4 2).bind fun x14 =>
  (f_X11_bit a2 x9).bind fun x15 =>
  (mx_pi x9 x12 4 2 (x14 ^^^ x15)).bind fun h16 =>
  (mx_gi h16 x12 4 2).bind fun x17 =>
  (f_X11_bit a2 h16).bind fun x18 =>
  (if (x17 &&& x18) = 0 then
  some 0
  else
  some 1 : Option (Int32)).bind fun v20 =>
  some (v20, h16))
  else none)
  else none
  else
  some ((-1), h))
  else none
def f_X11_undo (a0 : Nat) (h : mx_Hp) : Option (Int32 × mx_Hp) :=
  (mx_gr h a0 11 4).bind fun x1 =>
  (mx_gr h a0 11 3).bind fun x2 =>
  if x1 < h.1 ∧ (mx_lay x1).1 = 9 then
  ((f_X6_takeInto x1 x2 h).bind fun x3 =>
  (if x3.1 = 0 then
  some (-2)
  else
  (mx_gr x3.2 a0 11 4).bind fun x6 =>
  (mx_gi x3.2 x6 6 1).bind fun x7 =>
  some x7 : Option (Int32)).bind fun v8 =>
  some (v8, x3.2))
  else none
def f_X11_told (a0 : Nat) (a1 : Int32) (h : mx_Hp) : Option (Int32) :=
  (mx_gi h a0 7 1).bind fun x1 =>
  if ¬ x1 = 0 then
  (if ¬ a1 = (-1) then
  if a0 < h.1 ∧ (mx_lay a0).1 = 10 then
  ((f_X7_at a0 a1 h).bind fun x4 =>
  some x4)
  else none
  else
  (mx_gi h a0 7 1).bind fun x6 =>
  some x6 : Option (Int32)).bind fun v7 =>
  some v7
  else
  some (-4)
def f_X11_finishing (a0 : Nat) (a1 : Int32) (h : mx_Hp) : Option (Int32 × mx_Hp) :=
  if a1 < (-1) then
  some ((-1), h)
  else
  if a1 < 4 then
  if a0 < h.1 ∧ (mx_lay a0).1 = 14 then
  ((f_X11_findFinishing a0 h).bind fun x3 =>
  (mx_gr x3 a0 11 6).bind fun x5 =>
  (mx_gr x3 x5 2 0).bind fun x6 =>
  (f_X11_told x6 a1 x3).bind fun x7 =>
  some (x7, x3))
  else none
  else
  some ((-1), h)
def f_X11_safe (a0 : Nat) (a1 : Int32) (a2 : Int32) (h : mx_Hp) : Option (Int32 × mx_Hp) :=
  (mx_gr h a0 11 1).bind fun x1 =>
  if x1 < h.1 ∧ (mx_lay x1).1 = 3 then
  ((f_X0_has x1 a1 h).bind fun x2 =>
  if x2 = 0 then
  some ((-1), h)
  else
  if a2 < (-1) then
  some ((-1), h)
  else
  if a2 < 10 then
  (mx_gr h a0 11 7).bind fun x7 =>
  (mx_gr h a0 11 1).bind fun x8 =>
  (mx_gr h a0 11 3).bind fun x9 =>
  if x7 < h.1 ∧ (mx_lay x7).1 = 11 then
  ((f_X8_findSafe x7 x8 x9 a1 h).bind fun x10 =>
  (mx_gr x10 a0 11 7).bind fun x12 =>
  (mx_gr x10 x12 8 0).bind fun x13 =>
  (f_X11_told x13 a2 x10).bind fun x14 =>
  some (x14, x10))
  else none
  else
  some ((-1), h))
  else none
def f_X11_best (a0 : Nat) (a1 : Int32) (a2 : Int32) (h : mx_Hp) : Option (Int32 × mx_Hp) :=
  if a1 < 1 then
  some ((-1), h)
  else
  if 10 < a1 then
  some ((-1), h)
  else
  if a2 < (-2) then
  some ((-1), h)
  else
  if a2 < 10 then
  (mx_gr h a0 11 7).bind fun x5 =>
  (mx_gr h a0 11 1).bind fun x6 =>
  (mx_gr h a0 11 3).bind fun x7 =>
  if x5 < h.1 ∧ (mx_lay x5).1 = 11 then
  ((f_X8_findBest x5 x6 x7 a1 h).bind fun x8 =>
  (mx_gr x8.2 a0 11 7).bind fun x10 =>
  (mx_gr x8.2 x10 8 0).bind fun x11 =>
  (mx_gi x8.2 x11 7 1).bind fun x12 =>
  if ¬ x12 = 0 then
  if ¬ a2 = (-2) then
  (if ¬ a2 = (-1) then
  (mx_gr x8.2 a0 11 7).bind fun x16 =>
  (mx_gr x8.2 x16 8 0).bind fun x17 =>
  if x17 < x8.2.1 ∧ (mx_lay x17).1 = 10 then
  ((f_X7_at x17 a2 x8.2).bind fun x18 =>
  some x18)
  else none
  else
  some x8.1 : Option (Int32)).bind fun v20 =>
  some (v20, x8.2)
  else
  (mx_gr x8.2 a0 11 7).bind fun x21 =>
  (mx_gr x8.2 x21 8 0).bind fun x22 =>
  (mx_gi x8.2 x22 7 1).bind fun x23 =>
  some (x23, x8.2)
  else
  some ((-4), x8.2))
  else none
  else
  some ((-1), h)
def f_X11_lure (a0 : Nat) (a1 : Int32) (a2 : Int32) (h : mx_Hp) : Option (Int32 × mx_Hp) :=
  (mx_gr h a0 11 1).bind fun x1 =>
  if x1 < h.1 ∧ (mx_lay x1).1 = 3 then
  ((f_X0_has x1 a1 h).bind fun x2 =>
  if x2 = 0 then
  some ((-1), h)
  else
  if a2 < (-1) then
  some ((-1), h)
  else
  if a2 < 10 then
  (mx_gr h a0 11 7).bind fun x7 =>
  (mx_gr h a0 11 1).bind fun x8 =>
  (mx_gr h a0 11 3).bind fun x9 =>
  if x7 < h.1 ∧ (mx_lay x7).1 = 11 then
  ((f_X8_findLure x7 x8 x9 a1 h).bind fun x10 =>
  (mx_gr x10 a0 11 7).bind fun x12 =>
  (mx_gr x10 x12 8 0).bind fun x13 =>
  (f_X11_told x13 a2 x10).bind fun x14 =>
  some (x14, x10))
  else none
  else
  some ((-1), h))
  else none
def f_X11_sitting (a0 : Nat) (a1 : Int32) (h : mx_Hp) : Option (Int32) :=
  (mx_gr h a0 11 1).bind fun x1 =>
  if x1 < h.1 ∧ (mx_lay x1).1 = 3 then
  ((f_X0_has x1 a1 h).bind fun x2 =>
  (if x2 = 0 then
  some (-1)
  else
  (mx_gr h a0 11 7).bind fun x5 =>
  (mx_gr h a0 11 1).bind fun x6 =>
  if x5 < h.1 ∧ (mx_lay x5).1 = 11 then
  ((f_X8_winnerBehind x5 x6 a1 h).bind fun x7 =>
  some x7)
  else none : Option (Int32)).bind fun v9 =>
  some v9)
  else none
def f_X11_ways (a0 : Nat) (a1 : Int32) (a2 : Int32) (h : mx_Hp) : Option (Int32 × mx_Hp) :=
  if a1 < 1 then
  some ((-1), h)
  else
  if 8 < a1 then
  some ((-1), h)
  else
  if a2 < 0 then
  some ((-1), h)
  else
  if a2 ≤ 1 then
  (mx_gr h a0 11 7).bind fun x5 =>
  (mx_gr h a0 11 1).bind fun x6 =>
  (mx_gr h a0 11 3).bind fun x7 =>
  (if ¬ a2 = 1 then
  some 0
  else
  some 1 : Option (Int32)).bind fun v9 =>
  if x5 < h.1 ∧ (mx_lay x5).1 = 11 then
  ((f_X8_countWays x5 x6 x7 a1 v9 h).bind fun x10 =>
  some (x10.1, x10.2))
  else none
  else
  some ((-1), h)
def f_X11_seen (a0 : Nat) (a1 : Int32) (a2 : Int32) (h : mx_Hp) : Option (Int32 × mx_Hp) :=
  (mx_gr h a0 11 1).bind fun x1 =>
  if x1 < h.1 ∧ (mx_lay x1).1 = 3 then
  ((f_X0_has x1 a1 h).bind fun x2 =>
  if x2 = 0 then
  some ((-1), h)
  else
  if a2 < 0 then
  some ((-1), h)
  else
  if a2 ≤ 1 then
  (mx_gr h a0 11 8).bind fun x7 =>
  (if ¬ a2 = 1 then
  some 0
  else
  some 1 : Option (Int32)).bind fun v9 =>
  if x7 < h.1 ∧ (mx_lay x7).1 = 6 then
  ((f_X3_note x7 a1 v9 h).bind fun x10 =>
  (if x10.1 = 0 then
  some (-3)
  else
  (mx_gr x10.2 a0 11 8).bind fun x13 =>
  (mx_gi x10.2 x13 3 2).bind fun x14 =>
  some x14 : Option (Int32)).bind fun v15 =>
  some (v15, x10.2))
  else none
  else
  some ((-1), h))
  else none
def f_X11_forget (a0 : Nat) (h : mx_Hp) : Option (Int32 × mx_Hp) :=
  (mx_gr h a0 11 8).bind fun x1 =>
  (mx_gi h x1 3 2).bind fun x2 =>
  (mx_gr h a0 11 8).bind fun x3 =>
  if x3 < h.1 ∧ (mx_lay x3).1 = 6 then
  ((f_X3_clear x3 h).bind fun x4 =>
  some (x2, x4))
  else none
def f_X11_guessed (a0 : Nat) (a1 : Int32) (h : mx_Hp) : Option (Int32 × mx_Hp) :=
  if a1 < 0 then
  some ((-1), h)
  else
  if a1 ≤ 2 then
  (mx_gr h a0 11 8).bind fun x3 =>
  (mx_gr h a0 11 1).bind fun x4 =>
  (mx_gr h a0 11 6).bind fun x5 =>
  if x3 < h.1 ∧ (mx_lay x3).1 = 6 then
  ((f_X3_weigh x3 x4 x5 h).bind fun x6 =>
  if ¬ a1 = 0 then
  (mx_gr x6 a0 11 8).bind fun x9 =>
  (mx_gi x6 x9 3 5).bind fun x10 =>
  if ¬ x10 = 0 then
  (if ¬ a1 = 1 then
  (mx_gr x6 a0 11 8).bind fun x13 =>
  (mx_gi x6 x13 3 7).bind fun x14 =>
  some x14
  else
  (mx_gr x6 a0 11 8).bind fun x15 =>
  (mx_gi x6 x15 3 6).bind fun x16 =>
  some x16 : Option (Int32)).bind fun v17 =>
  some (v17, x6)
  else
  some ((-4), x6)
  else
  (mx_gr x6 a0 11 8).bind fun x18 =>
  (mx_gi x6 x18 3 5).bind fun x19 =>
  some (x19, x6))
  else none
  else
  some ((-1), h)
def f_X11_council (a0 : Nat) (a1 : Int32) (a2 : Int32) (a3 : Int32) (h : mx_Hp) : Option (Int32 × mx_Hp) :=
  if a1 < 0 then
  some ((-1), h)
  else
  if 9999 < a1 then
  some ((-1), h)
  else
  if a2 < 1 then
  some ((-1), h)
  else
  if 60 < a2 then
  some ((-1), h)
  else
  if a3 < 0 then
  some ((-1), h)
  else
  if a3 ≤ 2 then
  (mx_gr h a0 11 9).bind fun x7 =>
  (mx_gr h a0 11 1).bind fun x8 =>
  (mx_gr h a0 11 3).bind fun x9 =>
  if x7 < h.1 ∧ (mx_lay x7).1 = 4 then
  ((f_X1_outcome x7 x8 x9 a1 a2 h).bind fun x10 =>
  if a3 = 0 then
  (mx_gi x10.2 x10.1 9 3).bind fun x13 =>
  some (x13, x10.2)
  else
  if a3 = 1 then
  if x10.1 < x10.2.1 ∧ (mx_lay x10.1).1 = 12 then
  ((f_X9_decreesOfBoth x10.1 x10.2).bind fun x15 =>
  some (x15, x10.2))
  else none
  else
  (mx_gr x10.2 x10.1 9 1).bind fun x17 =>
  (mx_gi x10.2 x17 4 1).bind fun x18 =>
  (mx_gr x10.2 x10.1 9 2).bind fun x19 =>
  (mx_gi x10.2 x19 4 1).bind fun x20 =>
  some (((x18 - x20) + 500), x10.2))
  else none
  else
  some ((-1), h)
def f_X11_keep (a0 : Nat) (h : mx_Hp) : Option (Int32 × mx_Hp) :=
  (mx_gr h a0 11 5).bind fun x1 =>
  (mx_gi h x1 6 1).bind fun x2 =>
  if x2 < 2 then
  (mx_gr h a0 11 5).bind fun x4 =>
  (mx_gr h a0 11 3).bind fun x5 =>
  if x4 < h.1 ∧ (mx_lay x4).1 = 9 then
  ((f_X6_put x4 x5 h).bind fun x6 =>
  (mx_gr x6 a0 11 5).bind fun x8 =>
  (mx_gi x6 x8 6 1).bind fun x9 =>
  some (x9, x6))
  else none
  else
  some ((-3), h)
def f_X11_back (a0 : Nat) (h : mx_Hp) : Option (Int32 × mx_Hp) :=
  (mx_gr h a0 11 5).bind fun x1 =>
  (mx_gr h a0 11 3).bind fun x2 =>
  if x1 < h.1 ∧ (mx_lay x1).1 = 9 then
  ((f_X6_takeInto x1 x2 h).bind fun x3 =>
  if ¬ x3.1 = 0 then
  (mx_gr x3.2 a0 11 4).bind fun x6 =>
  if x6 < x3.2.1 ∧ (mx_lay x6).1 = 9 then
  ((f_X6_clear x6 x3.2).bind fun x7 =>
  (mx_gr x7 a0 11 5).bind fun x9 =>
  (mx_gi x7 x9 6 1).bind fun x10 =>
  some (x10, x7))
  else none
  else
  some ((-2), x3.2))
  else none
def f_X11_count (a0 : Nat) (a1 : Int32) (h : mx_Hp) : Option (Int32) :=
  if a1 = 0 then
  (mx_gr h a0 11 1).bind fun x2 =>
  (mx_gi h x2 0 3).bind fun x3 =>
  some x3
  else
  if a1 = 1 then
  (mx_gr h a0 11 3).bind fun x5 =>
  (mx_gi h x5 9 4).bind fun x6 =>
  some x6
  else
  if a1 = 2 then
  (mx_gr h a0 11 3).bind fun x8 =>
  (mx_gr h x8 9 0).bind fun x9 =>
  (mx_gi h x9 7 1).bind fun x10 =>
  some x10
  else
  if a1 = 3 then
  (mx_gr h a0 11 3).bind fun x12 =>
  if x12 < h.1 ∧ (mx_lay x12).1 = 12 then
  ((f_X9_decreesOfBoth x12 h).bind fun x13 =>
  some x13)
  else none
  else
  if a1 = 4 then
  (mx_gr h a0 11 3).bind fun x16 =>
  (mx_gi h x16 9 5).bind fun x17 =>
  some x17
  else
  if a1 = 5 then
  (mx_gr h a0 11 1).bind fun x19 =>
  (mx_gi h x19 0 9).bind fun x20 =>
  some x20
  else
  if a1 = 6 then
  (mx_gr h a0 11 8).bind fun x22 =>
  (mx_gi h x22 3 2).bind fun x23 =>
  some x23
  else
  if a1 = 7 then
  (mx_gr h a0 11 4).bind fun x25 =>
  (mx_gi h x25 6 1).bind fun x26 =>
  some x26
  else
  if a1 = 8 then
  (mx_gr h a0 11 5).bind fun x28 =>
  (mx_gi h x28 6 1).bind fun x29 =>
  some x29
  else
  if a1 = 9 then
  (mx_gr h a0 11 0).bind fun x31 =>
  (mx_gi h x31 10 2).bind fun x32 =>
  some x32
  else
  some (-1)
def f_X12_begins_L2 (l0 : Nat)  : (Int32 × mx_Hp → Option (mx_Hp)) → Int32 × mx_Hp → Option (mx_Hp) := fun self s =>
  if 35 ≤ s.1 then
  (mx_gr s.2 l0 12 3).bind fun x2 =>
  (mx_as s.2 x2 1 2).bind fun h3 =>
  some h3
  else
  (mx_gr s.2 l0 12 3).bind fun x4 =>
  (mx_as s.2 x4 s.1 0).bind fun h5 =>
  self ((s.1 + 1), h5)
def f_X12_begins (a0 : Nat) (h : mx_Hp) : Option (mx_Hp) :=
  mx_fix (f_X12_begins_L2 a0) 2000 (0, h)
def f_X12_wordOf (a0 : Nat) (a1 : Int32) (a2 : Int32) (h : mx_Hp) : Option (mx_Hp) :=
  (mx_gr h a0 12 3).bind fun x1 =>
  (mx_gr h a0 12 3).bind fun x2 =>
  (mx_al h x2 0).bind fun x3 =>
  (mx_as h x1 (3 + x3) a1).bind fun h4 =>
  (mx_gr h4 a0 12 3).bind fun x5 =>
  (mx_gr h4 a0 12 3).bind fun x6 =>
  (mx_al h4 x6 0).bind fun x7 =>
  (mx_as h4 x5 (13 + x7) a2).bind fun h8 =>
  (mx_gr h8 a0 12 3).bind fun x9 =>
  (mx_al h8 x9 0).bind fun x10 =>
  (mx_as h8 x9 0 (x10 + 1)).bind fun h11 =>
  some h11
def f_X12_lays_L2 (l0 : Nat) (k26 : Int32 × mx_Hp → Option (mx_Hp)) : (Int32 × mx_Hp → Option (mx_Hp)) → Int32 × mx_Hp → Option (mx_Hp) := fun self s =>
  if 35 ≤ s.1 then
  k26 (s.1, s.2)
  else
  (mx_gr s.2 l0 12 2).bind fun x2 =>
  (mx_gr s.2 l0 12 3).bind fun x3 =>
  (mx_al s.2 x3 s.1).bind fun x4 =>
  (mx_as s.2 x2 s.1 x4).bind fun h5 =>
  self ((s.1 + 1), h5)
def f_X12_lays_L28 (l0 : Nat) (k47 : Int32 × mx_Hp → Option (mx_Hp)) : (Int32 × mx_Hp → Option (mx_Hp)) → Int32 × mx_Hp → Option (mx_Hp) := fun self s =>
  if 22 ≤ s.1 then
  k47 (s.1, s.2)
  else
  (mx_gr s.2 l0 12 4).bind fun x13 =>
  (mx_as s.2 x13 s.1 0).bind fun h14 =>
  self ((s.1 + 1), h14)
def f_X12_lays (a0 : Nat) (h : mx_Hp) : Option (mx_Hp) :=
  mx_fix (f_X12_lays_L2 a0 (fun s11 => mx_fix (f_X12_lays_L28 a0 (fun s18 => (mx_gr s18.2 a0 12 4).bind fun x19 =>
  (mx_gr s18.2 a0 12 2).bind fun x20 =>
  (mx_al s18.2 x20 2).bind fun x21 =>
  (mx_as s18.2 x19 13 x21).bind fun h22 =>
  (mx_gr h22 a0 12 4).bind fun x23 =>
  (mx_gr h22 a0 12 2).bind fun x24 =>
  (mx_al h22 x24 33).bind fun x25 =>
  (mx_as h22 x23 19 x25).bind fun h26 =>
  (mx_gr h26 a0 12 4).bind fun x27 =>
  (mx_gr h26 a0 12 2).bind fun x28 =>
  (mx_al h26 x28 34).bind fun x29 =>
  (mx_as h26 x27 20 x29).bind fun h30 =>
  (mx_pi h30 a0 12 6 0).bind fun h31 =>
  (mx_pi h31 a0 12 8 0).bind fun h32 =>
  (mx_pi h32 a0 12 10 0).bind fun h33 =>
  some h33)) 2000 (0, s11.2))) 2000 (0, h)
def f_X12_in (a0 : Int32) (a1 : Int32) (a2 : Int32) (h : mx_Hp) : Option (Int32) :=
  (if a0 < a1 then
  some 0
  else
  if a2 < a0 then
  some 0
  else
  some 1 : Option (Int32)).bind fun v3 =>
  if v3 = 0 ∨ v3 = 1 then some v3 else none
def f_X12_isWord (a0 : Nat) (a1 : Int32) (h : mx_Hp) : Option (Int32) :=
  (mx_gr h a0 12 2).bind fun x1 =>
  (mx_al h x1 0).bind fun x2 =>
  (f_X12_in a1 0 (x2 - 1) h).bind fun x3 =>
  if x3 = 0 ∨ x3 = 1 then some x3 else none
def f_X12_has (a0 : Int32) (a1 : Int32) (h : mx_Hp) : Option (Int32) :=
  (if ¬ ((a0 >>> (a1 &&& 31)) &&& 1) = 1 then
  some 0
  else
  some 1 : Option (Int32)).bind fun v2 =>
  if v2 = 0 ∨ v2 = 1 then some v2 else none
def f_X12_write (a0 : Nat) (a1 : Int32) (h : mx_Hp) : Option (Int32 × mx_Hp) :=
  (f_X12_in a1 32 126 h).bind fun x1 =>
  if ¬ x1 = 0 then
  (mx_gi h a0 12 1).bind fun x3 =>
  if ¬ x3 = 200 then
  (mx_gr h a0 12 0).bind fun x5 =>
  (mx_gi h a0 12 1).bind fun x6 =>
  (mx_as h x5 x6 a1).bind fun h7 =>
  (mx_gi h7 a0 12 1).bind fun x8 =>
  (mx_pi h7 a0 12 1 (x8 + 1)).bind fun h9 =>
  (mx_gi h9 a0 12 1).bind fun x10 =>
  some (x10, h9)
  else
  some ((-3), h)
  else
  some ((-1), h)
def f_X12_wipe (a0 : Nat) (h : mx_Hp) : Option (Int32 × mx_Hp) :=
  (mx_gi h a0 12 1).bind fun x1 =>
  (mx_pi h a0 12 1 0).bind fun h2 =>
  some (x1, h2)
def f_X12_letterAt (a0 : Nat) (a1 : Int32) (h : mx_Hp) : Option (Int32) :=
  (mx_gi h a0 12 1).bind fun x1 =>
  (if x1 ≤ a1 then
  some (-1)
  else
  (mx_gr h a0 12 0).bind fun x3 =>
  (mx_al h x3 a1).bind fun x4 =>
  some x4 : Option (Int32)).bind fun v5 =>
  some v5
def f_X12_isFigure (a0 : Int32) (h : mx_Hp) : Option (Int32) :=
  (f_X12_in a0 48 57 h).bind fun x1 =>
  if x1 = 0 ∨ x1 = 1 then some x1 else none
def f_X12_number (a0 : Nat) (a1 : Int32) (a2 : Int32) (a3 : Int32) (h : mx_Hp) : Option (Int32 × mx_Hp) :=
  (mx_gi h a0 12 11).bind fun x1 =>
  if a0 < h.1 ∧ (mx_lay a0).1 = 15 then
  ((f_X12_letterAt a0 x1 h).bind fun x2 =>
  (f_X12_isFigure x2 h).bind fun x4 =>
  if ¬ x4 = 0 then
  (mx_gi h a0 12 11).bind fun x6 =>
  if a0 < h.1 ∧ (mx_lay a0).1 = 15 then
  ((f_X12_letterAt a0 x6 h).bind fun x7 =>
  (mx_gi h a0 12 11).bind fun x9 =>
  (mx_pi h a0 12 11 (x9 + 1)).bind fun h10 =>
  (mx_gi h10 a0 12 11).bind fun x11 =>
  if a0 < h10.1 ∧ (mx_lay a0).1 = 15 then
  ((f_X12_letterAt a0 x11 h10).bind fun x12 =>
  (f_X12_isFigure x12 h10).bind fun x14 =>
  (if x14 = 0 then
  some ((x7 - 48), h10)
  else
  (mx_gi h10 a0 12 11).bind fun x16 =>
  if a0 < h10.1 ∧ (mx_lay a0).1 = 15 then
  ((f_X12_letterAt a0 x16 h10).bind fun x17 =>
  (mx_gi h10 a0 12 11).bind fun x19 =>
  (mx_pi h10 a0 12 11 (x19 + 1)).bind fun h20 =>
  some ((((10 * (x7 - 48)) + x17) - 48), h20))
  else none : Option (Int32 × mx_Hp)).bind fun v21 =>
  (mx_gi v21.2 a0 12 11).bind fun x22 =>
  if a0 < v21.2.1 ∧ (mx_lay a0).1 = 15 then
  ((f_X12_letterAt a0 x22 v21.2).bind fun x23 =>
  (if ¬ x23 = a3 then
  some 0
  else
  (f_X12_in v21.1 a1 a2 v21.2).bind fun x26 =>
  if x26 = 0 then
  some 0
  else
  some 1 : Option (Int32)).bind fun v28 =>
  (mx_gi v21.2 a0 12 11).bind fun x29 =>
  (mx_pi v21.2 a0 12 11 (x29 + 1)).bind fun h30 =>
  (if v28 = 0 then
  some (-1)
  else
  some v21.1 : Option (Int32)).bind fun v32 =>
  some (v32, h30))
  else none)
  else none)
  else none
  else
  some ((-1), h))
  else none
def f_X12_readsItem (a0 : Nat) (a1 : Int32) (h : mx_Hp) : Option (Int32 × mx_Hp) :=
  if a1 = 99 then
  (mx_gr h a0 12 3).bind fun x2 =>
  if a0 < h.1 ∧ (mx_lay a0).1 = 15 then
  ((f_X12_number a0 0 1 59 h).bind fun x3 =>
  (mx_as x3.2 x2 2 x3.1).bind fun h5 =>
  (mx_gr h5 a0 12 3).bind fun x6 =>
  (mx_al h5 x6 2).bind fun x7 =>
  (if x7 < 0 then
  some 0
  else
  some 1 : Option (Int32)).bind fun v9 =>
  if v9 = 0 ∨ v9 = 1 then some (v9, h5) else none)
  else none
  else
  if a1 = 103 then
  (mx_gr h a0 12 3).bind fun x12 =>
  (mx_al h x12 0).bind fun x13 =>
  if a0 < h.1 ∧ (mx_lay a0).1 = 15 then
  ((f_X12_number a0 0 (x13 - 1) 44 h).bind fun x14 =>
  (if 0 ≤ x14.1 then
  (mx_gr x14.2 a0 12 3).bind fun x17 =>
  (mx_al x14.2 x17 0).bind fun x18 =>
  if a0 < x14.2.1 ∧ (mx_lay a0).1 = 15 then
  ((f_X12_number a0 0 (x18 - 1) 59 x14.2).bind fun x19 =>
  some (x19.1, x19.2))
  else none
  else
  some ((-1), x14.2) : Option (Int32 × mx_Hp)).bind fun v21 =>
  if 0 ≤ v21.1 then
  (mx_gr v21.2 a0 12 3).bind fun x23 =>
  (mx_al v21.2 x23 (23 + x14.1)).bind fun x24 =>
  (mx_as v21.2 x23 (23 + x14.1) (x24 ||| ((1 : Int32) <<< (v21.1 &&& 31)))).bind fun h25 =>
  some (1, h25)
  else
  some (0, v21.2))
  else none
  else
  if a1 = 107 then
  if a0 < h.1 ∧ (mx_lay a0).1 = 15 then
  ((f_X12_number a0 0 1 44 h).bind fun x27 =>
  (if 0 ≤ x27.1 then
  (mx_gr x27.2 a0 12 3).bind fun x30 =>
  (mx_al x27.2 x30 0).bind fun x31 =>
  if a0 < x27.2.1 ∧ (mx_lay a0).1 = 15 then
  ((f_X12_number a0 0 (x31 - 1) 59 x27.2).bind fun x32 =>
  some (x32.1, x32.2))
  else none
  else
  some ((-1), x27.2) : Option (Int32 × mx_Hp)).bind fun v34 =>
  if 0 ≤ v34.1 then
  (mx_gr v34.2 a0 12 3).bind fun x36 =>
  (mx_al v34.2 x36 (33 + x27.1)).bind fun x37 =>
  (mx_as v34.2 x36 (33 + x27.1) (x37 ||| ((1 : Int32) <<< (v34.1 &&& 31)))).bind fun h38 =>
  some (1, h38)
  else
  some (0, v34.2))
  else none
  else
  if a1 = 108 then
  (mx_gr h a0 12 3).bind fun x40 =>
  if a0 < h.1 ∧ (mx_lay a0).1 = 15 then
  ((f_X12_number a0 1 4 59 h).bind fun x41 =>
  (mx_as x41.2 x40 1 x41.1).bind fun h43 =>
  (mx_gr h43 a0 12 3).bind fun x44 =>
  (mx_al h43 x44 1).bind fun x45 =>
  (if x45 ≤ 0 then
  some 0
  else
  some 1 : Option (Int32)).bind fun v47 =>
  if v47 = 0 ∨ v47 = 1 then some (v47, h43) else none)
  else none
  else
  if a1 = 119 then
  if a0 < h.1 ∧ (mx_lay a0).1 = 15 then
  ((f_X12_number a0 0 3 44 h).bind fun x50 =>
  (if 0 ≤ x50.1 then
  if a0 < x50.2.1 ∧ (mx_lay a0).1 = 15 then
  ((f_X12_number a0 0 9 59 x50.2).bind fun x53 =>
  some (x53.1, x53.2))
  else none
  else
  some ((-1), x50.2) : Option (Int32 × mx_Hp)).bind fun v55 =>
  if v55.1 < 0 then
  some (0, v55.2)
  else
  (mx_gr v55.2 a0 12 3).bind fun x57 =>
  (mx_al v55.2 x57 0).bind fun x58 =>
  if ¬ x58 = 10 then
  if a0 < v55.2.1 ∧ (mx_lay a0).1 = 15 then
  ((f_X12_wordOf a0 x50.1 v55.1 v55.2).bind fun x60 =>
  some (1, x60))
  else none
  else
  some (0, v55.2))
  else none
  else
  some (0, h)
def f_X12_readsAll_L9 (l0 : Nat)  : (mx_Hp → Option (Int32 × mx_Hp)) → mx_Hp → Option (Int32 × mx_Hp) := fun self s =>
  (mx_gi s l0 12 11).bind fun x4 =>
  (mx_gi s l0 12 1).bind fun x5 =>
  if x5 ≤ x4 then
  some ((-4), s)
  else
  (mx_gi s l0 12 11).bind fun x7 =>
  (mx_gi s l0 12 11).bind fun x8 =>
  (mx_pi s l0 12 11 (x8 + 1)).bind fun h9 =>
  (mx_gr h9 l0 12 0).bind fun x10 =>
  (mx_al h9 x10 x7).bind fun x11 =>
  if l0 < h9.1 ∧ (mx_lay l0).1 = 15 then
  ((f_X12_readsItem l0 x11 h9).bind fun x12 =>
  if ¬ x12.1 = 0 then
  self x12.2
  else
  some (x7, x12.2))
  else none
def f_X12_readsAll (a0 : Nat) (h : mx_Hp) : Option (Int32 × mx_Hp) :=
  if a0 < h.1 ∧ (mx_lay a0).1 = 15 then
  ((f_X12_begins a0 h).bind fun x1 =>
  (mx_pi x1 a0 12 11 0).bind fun h3 =>
  mx_fix (f_X12_readsAll_L9 a0) 2000 h3)
  else none
def f_X12_fault (a0 : Nat) (h : mx_Hp) : Option (Int32 × mx_Hp) :=
  if a0 < h.1 ∧ (mx_lay a0).1 = 15 then
  ((f_X12_readsAll a0 h).bind fun x1 =>
  some (x1.1, x1.2))
  else none
def f_X12_lay (a0 : Nat) (h : mx_Hp) : Option (Int32 × mx_Hp) :=
  if a0 < h.1 ∧ (mx_lay a0).1 = 15 then
  ((f_X12_readsAll a0 h).bind fun x1 =>
  if ¬ x1.1 = (-4) then
  some ((-2), x1.2)
  else
  (mx_gr x1.2 a0 12 3).bind fun x4 =>
  (mx_al x1.2 x4 0).bind fun x5 =>
  if ¬ x5 = 0 then
  if a0 < x1.2.1 ∧ (mx_lay a0).1 = 15 then
  ((f_X12_lays a0 x1.2).bind fun x7 =>
  (mx_gr x7 a0 12 2).bind fun x9 =>
  (mx_al x7 x9 0).bind fun x10 =>
  some (x10, x7))
  else none
  else
  some ((-2), x1.2))
  else none
def f_X12_word (a0 : Nat) (a1 : Int32) (a2 : Int32) (h : mx_Hp) : Option (Int32) :=
  if a0 < h.1 ∧ (mx_lay a0).1 = 15 then
  ((f_X12_isWord a0 a1 h).bind fun x1 =>
  if ¬ x1 = 0 then
  if a2 = 0 then
  (mx_gr h a0 12 2).bind fun x5 =>
  (mx_al h x5 (3 + a1)).bind fun x6 =>
  some x6
  else
  if a2 = 1 then
  (mx_gr h a0 12 2).bind fun x8 =>
  (mx_al h x8 (13 + a1)).bind fun x9 =>
  some x9
  else
  if a2 = 2 then
  (mx_gr h a0 12 2).bind fun x11 =>
  (mx_al h x11 (23 + a1)).bind fun x12 =>
  some x12
  else
  if a2 = 3 then
  (mx_gr h a0 12 4).bind fun x14 =>
  (mx_al h x14 19).bind fun x15 =>
  (f_X12_has x15 a1 h).bind fun x16 =>
  (if x16 = 0 then
  some 0
  else
  some 1 : Option (Int32)).bind fun v18 =>
  (mx_gr h a0 12 4).bind fun x19 =>
  (mx_al h x19 20).bind fun x20 =>
  (f_X12_has x20 a1 h).bind fun x21 =>
  (if x21 = 0 then
  some 0
  else
  some 2 : Option (Int32)).bind fun v23 =>
  some (v18 + v23)
  else
  some (-1)
  else
  some (-1))
  else none
def f_X12_mayor (a0 : Nat) (a1 : Int32) (a2 : Int32) (h : mx_Hp) : Option (Int32) :=
  (f_X12_in a1 0 1 h).bind fun x1 =>
  if ¬ x1 = 0 then
  if a2 = 0 then
  (mx_gr h a0 12 4).bind fun x4 =>
  (mx_al h x4 13).bind fun x5 =>
  (if ¬ x5 = a1 then
  some 0
  else
  some 1 : Option (Int32)).bind fun v7 =>
  some v7
  else
  if a2 = 1 then
  (mx_gr h a0 12 4).bind fun x9 =>
  (mx_al h x9 (15 + a1)).bind fun x10 =>
  some x10
  else
  if a2 = 2 then
  (mx_gr h a0 12 4).bind fun x12 =>
  (mx_al h x12 (17 + a1)).bind fun x13 =>
  some x13
  else
  if a2 = 3 then
  (mx_gr h a0 12 4).bind fun x15 =>
  (mx_al h x15 (19 + a1)).bind fun x16 =>
  some x16
  else
  some (-1)
  else
  some (-1)
def f_X12_said (a0 : Nat) (a1 : Int32) (h : mx_Hp) : Option (Int32) :=
  (if 0 ≤ a1 then
  (mx_gr h a0 12 4).bind fun x2 =>
  (mx_al h x2 12).bind fun x3 =>
  if x3 ≤ a1 then
  some (-4)
  else
  (mx_gr h a0 12 4).bind fun x5 =>
  (mx_al h x5 a1).bind fun x6 =>
  some x6
  else
  some (-1) : Option (Int32)).bind fun v7 =>
  some v7
def f_X12_keeps_L51 (l0 : Nat) (k83 : Int32 × mx_Hp → Option (mx_Hp)) : (Int32 × mx_Hp → Option (mx_Hp)) → Int32 × mx_Hp → Option (mx_Hp) := fun self s =>
  if 22 ≤ s.1 then
  k83 (s.1, s.2)
  else
  (mx_gr s.2 l0 12 5).bind fun x4 =>
  (mx_gi s.2 l0 12 6).bind fun x5 =>
  (mx_gr s.2 l0 12 4).bind fun x6 =>
  (mx_al s.2 x6 s.1).bind fun x7 =>
  (mx_as s.2 x4 ((22 * x5) + s.1) x7).bind fun h8 =>
  self ((s.1 + 1), h8)
def f_X12_keeps_L11 (l0 : Nat) (k39 : Int32 × mx_Hp → Option (mx_Hp)) : (Int32 × mx_Hp → Option (mx_Hp)) → Int32 × mx_Hp → Option (mx_Hp) := fun self s =>
  if 154 ≤ s.1 then
  k39 (s.1, s.2)
  else
  (mx_gr s.2 l0 12 5).bind fun x19 =>
  (mx_gr s.2 l0 12 5).bind fun x20 =>
  (mx_al s.2 x20 (s.1 + 22)).bind fun x21 =>
  (mx_as s.2 x19 s.1 x21).bind fun h22 =>
  self ((s.1 + 1), h22)
def f_X12_keeps (a0 : Nat) (h : mx_Hp) : Option (mx_Hp) :=
  (mx_gi h a0 12 6).bind fun x1 =>
  if ¬ x1 = 8 then
  mx_fix (f_X12_keeps_L51 a0 (fun s15 => (mx_gi s15.2 a0 12 6).bind fun x16 =>
  (mx_pi s15.2 a0 12 6 (x16 + 1)).bind fun h17 =>
  some h17)) 2000 (0, h)
  else
  mx_fix (f_X12_keeps_L11 a0 (fun s28 => (mx_gi s28.2 a0 12 6).bind fun x29 =>
  (mx_pi s28.2 a0 12 6 (x29 - 1)).bind fun h30 =>
  mx_fix (f_X12_keeps_L51 a0 (fun s31 => (mx_gi s31.2 a0 12 6).bind fun x32 =>
  (mx_pi s31.2 a0 12 6 (x32 + 1)).bind fun h33 =>
  some h33)) 2000 (0, h30))) 2000 (0, h)
def f_X12_last (a0 : Nat) (h : mx_Hp) : Option (Int32) :=
  (mx_gr h a0 12 4).bind fun x1 =>
  (mx_gr h a0 12 4).bind fun x2 =>
  (mx_al h x2 12).bind fun x3 =>
  (mx_al h x1 (x3 - 1)).bind fun x4 =>
  some x4
def f_X12_maySay (a0 : Nat) (a1 : Int32) (h : mx_Hp) : Option (Int32) :=
  (mx_gr h a0 12 4).bind fun x1 =>
  (mx_al h x1 12).bind fun x2 =>
  (if x2 = 0 then
  some 1
  else
  (mx_gr h a0 12 2).bind fun x4 =>
  if a0 < h.1 ∧ (mx_lay a0).1 = 15 then
  ((f_X12_last a0 h).bind fun x5 =>
  (mx_al h x4 (23 + x5)).bind fun x7 =>
  (f_X12_has x7 a1 h).bind fun x8 =>
  if x8 = 0 then
  some 0
  else
  some 1)
  else none : Option (Int32)).bind fun v10 =>
  if v10 = 0 ∨ v10 = 1 then some v10 else none
def f_X12_says (a0 : Nat) (a1 : Int32) (h : mx_Hp) : Option (mx_Hp) :=
  (mx_gr h a0 12 4).bind fun x1 =>
  (mx_gr h a0 12 4).bind fun x2 =>
  (mx_al h x2 12).bind fun x3 =>
  (mx_as h x1 x3 a1).bind fun h4 =>
  (mx_gr h4 a0 12 4).bind fun x5 =>
  (mx_al h4 x5 12).bind fun x6 =>
  (mx_as h4 x5 12 (x6 + 1)).bind fun h7 =>
  (mx_gr h7 a0 12 4).bind fun x8 =>
  (mx_al h7 x8 14).bind fun x9 =>
  (mx_as h7 x8 14 (x9 + 1)).bind fun h10 =>
  some h10
def f_X12_say (a0 : Nat) (a1 : Int32) (h : mx_Hp) : Option (Int32 × mx_Hp) :=
  if a0 < h.1 ∧ (mx_lay a0).1 = 15 then
  ((f_X12_isWord a0 a1 h).bind fun x1 =>
  if ¬ x1 = 0 then
  if a0 < h.1 ∧ (mx_lay a0).1 = 15 then
  ((f_X12_maySay a0 a1 h).bind fun x4 =>
  if ¬ x4 = 0 then
  (mx_gr h a0 12 4).bind fun x7 =>
  (mx_al h x7 12).bind fun x8 =>
  if ¬ x8 = 12 then
  if a0 < h.1 ∧ (mx_lay a0).1 = 15 then
  ((f_X12_keeps a0 h).bind fun x10 =>
  if a0 < x10.1 ∧ (mx_lay a0).1 = 15 then
  ((f_X12_says a0 a1 x10).bind fun x12 =>
  (mx_gr x12 a0 12 4).bind fun x14 =>
  (mx_al x12 x14 12).bind fun x15 =>
  some (x15, x12))
  else none)
  else none
  else
  some ((-3), h)
  else
  some ((-2), h))
  else none
  else
  some ((-1), h))
  else none
def f_X12_worthNow_L4 (l0 : Nat) (h : mx_Hp)  : (Int32 × Int32 → Option (Int32)) → Int32 × Int32 → Option (Int32) := fun self s =>
  (mx_gr h l0 12 4).bind fun x1 =>
  (mx_al h x1 12).bind fun x2 =>
  if x2 ≤ s.2 then
  some s.1
  else
  (mx_gr h l0 12 2).bind fun x4 =>
  (mx_gr h l0 12 4).bind fun x5 =>
  (mx_al h x5 s.2).bind fun x6 =>
  (mx_al h x4 (13 + x6)).bind fun x7 =>
  self ((s.1 + x7), (s.2 + 1))
def f_X12_worthNow (a0 : Nat) (h : mx_Hp) : Option (Int32) :=
  mx_fix (f_X12_worthNow_L4 a0 h) 2000 (0, 0)
def f_X12_decrees (a0 : Nat) (a1 : Int32) (a2 : Int32) (h : mx_Hp) : Option (mx_Hp) :=
  (mx_gr h a0 12 4).bind fun x1 =>
  (mx_al h x1 (15 + a1)).bind fun x2 =>
  (mx_as h x1 (15 + a1) (x2 + 1)).bind fun h3 =>
  (mx_gr h3 a0 12 4).bind fun x4 =>
  (mx_al h3 x4 (17 + a1)).bind fun x5 =>
  (mx_as h3 x4 (17 + a1) (x5 + a2)).bind fun h6 =>
  (mx_gr h6 a0 12 4).bind fun x7 =>
  (mx_as h6 x7 12 0).bind fun h8 =>
  some h8
def f_X12_mayEnd (a0 : Nat) (h : mx_Hp) : Option (Int32) :=
  (mx_gr h a0 12 4).bind fun x1 =>
  (mx_al h x1 12).bind fun x2 =>
  (if x2 ≤ 0 then
  some 0
  else
  (mx_gr h a0 12 2).bind fun x4 =>
  if a0 < h.1 ∧ (mx_lay a0).1 = 15 then
  ((f_X12_last a0 h).bind fun x5 =>
  (mx_al h x4 (3 + x5)).bind fun x7 =>
  if ¬ x7 = 2 then
  some 0
  else
  some 1)
  else none : Option (Int32)).bind fun v9 =>
  if v9 = 0 ∨ v9 = 1 then some v9 else none
def f_X12_end (a0 : Nat) (h : mx_Hp) : Option (Int32 × mx_Hp) :=
  if a0 < h.1 ∧ (mx_lay a0).1 = 15 then
  ((f_X12_mayEnd a0 h).bind fun x1 =>
  if ¬ x1 = 0 then
  if a0 < h.1 ∧ (mx_lay a0).1 = 15 then
  ((f_X12_keeps a0 h).bind fun x4 =>
  if a0 < x4.1 ∧ (mx_lay a0).1 = 15 then
  ((f_X12_worthNow a0 x4).bind fun x6 =>
  (mx_gr x4 a0 12 4).bind fun x8 =>
  (mx_al x4 x8 13).bind fun x9 =>
  if a0 < x4.1 ∧ (mx_lay a0).1 = 15 then
  ((f_X12_decrees a0 x9 x6 x4).bind fun x10 =>
  some (x6, x10))
  else none)
  else none)
  else none
  else
  some ((-2), h))
  else none
def f_X12_stops_L4 (l0 : Nat) (h : mx_Hp)  : (Int32 × Int32 → Option (Int32)) → Int32 × Int32 → Option (Int32) := fun self s =>
  (mx_gr h l0 12 2).bind fun x1 =>
  (mx_al h x1 0).bind fun x2 =>
  if x2 ≤ s.2 then
  some s.1
  else
  (mx_gr h l0 12 2).bind fun x4 =>
  (mx_al h x4 (3 + s.2)).bind fun x5 =>
  (if ¬ x5 = 2 then
  some 0
  else
  some ((1 : Int32) <<< (s.2 &&& 31)) : Option (Int32)).bind fun v7 =>
  self ((s.1 ||| v7), (s.2 + 1))
def f_X12_stops (a0 : Nat) (h : mx_Hp) : Option (Int32) :=
  mx_fix (f_X12_stops_L4 a0 h) 2000 (0, 0)
def f_X12_levelsOf_L26 (l0 : Nat) (l1 : Int32) (l2 : Int32) (k81 : Int32 × mx_Hp → Option (mx_Hp)) : (Int32 × mx_Hp → Option (mx_Hp)) → Int32 × mx_Hp → Option (mx_Hp) := fun self s =>
  (mx_gr s.2 l0 12 2).bind fun x8 =>
  (mx_al s.2 x8 0).bind fun x9 =>
  if x9 ≤ s.1 then
  k81 (s.1, s.2)
  else
  (mx_gr s.2 l0 12 12).bind fun x11 =>
  (mx_al s.2 x11 l2).bind fun x12 =>
  (mx_gr s.2 l0 12 2).bind fun x13 =>
  (mx_al s.2 x13 (23 + s.1)).bind fun x14 =>
  (mx_gr s.2 l0 12 12).bind fun x15 =>
  (mx_al s.2 x15 (l2 - 1)).bind fun x16 =>
  (if ((x14 &&& l1) &&& x16) = 0 then
  some 0
  else
  some ((1 : Int32) <<< (s.1 &&& 31)) : Option (Int32)).bind fun v18 =>
  (mx_as s.2 x11 l2 (x12 ||| v18)).bind fun h19 =>
  self ((s.1 + 1), h19)
def f_X12_levelsOf_L12 (l0 : Nat) (l1 : Int32)  : (Int32 × mx_Hp → Option (mx_Hp)) → Int32 × mx_Hp → Option (mx_Hp) := fun self s =>
  if 5 ≤ s.1 then
  some s.2
  else
  (mx_gr s.2 l0 12 12).bind fun x6 =>
  (mx_as s.2 x6 s.1 0).bind fun h7 =>
  mx_fix (f_X12_levelsOf_L26 l0 l1 s.1 (fun s32 => self ((s.1 + 1), s32.2))) 2000 (0, h7)
def f_X12_levelsOf (a0 : Nat) (a1 : Int32) (h : mx_Hp) : Option (mx_Hp) :=
  (mx_gr h a0 12 12).bind fun x1 =>
  if a0 < h.1 ∧ (mx_lay a0).1 = 15 then
  ((f_X12_stops a0 h).bind fun x2 =>
  (mx_as h x1 0 x2).bind fun h4 =>
  mx_fix (f_X12_levelsOf_L12 a0 a1) 2000 (1, h4))
  else none
def f_X12_finishes_L15 (l0 : Nat) (l1 : Int32) (l2 : Int32) (h : mx_Hp) (k47 : Int32 × Int32 → Option (Int32 × mx_Hp)) : (Int32 × Int32 → Option (Int32 × mx_Hp)) → Int32 × Int32 → Option (Int32 × mx_Hp) := fun self s =>
  if s.2 ≤ 0 then
  k47 (s.1, s.2)
  else
  (mx_gr h l0 12 12).bind fun x6 =>
  (mx_al h x6 s.2).bind fun x7 =>
  (f_X12_has x7 l1 h).bind fun x8 =>
  (if x8 = 0 then
  some s.1
  else
  some s.2 : Option (Int32)).bind fun v10 =>
  self (v10, (s.2 + (-1)))
def f_X12_finishes_L106 (l0 : Nat) (l2 : Int32) (l3 : Int32) (l5 : Int32) (l6 : Int32) (h : mx_Hp) (k122 : Int32 → Option (Int32 × mx_Hp)) : (Int32 → Option (Int32 × mx_Hp)) → Int32 → Option (Int32 × mx_Hp) := fun self s =>
  (f_X12_has l6 s h).bind fun x27 =>
  if ¬ x27 = 0 then
  k122 s
  else
  self (s + 1)
def f_X12_finishes_L71 (l0 : Nat) (l2 : Int32) (l3 : Int32)  : (Int32 × Int32 × mx_Hp → Option (Int32 × mx_Hp)) → Int32 × Int32 × mx_Hp → Option (Int32 × mx_Hp) := fun self s =>
  if l3 ≤ s.2.1 then
  some (l3, s.2.2)
  else
  (mx_gr s.2.2 l0 12 2).bind fun x23 =>
  (mx_al s.2.2 x23 (23 + s.1)).bind fun x24 =>
  (mx_gr s.2.2 l0 12 12).bind fun x25 =>
  (mx_al s.2.2 x25 ((l3 - 1) - s.2.1)).bind fun x26 =>
  mx_fix (f_X12_finishes_L106 l0 l2 l3 s.2.1 ((x24 &&& l2) &&& x26) s.2.2 (fun s31 => (mx_gr s.2.2 l0 12 13).bind fun x32 =>
  (mx_as s.2.2 x32 s.2.1 s31).bind fun h33 =>
  self (s31, (s.2.1 + 1), h33))) 2000 0
def f_X12_finishes (a0 : Nat) (a1 : Int32) (a2 : Int32) (h : mx_Hp) : Option (Int32 × mx_Hp) :=
  if a0 < h.1 ∧ (mx_lay a0).1 = 15 then
  ((f_X12_levelsOf a0 a2 h).bind fun x1 =>
  (mx_gr x1 a0 12 2).bind fun x3 =>
  (mx_al x1 x3 1).bind fun x4 =>
  mx_fix (f_X12_finishes_L15 a0 a1 a2 x1 (fun s17 => (mx_gr x1 a0 12 2).bind fun x18 =>
  (mx_al x1 x18 (3 + a1)).bind fun x19 =>
  (if ¬ x19 = 1 then
  some s17.1
  else
  some 0 : Option (Int32)).bind fun v21 =>
  mx_fix (f_X12_finishes_L71 a0 a2 v21) 2000 (a1, 0, x1))) 2000 (0, x4))
  else none
def f_X12_all (a0 : Nat) (h : mx_Hp) : Option (Int32) :=
  (mx_gr h a0 12 2).bind fun x1 =>
  (mx_al h x1 0).bind fun x2 =>
  some (((1 : Int32) <<< (x2 &&& 31)) - 1)
def f_X12_knowsFor (a0 : Nat) (a1 : Int32) (h : mx_Hp) : Option (Int32) :=
  (mx_gr h a0 12 2).bind fun x1 =>
  (mx_al h x1 (3 + a1)).bind fun x2 =>
  (if ¬ x2 = 3 then
  (mx_gr h a0 12 4).bind fun x4 =>
  (mx_gr h a0 12 4).bind fun x5 =>
  (mx_al h x5 13).bind fun x6 =>
  (mx_al h x4 (20 - x6)).bind fun x7 =>
  some x7
  else
  if a0 < h.1 ∧ (mx_lay a0).1 = 15 then
  ((f_X12_all a0 h).bind fun x8 =>
  some x8)
  else none : Option (Int32)).bind fun v10 =>
  some v10
def f_X12_finishesNow (a0 : Nat) (h : mx_Hp) : Option (Int32 × mx_Hp) :=
  (mx_gr h a0 12 4).bind fun x1 =>
  (mx_al h x1 12).bind fun x2 =>
  (if ¬ x2 = 0 then
  if a0 < h.1 ∧ (mx_lay a0).1 = 15 then
  ((f_X12_last a0 h).bind fun x4 =>
  (mx_gr h a0 12 4).bind fun x6 =>
  (mx_al h x6 0).bind fun x7 =>
  if a0 < h.1 ∧ (mx_lay a0).1 = 15 then
  ((f_X12_knowsFor a0 x7 h).bind fun x8 =>
  if a0 < h.1 ∧ (mx_lay a0).1 = 15 then
  ((f_X12_finishes a0 x4 x8 h).bind fun x10 =>
  some (x10.1, x10.2))
  else none)
  else none)
  else none
  else
  some (0, h) : Option (Int32 × mx_Hp)).bind fun v12 =>
  some (v12.1, v12.2)
def f_X12_ends_L12 (l0 : Nat) (l1 : Int32) (h : mx_Hp) (k40 : Int32 × Int32 → Option (Int32 × mx_Hp)) : (Int32 × Int32 → Option (Int32 × mx_Hp)) → Int32 × Int32 → Option (Int32 × mx_Hp) := fun self s =>
  if l1 ≤ s.2 then
  k40 (s.1, s.2)
  else
  (mx_gr h l0 12 2).bind fun x6 =>
  (mx_gr h l0 12 13).bind fun x7 =>
  (mx_al h x7 s.2).bind fun x8 =>
  (mx_al h x6 (13 + x8)).bind fun x9 =>
  self ((s.1 + x9), (s.2 + 1))
def f_X12_ends (a0 : Nat) (h : mx_Hp) : Option (Int32 × mx_Hp) :=
  if a0 < h.1 ∧ (mx_lay a0).1 = 15 then
  ((f_X12_finishesNow a0 h).bind fun x1 =>
  if a0 < x1.2.1 ∧ (mx_lay a0).1 = 15 then
  ((f_X12_worthNow a0 x1.2).bind fun x3 =>
  mx_fix (f_X12_ends_L12 a0 x1.1 x1.2 (fun s15 => (mx_gr x1.2 a0 12 4).bind fun x16 =>
  (mx_al x1.2 x16 14).bind fun x17 =>
  (mx_as x1.2 x16 14 (x17 + x1.1)).bind fun h18 =>
  (mx_gr h18 a0 12 4).bind fun x19 =>
  (mx_gr h18 a0 12 4).bind fun x20 =>
  (mx_al h18 x20 13).bind fun x21 =>
  (mx_as h18 x19 13 (1 - x21)).bind fun h22 =>
  (mx_gr h22 a0 12 4).bind fun x23 =>
  (mx_al h22 x23 21).bind fun x24 =>
  (mx_as h22 x23 21 (x24 + 1)).bind fun h25 =>
  (mx_gr h25 a0 12 4).bind fun x26 =>
  (mx_al h25 x26 13).bind fun x27 =>
  if a0 < h25.1 ∧ (mx_lay a0).1 = 15 then
  ((f_X12_decrees a0 x27 s15.1 h25).bind fun x28 =>
  some (s15.1, x28))
  else none)) 2000 (x3, 0))
  else none)
  else none
def f_X12_finish (a0 : Nat) (h : mx_Hp) : Option (Int32 × mx_Hp) :=
  if a0 < h.1 ∧ (mx_lay a0).1 = 15 then
  ((f_X12_finishesNow a0 h).bind fun x1 =>
  if ¬ x1.1 = 0 then
  if a0 < x1.2.1 ∧ (mx_lay a0).1 = 15 then
  ((f_X12_keeps a0 x1.2).bind fun x4 =>
  if a0 < x4.1 ∧ (mx_lay a0).1 = 15 then
  ((f_X12_ends a0 x4).bind fun x6 =>
  some (x6.1, x6.2))
  else none)
  else none
  else
  some ((-2), x1.2))
  else none
def f_X12_drops (a0 : Nat) (h : mx_Hp) : Option (mx_Hp) :=
  (mx_gr h a0 12 4).bind fun x1 =>
  (mx_as h x1 12 0).bind fun h2 =>
  (mx_gr h2 a0 12 4).bind fun x3 =>
  (mx_al h2 x3 14).bind fun x4 =>
  (mx_as h2 x3 14 (x4 + 1)).bind fun h5 =>
  some h5
def f_X12_drop (a0 : Nat) (h : mx_Hp) : Option (Int32 × mx_Hp) :=
  (mx_gr h a0 12 4).bind fun x1 =>
  (mx_al h x1 12).bind fun x2 =>
  if ¬ x2 = 0 then
  if a0 < h.1 ∧ (mx_lay a0).1 = 15 then
  ((f_X12_keeps a0 h).bind fun x4 =>
  (mx_gr x4 a0 12 4).bind fun x6 =>
  (mx_al x4 x6 12).bind fun x7 =>
  if a0 < x4.1 ∧ (mx_lay a0).1 = 15 then
  ((f_X12_drops a0 x4).bind fun x8 =>
  some (x7, x8))
  else none)
  else none
  else
  some ((-2), h)
def f_X12_learn (a0 : Nat) (a1 : Int32) (a2 : Int32) (h : mx_Hp) : Option (Int32 × mx_Hp) :=
  (f_X12_in a1 0 1 h).bind fun x1 =>
  if x1 = 0 then
  some ((-1), h)
  else
  if a0 < h.1 ∧ (mx_lay a0).1 = 15 then
  ((f_X12_isWord a0 a2 h).bind fun x3 =>
  if ¬ x3 = 0 then
  if a0 < h.1 ∧ (mx_lay a0).1 = 15 then
  ((f_X12_keeps a0 h).bind fun x6 =>
  (mx_gr x6 a0 12 4).bind fun x8 =>
  (mx_al x6 x8 (19 + a1)).bind fun x9 =>
  (mx_as x6 x8 (19 + a1) (x9 ^^^ ((1 : Int32) <<< (a2 &&& 31)))).bind fun h10 =>
  (mx_gr h10 a0 12 4).bind fun x11 =>
  (mx_al h10 x11 (19 + a1)).bind fun x12 =>
  (f_X12_has x12 a2 h10).bind fun x13 =>
  (if x13 = 0 then
  some 0
  else
  some 1 : Option (Int32)).bind fun v15 =>
  some (v15, h10))
  else none
  else
  some ((-1), h))
  else none
def f_X12_undo_L22 (l0 : Nat)  : (Int32 × mx_Hp → Option (Int32 × mx_Hp)) → Int32 × mx_Hp → Option (Int32 × mx_Hp) := fun self s =>
  if 22 ≤ s.1 then
  (mx_gi s.2 l0 12 6).bind fun x6 =>
  some (x6, s.2)
  else
  (mx_gr s.2 l0 12 4).bind fun x7 =>
  (mx_gr s.2 l0 12 5).bind fun x8 =>
  (mx_gi s.2 l0 12 6).bind fun x9 =>
  (mx_al s.2 x8 ((22 * x9) + s.1)).bind fun x10 =>
  (mx_as s.2 x7 s.1 x10).bind fun h11 =>
  self ((s.1 + 1), h11)
def f_X12_undo (a0 : Nat) (h : mx_Hp) : Option (Int32 × mx_Hp) :=
  (mx_gi h a0 12 6).bind fun x1 =>
  if ¬ x1 = 0 then
  (mx_gi h a0 12 6).bind fun x3 =>
  (mx_pi h a0 12 6 (x3 - 1)).bind fun h4 =>
  mx_fix (f_X12_undo_L22 a0) 2000 (0, h4)
  else
  some ((-2), h)
def f_X12_finishing (a0 : Nat) (a1 : Int32) (h : mx_Hp) : Option (Int32 × mx_Hp) :=
  (f_X12_in a1 (-1) 3 h).bind fun x1 =>
  if ¬ x1 = 0 then
  if a0 < h.1 ∧ (mx_lay a0).1 = 15 then
  ((f_X12_finishesNow a0 h).bind fun x3 =>
  (if ¬ x3.1 = 0 then
  if ¬ a1 = (-1) then
  if x3.1 ≤ a1 then
  some (-4)
  else
  (mx_gr x3.2 a0 12 13).bind fun x8 =>
  (mx_al x3.2 x8 a1).bind fun x9 =>
  some x9
  else
  some x3.1
  else
  some (-4) : Option (Int32)).bind fun v10 =>
  some (v10, x3.2))
  else none
  else
  some ((-1), h)
def f_X12_lost_L11 (l0 : Nat) (l2 : Int32)  : (Int32 × Int32 × mx_Hp → Option (Int32 × mx_Hp)) → Int32 × Int32 × mx_Hp → Option (Int32 × mx_Hp) := fun self s =>
  (mx_gr s.2.2 l0 12 2).bind fun x3 =>
  (mx_al s.2.2 x3 0).bind fun x4 =>
  if x4 ≤ s.2.1 then
  some (s.1, s.2.2)
  else
  if l0 < s.2.2.1 ∧ (mx_lay l0).1 = 15 then
  ((f_X12_finishes l0 s.2.1 l2 s.2.2).bind fun x6 =>
  (if x6.1 ≤ 0 then
  some 0
  else
  some ((1 : Int32) <<< (s.2.1 &&& 31)) : Option (Int32)).bind fun v9 =>
  self ((s.1 ||| v9), (s.2.1 + 1), x6.2))
  else none
def f_X12_lost (a0 : Nat) (a1 : Int32) (h : mx_Hp) : Option (Int32 × mx_Hp) :=
  if a0 < h.1 ∧ (mx_lay a0).1 = 15 then
  ((f_X12_knowsFor a0 a1 h).bind fun x1 =>
  mx_fix (f_X12_lost_L11 a0 x1) 2000 (0, 0, h))
  else none
def f_X12_reckons_L46 (l0 : Nat) (l1 : Int32) (l2 : Int32) (l3 : Int32) (k199 : Int32 × mx_Hp → Option (mx_Hp)) : (Int32 × mx_Hp → Option (mx_Hp)) → Int32 × mx_Hp → Option (mx_Hp) := fun self s =>
  (mx_gr s.2 l0 12 2).bind fun x12 =>
  (mx_al s.2 x12 0).bind fun x13 =>
  if x13 ≤ s.1 then
  k199 (s.1, s.2)
  else
  (f_X12_has l2 s.1 s.2).bind fun x15 =>
  (if x15 = 0 then
  (mx_gr s.2 l0 12 2).bind fun x17 =>
  (mx_al s.2 x17 (23 + s.1)).bind fun x18 =>
  some x18
  else
  some 0 : Option (Int32)).bind fun v19 =>
  (mx_gr s.2 l0 12 14).bind fun x20 =>
  (mx_al s.2 x20 ((10 + l3) - 1)).bind fun x21 =>
  (if (v19 &&& x21) = 0 then
  some 0
  else
  some 1 : Option (Int32)).bind fun v23 =>
  (mx_gr s.2 l0 12 14).bind fun x24 =>
  (mx_al s.2 x24 ((10 + l3) - 1)).bind fun x25 =>
  (f_X12_has (v19 &&& x25) l1 s.2).bind fun x26 =>
  (mx_gr s.2 l0 12 14).bind fun x27 =>
  (mx_al s.2 x27 (10 + l3)).bind fun x28 =>
  (if v23 = 0 then
  some 0
  else
  some ((1 : Int32) <<< (s.1 &&& 31)) : Option (Int32)).bind fun v30 =>
  (mx_as s.2 x27 (10 + l3) (x28 ||| v30)).bind fun h31 =>
  (mx_gr h31 l0 12 14).bind fun x32 =>
  (mx_al h31 x32 l3).bind fun x33 =>
  (if ¬ x26 = 0 then
  some ((1 : Int32) <<< (s.1 &&& 31))
  else
  (mx_gr h31 l0 12 14).bind fun x35 =>
  (mx_al h31 x35 (l3 - 1)).bind fun x36 =>
  if ((v19 &&& (((1 : Int32) <<< (l1 &&& 31)) ^^^ (-1))) &&& x36) = 0 then
  some 0
  else
  some ((1 : Int32) <<< (s.1 &&& 31)) : Option (Int32)).bind fun v38 =>
  (mx_as h31 x32 l3 (x33 ||| v38)).bind fun h39 =>
  self ((s.1 + 1), h39)
def f_X12_reckons_L20 (l0 : Nat) (l1 : Int32) (l2 : Int32)  : (Int32 × mx_Hp → Option (mx_Hp)) → Int32 × mx_Hp → Option (mx_Hp) := fun self s =>
  if 10 ≤ s.1 then
  some s.2
  else
  (mx_gr s.2 l0 12 14).bind fun x8 =>
  (mx_as s.2 x8 s.1 0).bind fun h9 =>
  (mx_gr h9 l0 12 14).bind fun x10 =>
  (mx_as h9 x10 (10 + s.1) 0).bind fun h11 =>
  mx_fix (f_X12_reckons_L46 l0 l1 l2 s.1 (fun s68 => self ((s.1 + 1), s68.2))) 2000 (0, h11)
def f_X12_reckons (a0 : Nat) (a1 : Int32) (a2 : Int32) (h : mx_Hp) : Option (mx_Hp) :=
  (mx_gr h a0 12 14).bind fun x1 =>
  (mx_as h x1 0 0).bind fun h2 =>
  (mx_gr h2 a0 12 14).bind fun x3 =>
  if a0 < h2.1 ∧ (mx_lay a0).1 = 15 then
  ((f_X12_stops a0 h2).bind fun x4 =>
  (mx_as h2 x3 10 x4).bind fun h6 =>
  mx_fix (f_X12_reckons_L20 a0 a1 a2) 2000 (1, h6))
  else none
def f_X12_lowest_L2 (l0 : Int32) (h : mx_Hp)  : (Int32 → Option (Int32)) → Int32 → Option (Int32) := fun self s =>
  (f_X12_has l0 s h).bind fun x1 =>
  if ¬ x1 = 0 then
  some s
  else
  self (s + 1)
def f_X12_lowest (a0 : Int32) (h : mx_Hp) : Option (Int32) :=
  mx_fix (f_X12_lowest_L2 a0 h) 2000 0
def f_X12_isSafe_L53 (l0 : Nat) (l1 : Int32) (l3 : Int32) (l5 : Int32)  : (Int32 × Int32 × Int32 × mx_Hp → Option (Int32 × mx_Hp)) → Int32 × Int32 × Int32 × mx_Hp → Option (Int32 × mx_Hp) := fun self s =>
  if l3 ≤ s.2.2.1 then
  if l5 = 0 ∨ l5 = 1 then some (l5, s.2.2.2) else none
  else
  if l5 = 0 then
  if l5 = 0 ∨ l5 = 1 then some (l5, s.2.2.2) else none
  else
  (mx_gr s.2.2.2 l0 12 2).bind fun x16 =>
  (mx_al s.2.2.2 x16 (23 + s.2.1)).bind fun x17 =>
  (if s.1 ≤ 0 then
  (mx_gr s.2.2.2 l0 12 14).bind fun x19 =>
  (mx_al s.2.2.2 x19 ((l3 - 1) - s.2.2.1)).bind fun x20 =>
  (mx_gr s.2.2.2 l0 12 14).bind fun x21 =>
  (mx_al s.2.2.2 x21 (10 + ((l3 - 1) - s.2.2.1))).bind fun x22 =>
  some (x17 &&& ((x20 &&& (((1 : Int32) <<< (l1 &&& 31)) ^^^ (-1))) ||| (x22 &&& ((1 : Int32) <<< (l1 &&& 31)))))
  else
  (mx_gr s.2.2.2 l0 12 14).bind fun x23 =>
  (mx_al s.2.2.2 x23 (10 + ((l3 - 1) - s.2.2.1))).bind fun x24 =>
  some (x17 &&& x24) : Option (Int32)).bind fun v25 =>
  (f_X12_lowest v25 s.2.2.2).bind fun x26 =>
  (if ¬ x26 = l1 then
  some s.1
  else
  some 10 : Option (Int32)).bind fun v28 =>
  (mx_gr s.2.2.2 l0 12 13).bind fun x29 =>
  (mx_as s.2.2.2 x29 s.2.2.1 x26).bind fun h30 =>
  self (v28, x26, (s.2.2.1 + 1), h30)
def f_X12_isSafe (a0 : Nat) (a1 : Int32) (a2 : Int32) (a3 : Int32) (h : mx_Hp) : Option (Int32 × mx_Hp) :=
  if a0 < h.1 ∧ (mx_lay a0).1 = 15 then
  ((f_X12_lost a0 a2 h).bind fun x1 =>
  if a0 < x1.2.1 ∧ (mx_lay a0).1 = 15 then
  ((f_X12_reckons a0 a1 x1.1 x1.2).bind fun x3 =>
  (if ¬ a2 = a1 then
  some 0
  else
  some 10 : Option (Int32)).bind fun v6 =>
  (mx_gr x3 a0 12 14).bind fun x7 =>
  (mx_al x3 x7 ((v6 + a3) - 1)).bind fun x8 =>
  (f_X12_has x8 a2 x3).bind fun x9 =>
  (mx_gr x3 a0 12 13).bind fun x10 =>
  (mx_as x3 x10 0 a2).bind fun h11 =>
  mx_fix (f_X12_isSafe_L53 a0 a1 a3 x9) 2000 (v6, a2, 1, h11))
  else none)
  else none
def f_X12_safe_L31 (l0 : Nat) (l1 : Int32) (l2 : Int32) (l3 : Int32) (k85 : Int32 × mx_Hp → Option (Int32 × mx_Hp)) (k62 : Int32 × mx_Hp → Option (Int32 × mx_Hp)) : (Int32 × mx_Hp → Option (Int32 × mx_Hp)) → Int32 × mx_Hp → Option (Int32 × mx_Hp) := fun self s =>
  (mx_gr s.2 l0 12 2).bind fun x7 =>
  (mx_al s.2 x7 0).bind fun x8 =>
  if x8 ≤ s.1 then
  k85 (s.1, s.2)
  else
  if l0 < s.2.1 ∧ (mx_lay l0).1 = 15 then
  ((f_X12_isSafe l0 l1 s.1 l3 s.2).bind fun x10 =>
  if x10.1 = 0 then
  self ((s.1 + 1), x10.2)
  else
  if ¬ l2 = (-1) then
  k62 (s.1, x10.2)
  else
  some (l3, x10.2))
  else none
def f_X12_safe_L22 (l0 : Nat) (l1 : Int32) (l2 : Int32) (k62 : Int32 × mx_Hp → Option (Int32 × mx_Hp)) : (Int32 × mx_Hp → Option (Int32 × mx_Hp)) → Int32 × mx_Hp → Option (Int32 × mx_Hp) := fun self s =>
  if 10 < s.1 then
  some ((-4), s.2)
  else
  mx_fix (f_X12_safe_L31 l0 l1 l2 s.1 (fun s21 => self ((s.1 + 1), s21.2)) (fun s22 => k62 (s.1, s22.2))) 2000 (0, s.2)
def f_X12_safe (a0 : Nat) (a1 : Int32) (a2 : Int32) (h : mx_Hp) : Option (Int32 × mx_Hp) :=
  if a0 < h.1 ∧ (mx_lay a0).1 = 15 then
  ((f_X12_isWord a0 a1 h).bind fun x1 =>
  if x1 = 0 then
  some ((-1), h)
  else
  (f_X12_in a2 (-1) 9 h).bind fun x4 =>
  if ¬ x4 = 0 then
  mx_fix (f_X12_safe_L22 a0 a1 a2 (fun s28 => (if s28.1 ≤ a2 then
  some (-4)
  else
  (mx_gr s28.2 a0 12 13).bind fun x30 =>
  (mx_al s28.2 x30 a2).bind fun x31 =>
  some x31 : Option (Int32)).bind fun v32 =>
  some (v32, s28.2))) 2000 (1, h)
  else
  some ((-1), h))
  else none
def f_X12_gainsFor_L48 (l0 : Nat) (l1 : Int32) (l2 : Int32) (l3 : Int32) (h : mx_Hp) (k155 : Int32 × Int32 → Option (mx_Hp)) : (Int32 × Int32 → Option (mx_Hp)) → Int32 × Int32 → Option (mx_Hp) := fun self s =>
  (mx_gr h l0 12 2).bind fun x10 =>
  (mx_al h x10 0).bind fun x11 =>
  if x11 ≤ s.2 then
  k155 (s.1, s.2)
  else
  (if l2 ≤ 0 then
  some 0
  else
  (f_X12_has l1 l3 h).bind fun x14 =>
  if ¬ x14 = 0 then
  some 0
  else
  (mx_gr h l0 12 2).bind fun x16 =>
  (mx_al h x16 (23 + l3)).bind fun x17 =>
  (f_X12_has x17 s.2 h).bind fun x18 =>
  if x18 = 0 then
  some 0
  else
  some 1 : Option (Int32)).bind fun v20 =>
  (if v20 = 0 then
  some (-9999)
  else
  (mx_gr h l0 12 15).bind fun x22 =>
  (mx_al h x22 ((10 * (l2 - 1)) + s.2)).bind fun x23 =>
  (mx_gr h l0 12 2).bind fun x24 =>
  (mx_al h x24 (13 + s.2)).bind fun x25 =>
  some (x23 + x25) : Option (Int32)).bind fun v26 =>
  (if v26 ≤ s.1 then
  some s.1
  else
  some v26 : Option (Int32)).bind fun v28 =>
  self (v28, (s.2 + 1))
def f_X12_gainsFor_L10 (l0 : Nat) (l1 : Int32) (l2 : Int32) (k174 : Int32 × mx_Hp → Option (mx_Hp)) : (Int32 × mx_Hp → Option (mx_Hp)) → Int32 × mx_Hp → Option (mx_Hp) := fun self s =>
  (mx_gr s.2 l0 12 2).bind fun x2 =>
  (mx_al s.2 x2 0).bind fun x3 =>
  if x3 ≤ s.1 then
  k174 (s.1, s.2)
  else
  (if ¬ l2 = 0 then
  some (-9999)
  else
  (mx_gr s.2 l0 12 2).bind fun x6 =>
  (mx_al s.2 x6 (3 + s.1)).bind fun x7 =>
  if ¬ x7 = 2 then
  some (-9999)
  else
  some 0 : Option (Int32)).bind fun v9 =>
  mx_fix (f_X12_gainsFor_L48 l0 l1 l2 s.1 s.2 (fun s48 => (mx_gr s.2 l0 12 15).bind fun x49 =>
  (mx_as s.2 x49 ((10 * l2) + s.1) s48.1).bind fun h50 =>
  self ((s.1 + 1), h50))) 2000 (v9, 0)
def f_X12_gainsFor_L2 (l0 : Nat) (l1 : Int32)  : (Int32 × mx_Hp → Option (mx_Hp)) → Int32 × mx_Hp → Option (mx_Hp) := fun self s =>
  if 10 ≤ s.1 then
  some s.2
  else
  mx_fix (f_X12_gainsFor_L10 l0 l1 s.1 (fun s63 => self ((s.1 + 1), s63.2))) 2000 (0, s.2)
def f_X12_gainsFor (a0 : Nat) (a1 : Int32) (h : mx_Hp) : Option (mx_Hp) :=
  mx_fix (f_X12_gainsFor_L2 a0 a1) 2000 (0, h)
def f_X12_best_L51 (l0 : Nat) (l2 : Int32) (l6 : Int32) (k122 : Int32 × Int32 × Int32 × Int32 × mx_Hp → Option (Int32 × mx_Hp)) : (Int32 × Int32 × Int32 × Int32 × mx_Hp → Option (Int32 × mx_Hp)) → Int32 × Int32 × Int32 × Int32 × mx_Hp → Option (Int32 × mx_Hp) := fun self s =>
  if s.2.2.2.1 < 0 then
  k122 (s.1, s.2.1, s.2.2.1, s.2.2.2.1, s.2.2.2.2)
  else
  if l0 < s.2.2.2.2.1 ∧ (mx_lay l0).1 = 15 then
  ((f_X12_lost l0 s.2.2.2.1 s.2.2.2.2).bind fun x9 =>
  if l0 < x9.2.1 ∧ (mx_lay l0).1 = 15 then
  ((f_X12_gainsFor l0 x9.1 x9.2).bind fun x11 =>
  (mx_gr x11 l0 12 15).bind fun x13 =>
  (mx_al x11 x13 ((10 * l6) + s.2.2.2.1)).bind fun x14 =>
  (mx_gr x11 l0 12 2).bind fun x15 =>
  (mx_al x11 x15 (13 + s.2.2.2.1)).bind fun x16 =>
  (if (x14 + x16) < 0 then
  some (s.1, s.2.1, s.2.2.1)
  else
  if (x14 + x16) < s.1 then
  some (s.1, s.2.1, s.2.2.1)
  else
  some ((x14 + x16), (l6 + 1), s.2.2.2.1) : Option (Int32 × Int32 × Int32)).bind fun v19 =>
  self (v19.1, v19.2.1, v19.2.2, (s.2.2.2.1 + (-1)), x11))
  else none)
  else none
def f_X12_best_L36 (l0 : Nat) (l2 : Int32) (k128 : Int32 × Int32 × Int32 × Int32 × mx_Hp → Option (Int32 × mx_Hp)) : (Int32 × Int32 × Int32 × Int32 × mx_Hp → Option (Int32 × mx_Hp)) → Int32 × Int32 × Int32 × Int32 × mx_Hp → Option (Int32 × mx_Hp) := fun self s =>
  if s.2.2.2.1 < 0 then
  k128 (s.1, s.2.1, s.2.2.1, s.2.2.2.1, s.2.2.2.2)
  else
  (mx_gr s.2.2.2.2 l0 12 2).bind fun x6 =>
  (mx_al s.2.2.2.2 x6 0).bind fun x7 =>
  mx_fix (f_X12_best_L51 l0 l2 s.2.2.2.1 (fun s32 => self (s32.1, s32.2.1, s32.2.2.1, (s.2.2.2.1 + (-1)), s32.2.2.2.2))) 2000 (s.1, s.2.1, s.2.2.1, (x7 - 1), s.2.2.2.2)
def f_X12_best_L216 (l0 : Nat) (l2 : Int32) (l4 : Int32) (l6 : Int32) (l7 : Int32) (l8 : Int32) (l9 : Int32) (h : mx_Hp) (k269 : Int32 → Option (Int32 × mx_Hp)) : (Int32 → Option (Int32 × mx_Hp)) → Int32 → Option (Int32 × mx_Hp) := fun self s =>
  (mx_gr h l0 12 2).bind fun x55 =>
  (mx_al h x55 (23 + l6)).bind fun x56 =>
  (f_X12_has x56 s h).bind fun x57 =>
  if x57 = 0 then
  self (s + 1)
  else
  (mx_gr h l0 12 15).bind fun x59 =>
  (mx_al h x59 ((10 * l8) + s)).bind fun x60 =>
  (mx_gr h l0 12 2).bind fun x61 =>
  (mx_al h x61 (13 + s)).bind fun x62 =>
  if (x60 + x62) = l9 then
  k269 s
  else
  self (s + 1)
def f_X12_best_L174 (l0 : Nat) (l2 : Int32) (l4 : Int32) (h : mx_Hp) (k279 : Int32 × Int32 → Option (Int32 × mx_Hp)) : (Int32 × Int32 → Option (Int32 × mx_Hp)) → Int32 × Int32 → Option (Int32 × mx_Hp) := fun self s =>
  if l2 < s.2 then
  k279 (s.1, s.2)
  else
  if l4 ≤ s.2 then
  k279 (s.1, s.2)
  else
  (mx_gr h l0 12 15).bind fun x53 =>
  (mx_al h x53 ((10 * (((l4 - 1) - s.2) + 1)) + s.1)).bind fun x54 =>
  mx_fix (f_X12_best_L216 l0 l2 l4 s.1 s.2 ((l4 - 1) - s.2) x54 h (fun s73 => self (s73, (s.2 + 1)))) 2000 0
def f_X12_best (a0 : Nat) (a1 : Int32) (a2 : Int32) (h : mx_Hp) : Option (Int32 × mx_Hp) :=
  (f_X12_in a1 1 10 h).bind fun x1 =>
  if x1 = 0 then
  some ((-1), h)
  else
  (f_X12_in a2 (-2) 9 h).bind fun x3 =>
  if ¬ x3 = 0 then
  mx_fix (f_X12_best_L36 a0 a2 (fun s41 => if s41.1 < 0 then
  (if 0 ≤ s41.1 then
  if ¬ a2 = (-1) then
  some s41.2.1
  else
  some s41.1
  else
  some (-4) : Option (Int32)).bind fun v45 =>
  some (v45, s41.2.2.2.2)
  else
  if 0 ≤ a2 then
  if a0 < s41.2.2.2.2.1 ∧ (mx_lay a0).1 = 15 then
  ((f_X12_lost a0 s41.2.2.1 s41.2.2.2.2).bind fun x47 =>
  if a0 < x47.2.1 ∧ (mx_lay a0).1 = 15 then
  ((f_X12_gainsFor a0 x47.1 x47.2).bind fun x49 =>
  mx_fix (f_X12_best_L174 a0 a2 s41.2.1 x49 (fun s79 => (if s41.2.1 ≤ a2 then
  some (-4)
  else
  some s79.1 : Option (Int32)).bind fun v81 =>
  some (v81, x49))) 2000 (s41.2.2.1, 1))
  else none)
  else none
  else
  (if 0 ≤ s41.1 then
  if ¬ a2 = (-1) then
  some s41.2.1
  else
  some s41.1
  else
  some (-4) : Option (Int32)).bind fun v84 =>
  some (v84, s41.2.2.2.2))) 2000 ((-1), 0, 0, (a1 - 1), h)
  else
  some ((-1), h)
def f_X12_isLure_L51 (l0 : Nat) (l1 : Int32) (l2 : Int32) (l3 : Int32) (l4 : Int32) (l5 : Int32) (l6 : Int32) (l7 : Int32) (h : mx_Hp) (k87 : Int32 × Int32 → Option (Int32 × mx_Hp)) : (Int32 × Int32 → Option (Int32 × mx_Hp)) → Int32 × Int32 → Option (Int32 × mx_Hp) := fun self s =>
  if l7 ≤ s.2 then
  k87 (s.1, s.2)
  else
  (if ¬ s.1 = 0 then
  some 1
  else
  (mx_gr h l0 12 13).bind fun x14 =>
  (mx_al h x14 s.2).bind fun x15 =>
  if ¬ x15 = l1 then
  some 0
  else
  some 1 : Option (Int32)).bind fun v17 =>
  self (v17, (s.2 + 1))
def f_X12_isLure_L24 (l0 : Nat) (l1 : Int32) (l2 : Int32) (l3 : Int32) (l4 : Int32) (l5 : Int32) (k115 : Int32 × mx_Hp → Option (Int32 × mx_Hp)) : (Int32 × mx_Hp → Option (Int32 × mx_Hp)) → Int32 × mx_Hp → Option (Int32 × mx_Hp) := fun self s =>
  (mx_gr s.2 l0 12 2).bind fun x7 =>
  (mx_al s.2 x7 0).bind fun x8 =>
  if x8 ≤ s.1 then
  k115 (s.1, s.2)
  else
  if l0 < s.2.1 ∧ (mx_lay l0).1 = 15 then
  ((f_X12_finishes l0 s.1 l5 s.2).bind fun x10 =>
  mx_fix (f_X12_isLure_L51 l0 l1 l2 l3 l4 l5 s.1 x10.1 x10.2 (fun s24 => (mx_gr x10.2 l0 12 14).bind fun x25 =>
  (mx_al x10.2 x25 0).bind fun x26 =>
  (if s24.1 = 0 then
  some 0
  else
  some ((1 : Int32) <<< (s.1 &&& 31)) : Option (Int32)).bind fun v28 =>
  (mx_as x10.2 x25 0 (x26 ||| v28)).bind fun h29 =>
  self ((s.1 + 1), h29))) 2000 (0, 0))
  else none
def f_X12_isLure_L135 (l0 : Nat) (l2 : Int32) (l3 : Int32) (l4 : Int32) (l6 : Int32) (k203 : Int32 × mx_Hp → Option (Int32 × mx_Hp)) : (Int32 × mx_Hp → Option (Int32 × mx_Hp)) → Int32 × mx_Hp → Option (Int32 × mx_Hp) := fun self s =>
  (mx_gr s.2 l0 12 2).bind fun x46 =>
  (mx_al s.2 x46 0).bind fun x47 =>
  if x47 ≤ s.1 then
  k203 (s.1, s.2)
  else
  (mx_gr s.2 l0 12 14).bind fun x49 =>
  (mx_al s.2 x49 l6).bind fun x50 =>
  (f_X12_has l4 s.1 s.2).bind fun x51 =>
  (if ¬ x51 = 0 then
  some 0
  else
  (mx_gr s.2 l0 12 2).bind fun x53 =>
  (mx_al s.2 x53 (23 + s.1)).bind fun x54 =>
  (mx_gr s.2 l0 12 14).bind fun x55 =>
  (mx_al s.2 x55 (l6 - 1)).bind fun x56 =>
  if (x54 &&& x56) = 0 then
  some 0
  else
  some ((1 : Int32) <<< (s.1 &&& 31)) : Option (Int32)).bind fun v58 =>
  (mx_as s.2 x49 l6 (x50 ||| v58)).bind fun h59 =>
  self ((s.1 + 1), h59)
def f_X12_isLure_L118 (l0 : Nat) (l2 : Int32) (l3 : Int32) (l4 : Int32) (k209 : Int32 × mx_Hp → Option (Int32 × mx_Hp)) : (Int32 × mx_Hp → Option (Int32 × mx_Hp)) → Int32 × mx_Hp → Option (Int32 × mx_Hp) := fun self s =>
  if l3 ≤ s.1 then
  k209 (s.1, s.2)
  else
  (mx_gr s.2 l0 12 14).bind fun x44 =>
  (mx_as s.2 x44 s.1 0).bind fun h45 =>
  mx_fix (f_X12_isLure_L135 l0 l2 l3 l4 s.1 (fun s74 => self ((s.1 + 1), s74.2))) 2000 (0, h45)
def f_X12_isLure_L233 (l0 : Nat) (l3 : Int32) (l6 : Int32)  : (Int32 × mx_Hp → Option (Int32 × mx_Hp)) → Int32 × mx_Hp → Option (Int32 × mx_Hp) := fun self s =>
  if l3 ≤ s.1 then
  if l6 = 0 ∨ l6 = 1 then some (l6, s.2) else none
  else
  if l6 = 0 then
  if l6 = 0 ∨ l6 = 1 then some (l6, s.2) else none
  else
  (mx_gr s.2 l0 12 16).bind fun x90 =>
  (mx_gr s.2 l0 12 2).bind fun x91 =>
  (mx_gr s.2 l0 12 16).bind fun x92 =>
  (mx_al s.2 x92 (s.1 - 1)).bind fun x93 =>
  (mx_al s.2 x91 (23 + x93)).bind fun x94 =>
  (mx_gr s.2 l0 12 14).bind fun x95 =>
  (mx_al s.2 x95 ((l3 - 1) - s.1)).bind fun x96 =>
  (f_X12_lowest (x94 &&& x96) s.2).bind fun x97 =>
  (mx_as s.2 x90 s.1 x97).bind fun h98 =>
  self ((s.1 + 1), h98)
def f_X12_isLure (a0 : Nat) (a1 : Int32) (a2 : Int32) (a3 : Int32) (h : mx_Hp) : Option (Int32 × mx_Hp) :=
  if a0 < h.1 ∧ (mx_lay a0).1 = 15 then
  ((f_X12_lost a0 a2 h).bind fun x1 =>
  if a0 < x1.2.1 ∧ (mx_lay a0).1 = 15 then
  ((f_X12_knowsFor a0 a2 x1.2).bind fun x3 =>
  (mx_gr x1.2 a0 12 14).bind fun x5 =>
  (mx_as x1.2 x5 0 0).bind fun h6 =>
  mx_fix (f_X12_isLure_L24 a0 a1 a2 a3 x1.1 x3 (fun s42 => mx_fix (f_X12_isLure_L118 a0 a2 a3 x1.1 (fun s80 => (mx_gr s80.2 a0 12 14).bind fun x81 =>
  (mx_al s80.2 x81 (a3 - 1)).bind fun x82 =>
  (f_X12_has x82 a2 s80.2).bind fun x83 =>
  (mx_gr s80.2 a0 12 16).bind fun x84 =>
  (mx_as s80.2 x84 0 a2).bind fun h85 =>
  mx_fix (f_X12_isLure_L233 a0 a3 x83) 2000 (1, h85))) 2000 (1, s42.2))) 2000 (0, h6))
  else none)
  else none
def f_X12_lure_L31 (l0 : Nat) (l1 : Int32) (l2 : Int32) (l3 : Int32) (k85 : Int32 × mx_Hp → Option (Int32 × mx_Hp)) (k62 : Int32 × mx_Hp → Option (Int32 × mx_Hp)) : (Int32 × mx_Hp → Option (Int32 × mx_Hp)) → Int32 × mx_Hp → Option (Int32 × mx_Hp) := fun self s =>
  (mx_gr s.2 l0 12 2).bind fun x7 =>
  (mx_al s.2 x7 0).bind fun x8 =>
  if x8 ≤ s.1 then
  k85 (s.1, s.2)
  else
  if l0 < s.2.1 ∧ (mx_lay l0).1 = 15 then
  ((f_X12_isLure l0 l1 s.1 l3 s.2).bind fun x10 =>
  if x10.1 = 0 then
  self ((s.1 + 1), x10.2)
  else
  if ¬ l2 = (-1) then
  k62 (s.1, x10.2)
  else
  some (l3, x10.2))
  else none
def f_X12_lure_L22 (l0 : Nat) (l1 : Int32) (l2 : Int32) (k62 : Int32 × mx_Hp → Option (Int32 × mx_Hp)) : (Int32 × mx_Hp → Option (Int32 × mx_Hp)) → Int32 × mx_Hp → Option (Int32 × mx_Hp) := fun self s =>
  if 10 < s.1 then
  some ((-4), s.2)
  else
  mx_fix (f_X12_lure_L31 l0 l1 l2 s.1 (fun s21 => self ((s.1 + 1), s21.2)) (fun s22 => k62 (s.1, s22.2))) 2000 (0, s.2)
def f_X12_lure (a0 : Nat) (a1 : Int32) (a2 : Int32) (h : mx_Hp) : Option (Int32 × mx_Hp) :=
  if a0 < h.1 ∧ (mx_lay a0).1 = 15 then
  ((f_X12_isWord a0 a1 h).bind fun x1 =>
  if x1 = 0 then
  some ((-1), h)
  else
  (f_X12_in a2 (-1) 9 h).bind fun x4 =>
  if ¬ x4 = 0 then
  mx_fix (f_X12_lure_L22 a0 a1 a2 (fun s28 => (if s28.1 ≤ a2 then
  some (-4)
  else
  (mx_gr s28.2 a0 12 16).bind fun x30 =>
  (mx_al s28.2 x30 a2).bind fun x31 =>
  some x31 : Option (Int32)).bind fun v32 =>
  some (v32, s28.2))) 2000 (1, h)
  else
  some ((-1), h))
  else none
def f_X12_sitting_L33 (l0 : Nat) (l1 : Int32) (l2 : Int32) (l3 : Int32) (l4 : Int32) (h : mx_Hp) (k114 : Int32 × Int32 × Int32 → Option (Int32)) : (Int32 × Int32 × Int32 → Option (Int32)) → Int32 × Int32 × Int32 → Option (Int32) := fun self s =>
  (mx_gr h l0 12 2).bind fun x5 =>
  (mx_al h x5 0).bind fun x6 =>
  if x6 ≤ s.2.2 then
  k114 (s.1, s.2.1, s.2.2)
  else
  (mx_gr h l0 12 2).bind fun x8 =>
  (mx_al h x8 (23 + s.2.2)).bind fun x9 =>
  if l0 < h.1 ∧ (mx_lay l0).1 = 15 then
  ((f_X12_stops l0 h).bind fun x10 =>
  (if (x9 &&& (x10 ||| l3)) = 0 then
  some 0
  else
  some ((1 : Int32) <<< (s.2.2 &&& 31)) : Option (Int32)).bind fun v13 =>
  if l0 < h.1 ∧ (mx_lay l0).1 = 15 then
  ((f_X12_stops l0 h).bind fun x14 =>
  (if ¬ (x9 &&& (x14 ||| (l2 ^^^ (-1)))) = 0 then
  some 0
  else
  some ((1 : Int32) <<< (s.2.2 &&& 31)) : Option (Int32)).bind fun v17 =>
  self ((s.1 ||| v13), (s.2.1 ||| v17), (s.2.2 + 1)))
  else none)
  else none
def f_X12_sitting_L17 (l0 : Nat) (l1 : Int32) (h : mx_Hp) (k126 : Int32 × Int32 × Int32 → Option (Int32)) : (Int32 × Int32 × Int32 → Option (Int32)) → Int32 × Int32 × Int32 → Option (Int32) := fun self s =>
  if 20 ≤ s.2.2 then
  k126 (s.1, s.2.1, s.2.2)
  else
  mx_fix (f_X12_sitting_L33 l0 l1 s.1 s.2.1 s.2.2 h (fun s31 => self (s31.1, s31.2.1, (s.2.2 + 1)))) 2000 (s.1, s.2.1, 0)
def f_X12_sitting (a0 : Nat) (a1 : Int32) (h : mx_Hp) : Option (Int32) :=
  if a0 < h.1 ∧ (mx_lay a0).1 = 15 then
  ((f_X12_isWord a0 a1 h).bind fun x1 =>
  if ¬ x1 = 0 then
  mx_fix (f_X12_sitting_L17 a0 a1 h (fun s36 => (f_X12_has s36.1 a1 h).bind fun x37 =>
  (if x37 = 0 then
  (f_X12_has s36.2.1 a1 h).bind fun x39 =>
  if x39 = 0 then
  some 0
  else
  some 2
  else
  some 1 : Option (Int32)).bind fun v41 =>
  some v41)) 2000 (0, 0, 0)
  else
  some (-1))
  else none
def f_X12_ways_L56 (l0 : Nat) (l1 : Int32) (l2 : Int32) (l3 : Int32) (l4 : Int32) (l5 : Int32) (k92 : Int32 × mx_Hp → Option (Int32 × mx_Hp)) : (Int32 × mx_Hp → Option (Int32 × mx_Hp)) → Int32 × mx_Hp → Option (Int32 × mx_Hp) := fun self s =>
  (mx_gr s.2 l0 12 2).bind fun x12 =>
  (mx_al s.2 x12 0).bind fun x13 =>
  if x13 ≤ s.1 then
  k92 (s.1, s.2)
  else
  (mx_gr s.2 l0 12 17).bind fun x15 =>
  (if ¬ s.1 = l4 then
  some 0
  else
  some 1 : Option (Int32)).bind fun v17 =>
  (mx_as s.2 x15 s.1 v17).bind fun h18 =>
  self ((s.1 + 1), h18)
def f_X12_ways_L126 (l0 : Nat) (l1 : Int32) (l2 : Int32) (l3 : Int32) (l4 : Int32) (l5 : Int32) (l6 : Int32) (l7 : Int32) (k192 : Int32 × mx_Hp → Option (Int32 × mx_Hp)) : (Int32 × mx_Hp → Option (Int32 × mx_Hp)) → Int32 × mx_Hp → Option (Int32 × mx_Hp) := fun self s =>
  (mx_gr s.2 l0 12 2).bind fun x33 =>
  (mx_al s.2 x33 0).bind fun x34 =>
  if x34 ≤ s.1 then
  k192 (s.1, s.2)
  else
  (mx_gr s.2 l0 12 18).bind fun x36 =>
  (mx_al s.2 x36 l7).bind fun x37 =>
  (mx_gr s.2 l0 12 2).bind fun x38 =>
  (mx_al s.2 x38 (23 + s.1)).bind fun x39 =>
  (f_X12_has x39 l7 s.2).bind fun x40 =>
  (if x40 = 0 then
  some 0
  else
  (f_X12_has l5 s.1 s.2).bind fun x42 =>
  if ¬ x42 = 0 then
  some 0
  else
  (mx_gr s.2 l0 12 17).bind fun x44 =>
  (mx_al s.2 x44 s.1).bind fun x45 =>
  some x45 : Option (Int32)).bind fun v46 =>
  (mx_as s.2 x36 l7 (x37 + v46)).bind fun h47 =>
  self ((s.1 + 1), h47)
def f_X12_ways_L104 (l0 : Nat) (l1 : Int32) (l2 : Int32) (l3 : Int32) (l4 : Int32) (l5 : Int32) (l6 : Int32) (k198 : Int32 × mx_Hp → Option (Int32 × mx_Hp)) : (Int32 × mx_Hp → Option (Int32 × mx_Hp)) → Int32 × mx_Hp → Option (Int32 × mx_Hp) := fun self s =>
  (mx_gr s.2 l0 12 2).bind fun x28 =>
  (mx_al s.2 x28 0).bind fun x29 =>
  if x29 ≤ s.1 then
  k198 (s.1, s.2)
  else
  (mx_gr s.2 l0 12 18).bind fun x31 =>
  (mx_as s.2 x31 s.1 0).bind fun h32 =>
  mx_fix (f_X12_ways_L126 l0 l1 l2 l3 l4 l5 l6 s.1 (fun s63 => self ((s.1 + 1), s63.2))) 2000 (0, h32)
def f_X12_ways_L201 (l0 : Nat) (l1 : Int32) (l2 : Int32) (l3 : Int32) (l4 : Int32) (l5 : Int32) (l6 : Int32) (k232 : Int32 × mx_Hp → Option (Int32 × mx_Hp)) : (Int32 × mx_Hp → Option (Int32 × mx_Hp)) → Int32 × mx_Hp → Option (Int32 × mx_Hp) := fun self s =>
  (mx_gr s.2 l0 12 2).bind fun x72 =>
  (mx_al s.2 x72 0).bind fun x73 =>
  if x73 ≤ s.1 then
  k232 (s.1, s.2)
  else
  (mx_gr s.2 l0 12 17).bind fun x75 =>
  (mx_gr s.2 l0 12 18).bind fun x76 =>
  (mx_al s.2 x76 s.1).bind fun x77 =>
  (mx_as s.2 x75 s.1 x77).bind fun h78 =>
  self ((s.1 + 1), h78)
def f_X12_ways_L95 (l0 : Nat) (l1 : Int32) (l2 : Int32) (l3 : Int32) (l4 : Int32) (l5 : Int32) (k238 : Int32 × mx_Hp → Option (Int32 × mx_Hp)) : (Int32 × mx_Hp → Option (Int32 × mx_Hp)) → Int32 × mx_Hp → Option (Int32 × mx_Hp) := fun self s =>
  if l1 ≤ s.1 then
  k238 (s.1, s.2)
  else
  mx_fix (f_X12_ways_L104 l0 l1 l2 l3 l4 l5 s.1 (fun s71 => mx_fix (f_X12_ways_L201 l0 l1 l2 l3 l4 l5 s.1 (fun s86 => self ((s.1 + 1), s86.2))) 2000 (0, s71.2))) 2000 (0, s.2)
def f_X12_ways_L241 (l0 : Nat) (l1 : Int32) (l2 : Int32) (l4 : Int32) (h : mx_Hp) (k285 : Int32 × Int32 → Option (Int32 × mx_Hp)) : (Int32 × Int32 → Option (Int32 × mx_Hp)) → Int32 × Int32 → Option (Int32 × mx_Hp) := fun self s =>
  (mx_gr h l0 12 2).bind fun x93 =>
  (mx_al h x93 0).bind fun x94 =>
  if x94 ≤ s.2 then
  k285 (s.1, s.2)
  else
  (mx_gr h l0 12 2).bind fun x96 =>
  (mx_al h x96 (3 + s.2)).bind fun x97 =>
  (if ¬ x97 = 2 then
  some 0
  else
  (mx_gr h l0 12 17).bind fun x99 =>
  (mx_al h x99 s.2).bind fun x100 =>
  some x100 : Option (Int32)).bind fun v101 =>
  self ((s.1 + v101), (s.2 + 1))
def f_X12_ways_L26 (l0 : Nat) (l1 : Int32) (l2 : Int32)  : (Int32 × Int32 × mx_Hp → Option (Int32 × mx_Hp)) → Int32 × Int32 × mx_Hp → Option (Int32 × mx_Hp) := fun self s =>
  (mx_gr s.2.2 l0 12 2).bind fun x5 =>
  (mx_al s.2.2 x5 0).bind fun x6 =>
  if x6 ≤ s.2.1 then
  some (s.1, s.2.2)
  else
  (if ¬ l2 = 0 then
  if l0 < s.2.2.1 ∧ (mx_lay l0).1 = 15 then
  ((f_X12_lost l0 s.2.1 s.2.2).bind fun x9 =>
  some (x9.1, x9.2))
  else none
  else
  some (0, s.2.2) : Option (Int32 × mx_Hp)).bind fun v11 =>
  mx_fix (f_X12_ways_L56 l0 l1 l2 s.1 s.2.1 v11.1 (fun s26 => mx_fix (f_X12_ways_L95 l0 l1 l2 s.1 s.2.1 v11.1 (fun s92 => mx_fix (f_X12_ways_L241 l0 l1 l2 s.2.1 s92.2 (fun s111 => self (s111.1, (s.2.1 + 1), s92.2))) 2000 (s.1, 0))) 2000 (1, s26.2))) 2000 (0, v11.2)
def f_X12_ways (a0 : Nat) (a1 : Int32) (a2 : Int32) (h : mx_Hp) : Option (Int32 × mx_Hp) :=
  (f_X12_in a1 1 8 h).bind fun x1 =>
  if x1 = 0 then
  some ((-1), h)
  else
  (f_X12_in a2 0 1 h).bind fun x3 =>
  if ¬ x3 = 0 then
  mx_fix (f_X12_ways_L26 a0 a1 a2) 2000 (0, 0, h)
  else
  some ((-1), h)
def f_X12_seen (a0 : Nat) (a1 : Int32) (a2 : Int32) (h : mx_Hp) : Option (Int32 × mx_Hp) :=
  if a0 < h.1 ∧ (mx_lay a0).1 = 15 then
  ((f_X12_isWord a0 a1 h).bind fun x1 =>
  if x1 = 0 then
  some ((-1), h)
  else
  (f_X12_in a2 0 1 h).bind fun x4 =>
  if ¬ x4 = 0 then
  (mx_gi h a0 12 10).bind fun x6 =>
  if ¬ x6 = 8 then
  (mx_gr h a0 12 9).bind fun x8 =>
  (mx_gi h a0 12 10).bind fun x9 =>
  (mx_as h x8 x9 ((2 * a1) + a2)).bind fun h10 =>
  (mx_gi h10 a0 12 10).bind fun x11 =>
  (mx_pi h10 a0 12 10 (x11 + 1)).bind fun h12 =>
  (mx_gi h12 a0 12 10).bind fun x13 =>
  some (x13, h12)
  else
  some ((-3), h)
  else
  some ((-1), h))
  else none
def f_X12_forget (a0 : Nat) (h : mx_Hp) : Option (Int32 × mx_Hp) :=
  (mx_gi h a0 12 10).bind fun x1 =>
  (mx_pi h a0 12 10 0).bind fun h2 =>
  some (x1, h2)
def f_X12_guessed_L39 (l0 : Nat) (l1 : Int32) (l2 : Int32) (l3 : Int32) (l4 : Int32) (l5 : Int32) (k110 : Int32 × Int32 × mx_Hp → Option (Int32 × mx_Hp)) : (Int32 × Int32 × mx_Hp → Option (Int32 × mx_Hp)) → Int32 × Int32 × mx_Hp → Option (Int32 × mx_Hp) := fun self s =>
  (mx_gi s.2.2 l0 12 10).bind fun x8 =>
  if x8 ≤ s.2.1 then
  k110 (s.1, s.2.1, s.2.2)
  else
  if s.1 = 0 then
  k110 (s.1, s.2.1, s.2.2)
  else
  (mx_gr s.2.2 l0 12 9).bind fun x11 =>
  (mx_al s.2.2 x11 s.2.1).bind fun x12 =>
  if (2 : Int32) = 0 then none else
  if l0 < s.2.2.1 ∧ (mx_lay l0).1 = 15 then
  ((f_X12_finishes l0 (x12 / 2) l5 s.2.2).bind fun x14 =>
  (if x14.1 ≤ 0 then
  some 0
  else
  some 1 : Option (Int32)).bind fun v17 =>
  (mx_gr x14.2 l0 12 9).bind fun x18 =>
  (mx_al x14.2 x18 s.2.1).bind fun x19 =>
  if (2 : Int32) = 0 then none else
  (if ¬ (x19 - x19 / 2 * 2) = 1 then
  some 0
  else
  some 1 : Option (Int32)).bind fun v22 =>
  (if ¬ v17 = v22 then
  some 0
  else
  some 1 : Option (Int32)).bind fun v24 =>
  self (v24, (s.2.1 + 1), x14.2))
  else none
def f_X12_guessed_L24 (l0 : Nat) (l1 : Int32) (k159 : Int32 × Int32 × Int32 × Int32 × mx_Hp → Option (Int32 × mx_Hp)) : (Int32 × Int32 × Int32 × Int32 × mx_Hp → Option (Int32 × mx_Hp)) → Int32 × Int32 × Int32 × Int32 × mx_Hp → Option (Int32 × mx_Hp) := fun self s =>
  if l0 < s.2.2.2.2.1 ∧ (mx_lay l0).1 = 15 then
  ((f_X12_all l0 s.2.2.2.2).bind fun x5 =>
  if x5 < s.2.2.2.1 then
  k159 (s.1, s.2.1, s.2.2.1, s.2.2.2.1, s.2.2.2.2)
  else
  mx_fix (f_X12_guessed_L39 l0 l1 s.1 s.2.1 s.2.2.1 s.2.2.2.1 (fun s42 => (if s42.1 = 0 then
  some 0
  else
  some 1 : Option (Int32)).bind fun v44 =>
  (if s42.1 = 0 then
  some (-1)
  else
  some s.2.2.2.1 : Option (Int32)).bind fun v46 =>
  (if s42.1 = 0 then
  some 0
  else
  some s.2.2.2.1 : Option (Int32)).bind fun v48 =>
  self ((s.1 + v44), (s.2.1 &&& v46), (s.2.2.1 ||| v48), (s.2.2.2.1 + 1), s42.2.2))) 2000 (1, 0, s.2.2.2.2))
  else none
def f_X12_guessed (a0 : Nat) (a1 : Int32) (h : mx_Hp) : Option (Int32 × mx_Hp) :=
  (f_X12_in a1 0 2 h).bind fun x1 =>
  if ¬ x1 = 0 then
  if a0 < h.1 ∧ (mx_lay a0).1 = 15 then
  ((f_X12_all a0 h).bind fun x3 =>
  mx_fix (f_X12_guessed_L24 a0 a1 (fun s61 => (if ¬ a1 = 0 then
  if ¬ s61.1 = 0 then
  if ¬ a1 = 1 then
  some s61.2.2.1
  else
  some s61.2.1
  else
  some (-4)
  else
  some s61.1 : Option (Int32)).bind fun v65 =>
  some (v65, s61.2.2.2.2))) 2000 (0, x3, 0, 0, h))
  else none
  else
  some ((-1), h)
def f_X12_turn (a0 : Nat) (a1 : Int32) (h : mx_Hp) : Option (mx_Hp) :=
  (mx_gr h a0 12 2).bind fun x1 =>
  (mx_al h x1 0).bind fun x2 =>
  if (x2 : Int32) = 0 then none else
  if (64 : Int32) = 0 then none else
  if (3 : Int32) = 0 then none else
  (if ¬ ((a1 / 64) - (a1 / 64) / 3 * 3) = 0 then
  if ¬ ((a1 / 64) - (a1 / 64) / 3 * 3) = 1 then
  if a0 < h.1 ∧ (mx_lay a0).1 = 15 then
  ((f_X12_maySay a0 (a1 - a1 / x2 * x2) h).bind fun x8 =>
  if x8 = 0 then
  (mx_gr h a0 12 4).bind fun x11 =>
  (mx_al h x11 12).bind fun x12 =>
  if x12 ≤ 0 then
  some h
  else
  if a0 < h.1 ∧ (mx_lay a0).1 = 15 then
  ((f_X12_drops a0 h).bind fun x14 =>
  some x14)
  else none
  else
  (mx_gr h a0 12 4).bind fun x16 =>
  (mx_al h x16 12).bind fun x17 =>
  if 12 ≤ x17 then
  (mx_gr h a0 12 4).bind fun x19 =>
  (mx_al h x19 12).bind fun x20 =>
  if x20 ≤ 0 then
  some h
  else
  if a0 < h.1 ∧ (mx_lay a0).1 = 15 then
  ((f_X12_drops a0 h).bind fun x22 =>
  some x22)
  else none
  else
  if a0 < h.1 ∧ (mx_lay a0).1 = 15 then
  ((f_X12_says a0 (a1 - a1 / x2 * x2) h).bind fun x24 =>
  some x24)
  else none)
  else none
  else
  if a0 < h.1 ∧ (mx_lay a0).1 = 15 then
  ((f_X12_mayEnd a0 h).bind fun x26 =>
  if x26 = 0 then
  if a0 < h.1 ∧ (mx_lay a0).1 = 15 then
  ((f_X12_maySay a0 (a1 - a1 / x2 * x2) h).bind fun x29 =>
  if x29 = 0 then
  (mx_gr h a0 12 4).bind fun x32 =>
  (mx_al h x32 12).bind fun x33 =>
  if x33 ≤ 0 then
  some h
  else
  if a0 < h.1 ∧ (mx_lay a0).1 = 15 then
  ((f_X12_drops a0 h).bind fun x35 =>
  some x35)
  else none
  else
  (mx_gr h a0 12 4).bind fun x37 =>
  (mx_al h x37 12).bind fun x38 =>
  if 12 ≤ x38 then
  (mx_gr h a0 12 4).bind fun x40 =>
  (mx_al h x40 12).bind fun x41 =>
  if x41 ≤ 0 then
  some h
  else
  if a0 < h.1 ∧ (mx_lay a0).1 = 15 then
  ((f_X12_drops a0 h).bind fun x43 =>
  some x43)
  else none
  else
  if a0 < h.1 ∧ (mx_lay a0).1 = 15 then
  ((f_X12_says a0 (a1 - a1 / x2 * x2) h).bind fun x45 =>
  some x45)
  else none)
  else none
  else
  (mx_gr h a0 12 4).bind fun x47 =>
  (mx_al h x47 13).bind fun x48 =>
  if a0 < h.1 ∧ (mx_lay a0).1 = 15 then
  ((f_X12_worthNow a0 h).bind fun x49 =>
  if a0 < h.1 ∧ (mx_lay a0).1 = 15 then
  ((f_X12_decrees a0 x48 x49 h).bind fun x51 =>
  some x51)
  else none)
  else none)
  else none
  else
  if a0 < h.1 ∧ (mx_lay a0).1 = 15 then
  ((f_X12_finishesNow a0 h).bind fun x53 =>
  if x53.1 ≤ 0 then
  if ¬ ((a1 / 64) - (a1 / 64) / 3 * 3) = 1 then
  if a0 < x53.2.1 ∧ (mx_lay a0).1 = 15 then
  ((f_X12_maySay a0 (a1 - a1 / x2 * x2) x53.2).bind fun x57 =>
  if x57 = 0 then
  (mx_gr x53.2 a0 12 4).bind fun x60 =>
  (mx_al x53.2 x60 12).bind fun x61 =>
  if x61 ≤ 0 then
  some x53.2
  else
  if a0 < x53.2.1 ∧ (mx_lay a0).1 = 15 then
  ((f_X12_drops a0 x53.2).bind fun x63 =>
  some x63)
  else none
  else
  (mx_gr x53.2 a0 12 4).bind fun x65 =>
  (mx_al x53.2 x65 12).bind fun x66 =>
  if 12 ≤ x66 then
  (mx_gr x53.2 a0 12 4).bind fun x68 =>
  (mx_al x53.2 x68 12).bind fun x69 =>
  if x69 ≤ 0 then
  some x53.2
  else
  if a0 < x53.2.1 ∧ (mx_lay a0).1 = 15 then
  ((f_X12_drops a0 x53.2).bind fun x71 =>
  some x71)
  else none
  else
  if a0 < x53.2.1 ∧ (mx_lay a0).1 = 15 then
  ((f_X12_says a0 (a1 - a1 / x2 * x2) x53.2).bind fun x73 =>
  some x73)
  else none)
  else none
  else
  if a0 < x53.2.1 ∧ (mx_lay a0).1 = 15 then
  ((f_X12_mayEnd a0 x53.2).bind fun x75 =>
  if x75 = 0 then
  if a0 < x53.2.1 ∧ (mx_lay a0).1 = 15 then
  ((f_X12_maySay a0 (a1 - a1 / x2 * x2) x53.2).bind fun x78 =>
  if x78 = 0 then
  (mx_gr x53.2 a0 12 4).bind fun x81 =>
  (mx_al x53.2 x81 12).bind fun x82 =>
  if x82 ≤ 0 then
  some x53.2
  else
  if a0 < x53.2.1 ∧ (mx_lay a0).1 = 15 then
  ((f_X12_drops a0 x53.2).bind fun x84 =>
  some x84)
  else none
  else
  (mx_gr x53.2 a0 12 4).bind fun x86 =>
  (mx_al x53.2 x86 12).bind fun x87 =>
  if 12 ≤ x87 then
  (mx_gr x53.2 a0 12 4).bind fun x89 =>
  (mx_al x53.2 x89 12).bind fun x90 =>
  if x90 ≤ 0 then
  some x53.2
  else
  if a0 < x53.2.1 ∧ (mx_lay a0).1 = 15 then
  ((f_X12_drops a0 x53.2).bind fun x92 =>
  some x92)
  else none
  else
  if a0 < x53.2.1 ∧ (mx_lay a0).1 = 15 then
  ((f_X12_says a0 (a1 - a1 / x2 * x2) x53.2).bind fun x94 =>
  some x94)
  else none)
  else none
  else
  (mx_gr x53.2 a0 12 4).bind fun x96 =>
  (mx_al x53.2 x96 13).bind fun x97 =>
  if a0 < x53.2.1 ∧ (mx_lay a0).1 = 15 then
  ((f_X12_worthNow a0 x53.2).bind fun x98 =>
  if a0 < x53.2.1 ∧ (mx_lay a0).1 = 15 then
  ((f_X12_decrees a0 x97 x98 x53.2).bind fun x100 =>
  some x100)
  else none)
  else none)
  else none
  else
  if a0 < x53.2.1 ∧ (mx_lay a0).1 = 15 then
  ((f_X12_ends a0 x53.2).bind fun x102 =>
  some x102.2)
  else none)
  else none : Option (mx_Hp)).bind fun v104 =>
  some v104
def f_X12_council_L35 (l0 : Nat) (l1 : Int32) (l2 : Int32) (l3 : Int32) (k62 : Int32 × mx_Hp → Option (Int32 × mx_Hp)) : (Int32 × mx_Hp → Option (Int32 × mx_Hp)) → Int32 × mx_Hp → Option (Int32 × mx_Hp) := fun self s =>
  if 22 ≤ s.1 then
  k62 (s.1, s.2)
  else
  (mx_gr s.2 l0 12 19).bind fun x8 =>
  (mx_gr s.2 l0 12 4).bind fun x9 =>
  (mx_al s.2 x9 s.1).bind fun x10 =>
  (mx_as s.2 x8 s.1 x10).bind fun h11 =>
  self ((s.1 + 1), h11)
def f_X12_council_L65 (l0 : Nat) (l1 : Int32) (l2 : Int32) (l3 : Int32) (k111 : Int32 × mx_Hp → Option (Int32 × mx_Hp)) : (Int32 × mx_Hp → Option (Int32 × mx_Hp)) → Int32 × mx_Hp → Option (Int32 × mx_Hp) := fun self s =>
  if l2 ≤ s.1 then
  k111 (s.1, s.2)
  else
  if ((65521 : Int32).toInt64 : Int64) = 0 then none else
  if (2 : Int32) = 0 then none else
  if l0 < s.2.1 ∧ (mx_lay l0).1 = 15 then
  ((f_X12_turn l0 ((((((((7919 : Int32).toInt64 * (l1).toInt64) + ((6151 : Int32).toInt64 * (s.1).toInt64)) + (1 : Int32).toInt64) * ((((7919 : Int32).toInt64 * (l1).toInt64) + ((6151 : Int32).toInt64 * (s.1).toInt64)) + (1 : Int32).toInt64)) - (((((7919 : Int32).toInt64 * (l1).toInt64) + ((6151 : Int32).toInt64 * (s.1).toInt64)) + (1 : Int32).toInt64) * ((((7919 : Int32).toInt64 * (l1).toInt64) + ((6151 : Int32).toInt64 * (s.1).toInt64)) + (1 : Int32).toInt64)) / (65521 : Int32).toInt64 * (65521 : Int32).toInt64)).toInt32 / 2) s.2).bind fun x21 =>
  self ((s.1 + 1), x21))
  else none
def f_X12_council_L172 (l0 : Nat) (l4 : Int32)  : (Int32 × mx_Hp → Option (Int32 × mx_Hp)) → Int32 × mx_Hp → Option (Int32 × mx_Hp) := fun self s =>
  if 22 ≤ s.1 then
  some (l4, s.2)
  else
  (mx_gr s.2 l0 12 4).bind fun x43 =>
  (mx_gr s.2 l0 12 19).bind fun x44 =>
  (mx_al s.2 x44 s.1).bind fun x45 =>
  (mx_as s.2 x43 s.1 x45).bind fun h46 =>
  self ((s.1 + 1), h46)
def f_X12_council (a0 : Nat) (a1 : Int32) (a2 : Int32) (a3 : Int32) (h : mx_Hp) : Option (Int32 × mx_Hp) :=
  (f_X12_in a1 0 9999 h).bind fun x1 =>
  if x1 = 0 then
  some ((-1), h)
  else
  (f_X12_in a2 1 60 h).bind fun x3 =>
  if x3 = 0 then
  some ((-1), h)
  else
  (f_X12_in a3 0 2 h).bind fun x5 =>
  if ¬ x5 = 0 then
  mx_fix (f_X12_council_L35 a0 a1 a2 a3 (fun s17 => mx_fix (f_X12_council_L65 a0 a1 a2 a3 (fun s28 => (if ¬ a3 = 0 then
  if ¬ a3 = 1 then
  (mx_gr s28.2 a0 12 4).bind fun x31 =>
  (mx_al s28.2 x31 17).bind fun x32 =>
  (mx_gr s28.2 a0 12 4).bind fun x33 =>
  (mx_al s28.2 x33 18).bind fun x34 =>
  some ((500 + x32) - x34)
  else
  (mx_gr s28.2 a0 12 4).bind fun x35 =>
  (mx_al s28.2 x35 15).bind fun x36 =>
  (mx_gr s28.2 a0 12 4).bind fun x37 =>
  (mx_al s28.2 x37 16).bind fun x38 =>
  some (x36 + x38)
  else
  (mx_gr s28.2 a0 12 4).bind fun x39 =>
  (mx_al s28.2 x39 13).bind fun x40 =>
  some x40 : Option (Int32)).bind fun v41 =>
  mx_fix (f_X12_council_L172 a0 v41) 2000 (0, s28.2))) 2000 (0, s17.2))) 2000 (0, h)
  else
  some ((-1), h)
def f_X12_keep_L13 (l0 : Nat) (k45 : Int32 × mx_Hp → Option (Int32 × mx_Hp)) : (Int32 × mx_Hp → Option (Int32 × mx_Hp)) → Int32 × mx_Hp → Option (Int32 × mx_Hp) := fun self s =>
  if 22 ≤ s.1 then
  k45 (s.1, s.2)
  else
  (mx_gr s.2 l0 12 7).bind fun x4 =>
  (mx_gi s.2 l0 12 8).bind fun x5 =>
  (mx_gr s.2 l0 12 4).bind fun x6 =>
  (mx_al s.2 x6 s.1).bind fun x7 =>
  (mx_as s.2 x4 ((22 * x5) + s.1) x7).bind fun h8 =>
  self ((s.1 + 1), h8)
def f_X12_keep (a0 : Nat) (h : mx_Hp) : Option (Int32 × mx_Hp) :=
  (mx_gi h a0 12 8).bind fun x1 =>
  if ¬ x1 = 2 then
  mx_fix (f_X12_keep_L13 a0 (fun s15 => (mx_gi s15.2 a0 12 8).bind fun x16 =>
  (mx_pi s15.2 a0 12 8 (x16 + 1)).bind fun h17 =>
  (mx_gi h17 a0 12 8).bind fun x18 =>
  some (x18, h17))) 2000 (0, h)
  else
  some ((-3), h)
def f_X12_back_L22 (l0 : Nat)  : (Int32 × mx_Hp → Option (Int32 × mx_Hp)) → Int32 × mx_Hp → Option (Int32 × mx_Hp) := fun self s =>
  if 22 ≤ s.1 then
  (mx_pi s.2 l0 12 6 0).bind fun h6 =>
  (mx_gi h6 l0 12 8).bind fun x7 =>
  some (x7, h6)
  else
  (mx_gr s.2 l0 12 4).bind fun x8 =>
  (mx_gr s.2 l0 12 7).bind fun x9 =>
  (mx_gi s.2 l0 12 8).bind fun x10 =>
  (mx_al s.2 x9 ((22 * x10) + s.1)).bind fun x11 =>
  (mx_as s.2 x8 s.1 x11).bind fun h12 =>
  self ((s.1 + 1), h12)
def f_X12_back (a0 : Nat) (h : mx_Hp) : Option (Int32 × mx_Hp) :=
  (mx_gi h a0 12 8).bind fun x1 =>
  if ¬ x1 = 0 then
  (mx_gi h a0 12 8).bind fun x3 =>
  (mx_pi h a0 12 8 (x3 - 1)).bind fun h4 =>
  mx_fix (f_X12_back_L22 a0) 2000 (0, h4)
  else
  some ((-2), h)
def f_X12_count (a0 : Nat) (a1 : Int32) (h : mx_Hp) : Option (Int32) :=
  if a1 = 0 then
  (mx_gr h a0 12 2).bind fun x2 =>
  (mx_al h x2 0).bind fun x3 =>
  some x3
  else
  if a1 = 1 then
  (mx_gr h a0 12 4).bind fun x5 =>
  (mx_al h x5 14).bind fun x6 =>
  some x6
  else
  if a1 = 2 then
  (mx_gr h a0 12 4).bind fun x8 =>
  (mx_al h x8 12).bind fun x9 =>
  some x9
  else
  if a1 = 3 then
  (mx_gr h a0 12 4).bind fun x11 =>
  (mx_al h x11 15).bind fun x12 =>
  (mx_gr h a0 12 4).bind fun x13 =>
  (mx_al h x13 16).bind fun x14 =>
  some (x12 + x14)
  else
  if a1 = 4 then
  (mx_gr h a0 12 4).bind fun x16 =>
  (mx_al h x16 21).bind fun x17 =>
  some x17
  else
  if a1 = 5 then
  (mx_gr h a0 12 2).bind fun x19 =>
  (mx_al h x19 1).bind fun x20 =>
  some x20
  else
  if a1 = 6 then
  (mx_gi h a0 12 10).bind fun x22 =>
  some x22
  else
  if a1 = 7 then
  (mx_gi h a0 12 6).bind fun x24 =>
  some x24
  else
  if a1 = 8 then
  (mx_gi h a0 12 8).bind fun x26 =>
  some x26
  else
  if a1 = 9 then
  (mx_gi h a0 12 1).bind fun x28 =>
  some x28
  else
  some (-1)
