/-! THE LIGHT MACHINE: one frame's run over a small heap, a step an instruction; part 04 ties it to the machine -/
abbrev mx_Hp : Type := Nat × (Nat → Nat → Int32) × (Nat → Nat → Option Nat)
abbrev mx_Lc : Type := List (Option Value)
abbrev mx_Cf : Type := List mx_In × mx_Lc × List Value × mx_Hp × Nat × Nat
abbrev mx_Rs : Type := Option Value × mx_Hp
/-- go on; call (which method, its arguments, what comes behind it); return -/
abbrev mx_Ac : Type := mx_Cf ⊕ ((Nat × List Value × mx_Cf) ⊕ mx_Rs)
/-- the script: how long, its ints; whether it may be read -/
abbrev mx_Sc : Type := Bool × Nat × (Nat → Int32)
def mx_ld (loc : mx_Lc) (i : Nat) : Option Value := match loc[i]? with
  | some (some v) => some v
  | _ => none
def mx_isL (v : Option (Option Value)) : Bool := match v with
  | some (some (.long _)) => true
  | some (some (.double _)) => true
  | _ => false
/-- a store spoils a long ahead of it -/
def mx_cl1 (loc : mx_Lc) (i : Nat) : mx_Lc := if mx_isL loc[i - 1]? = true then loc.set (i - 1) none else loc
def mx_sv (loc : mx_Lc) (i : Nat) (v : Value) : Option mx_Lc := if i < loc.length then some ((mx_cl1 loc i).set i (some v)) else none
def mx_sv2 (loc : mx_Lc) (i : Nat) (v : Value) : Option mx_Lc := if i + 1 < loc.length then some (((mx_cl1 loc i).set i (some v)).set (i + 1) none) else none
/-- one cell's place is written -/
def mx_up {α : Type} (m : Nat → Nat → α) (o k : Nat) (v : α) : Nat → Nat → α := fun a j => if a = o ∧ j = k then v else m a j
/-- one cell is new -/
def mx_fr {α : Type} (m : Nat → Nat → α) (o : Nat) (v : α) : Nat → Nat → α := fun a j => if a = o then v else m a j
/-- an int field of an object of class c -/
def mx_gi (h : mx_Hp) (o c k : Nat) : Option Int32 := if o < h.1 ∧ (mx_lay o).1 = c + 3 ∧ (mx_fk c k = 0 ∨ mx_fk c k = 2) then some (h.2.1 o k) else none
def mx_gr (h : mx_Hp) (o c k : Nat) : Option Nat := if o < h.1 ∧ (mx_lay o).1 = c + 3 ∧ mx_fk c k = 1 then h.2.2 o k else none
def mx_pi (h : mx_Hp) (o c k : Nat) (v : Int32) : Option mx_Hp := if o < h.1 ∧ (mx_lay o).1 = c + 3 ∧ (mx_fk c k = 0 ∨ (mx_fk c k = 2 ∧ (v = 0 ∨ v = 1))) then some (h.1, mx_up h.2.1 o k v, h.2.2) else none
def mx_pr (h : mx_Hp) (o c k : Nat) (v : Nat) : Option mx_Hp := if o < h.1 ∧ (mx_lay o).1 = c + 3 ∧ mx_fk c k = 1 then some (h.1, h.2.1, mx_up h.2.2 o k (some v)) else none
def mx_inb (i : Int32) (n : Nat) : Prop := 0 ≤ i ∧ i.toNatClampNeg < n
def mx_al (h : mx_Hp) (o : Nat) (i : Int32) : Option Int32 := if o < h.1 ∧ (mx_lay o).1 = 0 ∧ (0 ≤ i ∧ i.toNatClampNeg < (mx_lay o).2) then some (h.2.1 o i.toNatClampNeg) else none
def mx_as (h : mx_Hp) (o : Nat) (i v : Int32) : Option mx_Hp := if o < h.1 ∧ (mx_lay o).1 = 0 ∧ (0 ≤ i ∧ i.toNatClampNeg < (mx_lay o).2) then some (h.1, mx_up h.2.1 o i.toNatClampNeg v, h.2.2) else none
def mx_rl (h : mx_Hp) (o : Nat) (i : Int32) : Option Nat := if o < h.1 ∧ ((mx_lay o).1 = 1 ∨ (mx_lay o).1 = 2) ∧ (0 ≤ i ∧ i.toNatClampNeg < (mx_lay o).2) then h.2.2 o i.toNatClampNeg else none
def mx_rs (h : mx_Hp) (o : Nat) (i : Int32) (v : Nat) : Option mx_Hp := if o < h.1 ∧ (mx_lay o).1 = 1 ∧ (0 ≤ i ∧ i.toNatClampNeg < (mx_lay o).2) ∧ v < h.1 ∧ (mx_lay v).1 = 12 then some (h.1, h.2.1, mx_up h.2.2 o i.toNatClampNeg (some v)) else none
def mx_ln (h : mx_Hp) (o : Nat) : Option Int32 := if o < h.1 ∧ ((mx_lay o).1 = 0 ∨ (mx_lay o).1 = 1 ∨ (mx_lay o).1 = 2) then some (Int32.ofNat (mx_lay o).2) else none
def mx_new (h : mx_Hp) : mx_Hp := (h.1 + 1, mx_fr h.2.1 h.1 0, mx_fr h.2.2 h.1 none)
/-- a row of rows of ten ints -/
def mx_mna (h : mx_Hp) : mx_Hp := (h.1 + 11, (fun a j => if h.1 ≤ a ∧ a < h.1 + 11 then 0 else h.2.1 a j), (fun a j => if a = h.1 then (if j < 10 then some (h.1 + 1 + j) else none) else if h.1 < a ∧ a < h.1 + 11 then none else h.2.2 a j))
def mx_sw (l : List (Int32 × Nat)) (x : Int32) (d : Nat) : Nat := match l with
  | [] => d
  | q :: r => if x = q.1 then q.2 else mx_sw r x d
def mx_SCR : Nat := 1000000
def mx_STR : Nat := 1000001
def mx_str : List Int32 := [119, 48, 44, 51, 59, 119, 48, 44, 49, 59, 119, 49, 44, 53, 59, 119, 50, 44, 50, 59, 119, 50, 44, 52, 59, 119, 51, 44, 49, 59, 119, 48, 44, 50, 59, 103, 48, 44, 49, 59, 103, 48, 44, 50, 59, 103, 49, 44, 51, 59, 103, 49, 44, 54, 59, 103, 50, 44, 51, 59, 103, 50, 44, 52, 59, 103, 53, 44, 51, 59, 103, 54, 44, 52, 59, 103, 54, 44, 48, 59, 103, 51, 44, 50, 59, 107, 48, 44, 51, 59, 107, 48, 44, 52, 59, 107, 49, 44, 51, 59, 107, 49, 44, 49, 59, 108, 50, 59, 99, 48, 59]
section Step
variable (M : mx_Mt) (sc : mx_Sc) (i : mx_In) (r : List mx_In) (loc : mx_Lc) (st : List Value) (h : mx_Hp) (k z : Nat)
def mx_go : Option mx_Ac := some (.inl (r, loc, st, h, k, z))
def mx_jp (t : Nat) : Option mx_Ac := some (.inl (M.1 t, loc, st, h, k, z))
def mx_sLoad : Option mx_Ac := match mx_ld loc i.2.2.2.1 with
  | some v => mx_go r loc (v :: st) h k z
  | none => none
def mx_sIload : Option mx_Ac := match mx_ld loc i.2.2.2.1 with
  | some (.int x) => mx_go r loc (.int x :: st) h k z
  | _ => none
def mx_sLload : Option mx_Ac := match mx_ld loc i.2.2.2.1 with
  | some (.long x) => mx_go r loc (.long x :: st) h k z
  | _ => none
def mx_sAload : Option mx_Ac := match mx_ld loc i.2.2.2.1 with
  | some (.ref x) => mx_go r loc (.ref x :: st) h k z
  | some .null => mx_go r loc (.null :: st) h k z
  | _ => none
def mx_sIstore : Option mx_Ac := match st with
  | .int x :: s => match mx_sv loc i.2.2.2.1 (.int x) with
    | some loc' => mx_go r loc' s h k z
    | none => none
  | _ => none
def mx_sAstore : Option mx_Ac := match st with
  | .ref x :: s => match mx_sv loc i.2.2.2.1 (.ref x) with
    | some loc' => mx_go r loc' s h k z
    | none => none
  | .null :: s => match mx_sv loc i.2.2.2.1 .null with
    | some loc' => mx_go r loc' s h k z
    | none => none
  | _ => none
def mx_sLstore : Option mx_Ac := match st with
  | .long x :: s => match mx_sv2 loc i.2.2.2.1 (.long x) with
    | some loc' => mx_go r loc' s h k z
    | none => none
  | _ => none
def mx_sIinc : Option mx_Ac := match mx_ld loc i.2.2.2.1 with
  | some (.int x) => match mx_sv loc i.2.2.2.1 (.int (x + i.2.2.2.2.2.1)) with
    | some loc' => mx_go r loc' st h k z
    | none => none
  | _ => none
def mx_sB (f : Int32 → Int32 → Int32) : Option mx_Ac := match st with
  | .int y :: .int x :: s => mx_go r loc (.int (f x y) :: s) h k z
  | _ => none
def mx_sBd (f : Int32 → Int32 → Int32) : Option mx_Ac := match st with
  | .int y :: .int x :: s => if y = 0 then none else mx_go r loc (.int (f x y) :: s) h k z
  | _ => none
def mx_sL (f : Int64 → Int64 → Int64) : Option mx_Ac := match st with
  | .long y :: .long x :: s => mx_go r loc (.long (f x y) :: s) h k z
  | _ => none
def mx_sLd (f : Int64 → Int64 → Int64) : Option mx_Ac := match st with
  | .long y :: .long x :: s => if y = 0 then none else mx_go r loc (.long (f x y) :: s) h k z
  | _ => none
def mx_cond (q : ClassFile.Cond) (x y : Int32) : Bool := match q with
  | .eq => decide (x = y)
  | .ne => decide (¬ x = y)
  | .lt => decide (x < y)
  | .ge => decide (y ≤ x)
  | .gt => decide (y < x)
  | .le => decide (x ≤ y)
def mx_sIcmp (q : ClassFile.Cond) : Option mx_Ac := match st with
  | .int y :: .int x :: s => if mx_cond q x y = true then mx_jp M loc s h k z i.2.2.2.1 else mx_go r loc s h k z
  | _ => none
def mx_sIf (q : ClassFile.Cond) : Option mx_Ac := match st with
  | .int x :: s => if mx_cond q x 0 = true then mx_jp M loc s h k z i.2.2.2.1 else mx_go r loc s h k z
  | _ => none
def mx_sSw : Option mx_Ac := match st with
  | .int x :: s => mx_jp M loc s h k z (mx_sw i.2.2.2.2.2.2 x i.2.2.2.1)
  | _ => none
def mx_sIfnull : Option mx_Ac := match st with
  | .null :: s => mx_jp M loc s h k z i.2.2.2.1
  | .ref _ :: s => mx_go r loc s h k z
  | _ => none
def mx_sIfnn : Option mx_Ac := match st with
  | .ref _ :: s => mx_jp M loc s h k z i.2.2.2.1
  | .null :: s => mx_go r loc s h k z
  | _ => none
def mx_c1 (v : Value) : Bool := match v with
  | .int _ => true
  | .ref _ => true
  | .null => true
  | _ => false
def mx_sDup : Option mx_Ac := match st with
  | v :: s => if mx_c1 v = true then mx_go r loc (v :: v :: s) h k z else none
  | _ => none
def mx_sDup2 : Option mx_Ac := match st with
  | v :: w :: s => if mx_c1 v = true ∧ mx_c1 w = true then mx_go r loc (v :: w :: v :: w :: s) h k z else none
  | _ => none
def mx_sPop : Option mx_Ac := match st with
  | v :: s => if mx_c1 v = true then mx_go r loc s h k z else none
  | _ => none
def mx_sGet : Option mx_Ac := match st with
  | .ref o :: s => if mx_fk i.2.2.2.1 i.2.2.2.2.1 = 1 then match mx_gr h o i.2.2.2.1 i.2.2.2.2.1 with
      | some v => mx_go r loc (.ref v :: s) h k z
      | none => none
    else match mx_gi h o i.2.2.2.1 i.2.2.2.2.1 with
      | some v => mx_go r loc (.int v :: s) h k z
      | none => none
  | _ => none
def mx_sPut : Option mx_Ac := match st with
  | .int v :: .ref o :: s => match mx_pi h o i.2.2.2.1 i.2.2.2.2.1 v with
    | some h' => mx_go r loc s h' k z
    | none => none
  | .ref v :: .ref o :: s => match mx_pr h o i.2.2.2.1 i.2.2.2.2.1 v with
    | some h' => mx_go r loc s h' k z
    | none => none
  | _ => none
def mx_sIald : Option mx_Ac := match st with
  | .int j :: .ref o :: s => if o = mx_SCR then (if sc.1 = true ∧ 0 ≤ j ∧ j.toNatClampNeg < sc.2.1 then mx_go r loc (.int (sc.2.2 j.toNatClampNeg) :: s) h k z else none) else match mx_al h o j with
    | some v => mx_go r loc (.int v :: s) h k z
    | none => none
  | _ => none
def mx_sIast : Option mx_Ac := match st with
  | .int v :: .int j :: .ref o :: s => match mx_as h o j v with
    | some h' => mx_go r loc s h' k z
    | none => none
  | _ => none
def mx_sAald : Option mx_Ac := match st with
  | .int j :: .ref o :: s => match mx_rl h o j with
    | some v => mx_go r loc (.ref v :: s) h k z
    | none => none
  | _ => none
def mx_sAast : Option mx_Ac := match st with
  | .ref v :: .int j :: .ref o :: s => match mx_rs h o j v with
    | some h' => mx_go r loc s h' k z
    | none => none
  | _ => none
def mx_sAlen : Option mx_Ac := match st with
  | .ref o :: s => if o = mx_SCR then (if sc.1 = true then mx_go r loc (.int (Int32.ofNat sc.2.1) :: s) h k z else none) else match mx_ln h o with
    | some v => mx_go r loc (.int v :: s) h k z
    | none => none
  | _ => none
def mx_sNew : Option mx_Ac := if (mx_lay h.1).1 = i.2.2.2.1 + 3 ∧ i.2.2.2.1 < 13 ∧ k + 1 ≤ M.2.2.2.2.2.2.1.cells ∧ z + mx_nf i.2.2.2.1 ≤ M.2.2.2.2.2.2.1.slots then mx_go r loc (.ref h.1 :: st) (mx_new h) (k + 1) (z + mx_nf i.2.2.2.1) else none
def mx_sNewa : Option mx_Ac := match st with
  | .int n :: s => if mx_lay h.1 = (0, n.toNatClampNeg) ∧ 0 ≤ n ∧ n.toNatClampNeg ≤ 2048 ∧ k + 1 ≤ M.2.2.2.2.2.2.1.cells ∧ z + n.toNatClampNeg ≤ M.2.2.2.2.2.2.1.slots then mx_go r loc (.ref h.1 :: s) (mx_new h) (k + 1) (z + n.toNatClampNeg) else none
  | _ => none
def mx_sNewq : Option mx_Ac := match st with
  | .int n :: s => if mx_lay h.1 = (1, n.toNatClampNeg) ∧ 0 ≤ n ∧ n.toNatClampNeg ≤ 2048 ∧ k + 1 ≤ M.2.2.2.2.2.2.1.cells ∧ z + n.toNatClampNeg ≤ M.2.2.2.2.2.2.1.slots then mx_go r loc (.ref h.1 :: s) (mx_new h) (k + 1) (z + n.toNatClampNeg) else none
  | _ => none
def mx_sMna : Option mx_Ac := match st with
  | .int b :: .int n :: s => if n = 10 ∧ b = 10 ∧ mx_lay h.1 = (2, 10) ∧ ((List.range 10).all (fun j => decide (mx_lay (h.1 + 1 + j) = (0, 10)))) = true ∧ k + 11 ≤ M.2.2.2.2.2.2.1.cells ∧ z + 110 ≤ M.2.2.2.2.2.2.1.slots then mx_go r loc (.ref h.1 :: s) (mx_mna h) (k + 11) (z + 110) else none
  | _ => none
def mx_sI2l : Option mx_Ac := match st with
  | .int x :: s => mx_go r loc (.long x.toInt64 :: s) h k z
  | _ => none
def mx_sL2i : Option mx_Ac := match st with
  | .long x :: s => mx_go r loc (.int x.toInt32 :: s) h k z
  | _ => none
def mx_cat (l : List Value) : Nat := (l.map fun v => v.category).sum
def mx_call (v : Bool) : Option mx_Ac :=
  if i.2.2.2.2.1 ≤ st.length ∧ (st.take i.2.2.2.2.1).all mx_c1 = true ∧ i.2.2.2.2.1 ≤ (mx_tab i.2.2.2.1).2.2.2.1 ∧ mx_cat (st.drop i.2.2.2.2.1) ≤ 8 ∧ k + (mx_tab i.2.2.2.1).2.2.2.2.2.2.1.cells ≤ M.2.2.2.2.2.2.1.cells ∧ z + (mx_tab i.2.2.2.1).2.2.2.2.2.2.1.slots ≤ M.2.2.2.2.2.2.1.slots then
    match v, (st.take i.2.2.2.2.1).reverse with
    | true, .ref o :: as => if o < h.1 ∧ 3 ≤ (mx_lay o).1 ∧ mx_Cn ((mx_lay o).1 - 3) = (mx_tab i.2.2.2.1).2.1.cls then some (.inr (.inl (i.2.2.2.1, .ref o :: as, (r, loc, st.drop i.2.2.2.2.1, h, k + (mx_tab i.2.2.2.1).2.2.2.2.2.2.1.cells, z + (mx_tab i.2.2.2.1).2.2.2.2.2.2.1.slots)))) else none
    | true, _ => none
    | false, as => some (.inr (.inl (i.2.2.2.1, as, (r, loc, st.drop i.2.2.2.2.1, h, k + (mx_tab i.2.2.2.1).2.2.2.2.2.2.1.cells, z + (mx_tab i.2.2.2.1).2.2.2.2.2.2.1.slots))))
  else none
def mx_sVirt : Option mx_Ac := if i.2.2.2.1 = 1002 then (match st with
    | .ref o :: s => if o = mx_STR ∧ mx_cat s ≤ 8 ∧ k ≤ M.2.2.2.2.2.2.1.cells ∧ z ≤ M.2.2.2.2.2.2.1.slots then mx_go r loc (.int (Int32.ofNat 111) :: s) h k z else none
    | _ => none)
  else if i.2.2.2.1 = 1003 then (match st with
    | .int j :: .ref o :: s => if o = mx_STR ∧ mx_cat s ≤ 8 ∧ k ≤ M.2.2.2.2.2.2.1.cells ∧ z ≤ M.2.2.2.2.2.2.1.slots ∧ 0 ≤ j ∧ j.toNatClampNeg < 111 then mx_go r loc (.int (mx_str.getD j.toNatClampNeg 0) :: s) h k z else none
    | _ => none)
  else mx_call M i r loc st h k z true
def mx_sSpec : Option mx_Ac := if i.2.2.2.1 = 1000 then (match st with
    | .ref _ :: s => if mx_cat s ≤ 8 then mx_go r loc s h k z else none
    | _ => none)
  else mx_call M i r loc st h k z true
def mx_sStat : Option mx_Ac := if i.2.2.2.1 = 1001 then (match st with
    | .int y :: .int x :: s => if mx_cat s ≤ 8 ∧ k ≤ M.2.2.2.2.2.2.1.cells ∧ z ≤ M.2.2.2.2.2.2.1.slots then mx_go r loc (.int (if x < y then y else x) :: s) h k z else none
    | _ => none)
  else mx_call M i r loc st h k z false
def mx_ret (v : Option Value) : Option mx_Ac := if k ≤ M.2.2.2.2.2.2.1.cells ∧ z ≤ M.2.2.2.2.2.2.1.slots then some (.inr (.inr (v, h))) else none
def mx_sIret : Option mx_Ac := match st with
  | [.int v] => if M.2.2.2.2.1 = some .int ∨ (M.2.2.2.2.1 = some .boolean ∧ (v = 0 ∨ v = 1)) then mx_ret M h k z (some (.int v)) else none
  | _ => none
def mx_sAret : Option mx_Ac := match st with
  | [.ref v] => mx_ret M h k z (some (.ref v))
  | [.null] => mx_ret M h k z (some .null)
  | _ => none
def mx_sVret : Option mx_Ac := match st with
  | [] => mx_ret M h k z none
  | _ => none
def mx_step1 : Option mx_Ac := match i.2.1 with
  | .iconst _ => mx_go r loc (.int i.2.2.2.2.2.1 :: st) h k z
  | .bipush _ => mx_go r loc (.int i.2.2.2.2.2.1 :: st) h k z
  | .sipush _ => mx_go r loc (.int i.2.2.2.2.2.1 :: st) h k z
  | .lconst _ => mx_go r loc (.long i.2.2.2.2.2.1.toInt64 :: st) h k z
  | .ldc2_w _ => mx_go r loc (.long i.2.2.2.2.2.1.toInt64 :: st) h k z
  | .aconst_null => mx_go r loc (.null :: st) h k z
  | .ldc _ => mx_go r loc (.ref mx_STR :: st) h k z
  | .iload_n _ => mx_sIload i r loc st h k z
  | .iload _ => mx_sIload i r loc st h k z
  | .lload_n _ => mx_sLload i r loc st h k z
  | .lload _ => mx_sLload i r loc st h k z
  | .aload_n _ => mx_sAload i r loc st h k z
  | .aload _ => mx_sAload i r loc st h k z
  | .istore_n _ => mx_sIstore i r loc st h k z
  | .istore _ => mx_sIstore i r loc st h k z
  | .astore_n _ => mx_sAstore i r loc st h k z
  | .astore _ => mx_sAstore i r loc st h k z
  | .lstore_n _ => mx_sLstore i r loc st h k z
  | .lstore _ => mx_sLstore i r loc st h k z
  | .iinc _ _ => mx_sIinc i r loc st h k z
  | .iadd => mx_sB r loc st h k z (fun x y => x + y)
  | .isub => mx_sB r loc st h k z (fun x y => x - y)
  | .imul => mx_sB r loc st h k z (fun x y => x * y)
  | .iand => mx_sB r loc st h k z (fun x y => x &&& y)
  | .ior => mx_sB r loc st h k z (fun x y => x ||| y)
  | .ixor => mx_sB r loc st h k z (fun x y => x ^^^ y)
  | .ishl => mx_sB r loc st h k z (fun x y => x <<< (y &&& 31))
  | .ishr => mx_sB r loc st h k z (fun x y => x >>> (y &&& 31))
  | .idiv => mx_sBd r loc st h k z (fun x y => x / y)
  | .irem => mx_sBd r loc st h k z (fun x y => x - x / y * y)
  | .ladd => mx_sL r loc st h k z (fun x y => x + y)
  | .lmul => mx_sL r loc st h k z (fun x y => x * y)
  | .ldiv => mx_sLd r loc st h k z (fun x y => x / y)
  | .lrem => mx_sLd r loc st h k z (fun x y => x - x / y * y)
  | .i2l => mx_sI2l r loc st h k z
  | .l2i => mx_sL2i r loc st h k z
  | .if_icmp q _ => mx_sIcmp M i r loc st h k z q
  | .ifCond q _ => mx_sIf M i r loc st h k z q
  | .goto _ => mx_jp M loc st h k z i.2.2.2.1
  | .nop => mx_jp M loc st h k z i.2.2.2.1
  | .tableswitch _ _ _ _ => mx_sSw M i loc st h k z
  | .lookupswitch _ _ => mx_sSw M i loc st h k z
  | .ifnull _ => mx_sIfnull M i r loc st h k z
  | .ifnonnull _ => mx_sIfnn M i r loc st h k z
  | .dup => mx_sDup r loc st h k z
  | .dup2 => mx_sDup2 r loc st h k z
  | .pop => mx_sPop r loc st h k z
  | .getfield _ => mx_sGet i r loc st h k z
  | .putfield _ => mx_sPut i r loc st h k z
  | .iaload => mx_sIald sc r loc st h k z
  | .iastore => mx_sIast r loc st h k z
  | .aaload => mx_sAald r loc st h k z
  | .aastore => mx_sAast r loc st h k z
  | .arraylength => mx_sAlen sc r loc st h k z
  | .new _ => mx_sNew M i r loc st h k z
  | .newarray _ => mx_sNewa M r loc st h k z
  | .anewarray _ => mx_sNewq M r loc st h k z
  | .multianewarray _ _ => mx_sMna M r loc st h k z
  | .invokevirtual _ => mx_sVirt M i r loc st h k z
  | .invokespecial _ => mx_sSpec M i r loc st h k z
  | .invokestatic _ => mx_sStat M i r loc st h k z
  | .ireturn => mx_sIret M st h k z
  | .areturn => mx_sAret M st h k z
  | .return_ => mx_sVret M st h k z
  | _ => none
end Step
def mx_step (M : mx_Mt) (sc : mx_Sc) (c : mx_Cf) : Option mx_Ac := match c.1 with
  | [] => none
  | i :: r => mx_step1 M sc i r c.2.1 c.2.2.1 c.2.2.2.1 c.2.2.2.2.1 c.2.2.2.2.2
def mx_noS : mx_Sc := (false, 0, fun _ => 0)
/-- a method's start -/
def mx_ent (M : mx_Mt) (as : List Value) (h : mx_Hp) : mx_Cf := (M.1 0, as.map some ++ List.replicate (M.2.2.2.1 - as.length) none, [], h, 0, 0)
/-- behind a call -/
def mx_beh (c : mx_Cf) (q : mx_Rs) : mx_Cf := (c.1, c.2.1, q.1.toList ++ c.2.2.1, q.2, c.2.2.2.2.1, c.2.2.2.2.2)
def mx_run : Nat → mx_Mt → mx_Sc → mx_Cf → Option mx_Rs
  | 0, _, _, _ => none
  | n + 1, M, sc, c => match mx_step M sc c with
    | some (.inl c') => mx_run n M sc c'
    | some (.inr (.inl (y, as, c'))) => match mx_run n (mx_tab y) mx_noS (mx_ent (mx_tab y) as c'.2.2.2.1) with
      | some q => mx_run n M sc (mx_beh c' q)
      | none => none
    | some (.inr (.inr q)) => some q
    | none => none
