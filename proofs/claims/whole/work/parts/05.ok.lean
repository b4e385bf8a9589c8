/-! what is looked up once of each method: its instructions as its bytes have them, the tables' words that they need -/
def mx_tg (M : mx_Mt) : List Nat := M.2.2.2.2.2.2.2.1
def mx_hn (M : mx_Mt) (k : Nat) : Nat := M.2.2.2.2.2.2.2.2.getD k 0
def mx_own (M : mx_Mt) : String := M.2.2.2.2.2.1
def mx_rm (M : mx_Mt) : Room := M.2.2.2.2.2.2.1
def mx_cd (M : mx_Mt) : Cond := .code M.2.1 M.2.2.1 M.2.2.2.1 M.2.2.2.2.1
/-- the tables' words that ride along with every call -/
def mx_wk (w : Cond) : Bool := match w with
  | .arrayClass _ => true
  | .arrayOver (.object _) => true
  | .arrayOver (.array _) => true
  | .fieldLinkNest _ _ _ _ _ _ => true
  | .methodLinkNest _ _ _ _ => true
  | w => w.onTables && w.keeps
def mx_tb : List Cond := lw_tbl.filter mx_wk
def mx_at (w : Cond) (j : Nat) : Bool := decide (lw_tbl[j]? = some w) && mx_wk w
/-- the k-th place that an instruction names in the tables -/
def mx_h (i : mx_In) (k : Nat) : Nat := (i.2.2.2.2.2.2.getD k (0, 0)).2
def mx_okJ (M : mx_Mt) (i : mx_In) (off : Int) : Bool := decide ((i.1 : Int) + off = (i.2.2.2.1 : Int)) && decide (i.2.2.2.1 ∈ mx_tg M)
def mx_okF (M : mx_Mt) (i : mx_In) (idx : Nat) (put : Bool) : Bool :=
  decide (i.2.2.2.1 < 13) && decide (i.2.2.2.2.1 < mx_nf i.2.2.2.1) &&
  ((mx_at (.fieldLink (mx_own M) idx (mx_Tn i.2.2.2.1 i.2.2.2.2.1).1 (mx_Tn i.2.2.2.1 i.2.2.2.2.1).2.1 (mx_Tn i.2.2.2.1 i.2.2.2.2.1).2.2.1) (mx_h i 0) && (!put || !(mx_Tn i.2.2.2.1 i.2.2.2.2.1).2.2.2 || (decide ((mx_Tn i.2.2.2.1 i.2.2.2.2.1).1 = mx_own M) && decide (M.2.1.name = "<init>")))) ||
   (mx_at (.fieldLinkNest (mx_own M) idx (mx_Tn i.2.2.2.1 i.2.2.2.2.1).1 (mx_Tn i.2.2.2.1 i.2.2.2.2.1).2.1 (mx_Tn i.2.2.2.1 i.2.2.2.2.1).2.2.1 "TwoMayors") (mx_h i 0) && (!put || !(mx_Tn i.2.2.2.1 i.2.2.2.2.1).2.2.2)))
/-- a method's own words -/
def mx_okW (M : mx_Mt) : Bool :=
  mx_at (mx_cd M) (mx_hn M 1) && mx_at (.initialized M.2.1.cls) (mx_hn M 2) && decide (M.2.1.cls ≠ "java/lang/invoke/MethodHandle") && decide (M.2.1.cls ≠ "java/lang/invoke/VarHandle") &&
  (if mx_hn M 0 = 0 then mx_at (.instanceMethod M.2.1) (mx_hn M 3) && mx_at (.selects M.2.1.cls M.2.1 M.2.1) (mx_hn M 4)
   else if mx_hn M 0 = 1 then mx_at (.static M.2.1) (mx_hn M 3)
   else mx_at (.instanceMethod M.2.1) (mx_hn M 3) && decide (M.2.1.name = "<init>") && decide (M.2.2.2.2.1 = none))
def mx_okC (M : mx_Mt) (i : mx_In) (idx n kd : Nat) : Bool :=
  decide (i.2.2.2.1 < mx_law) && decide (mx_hn (mx_tab i.2.2.2.1) 0 = kd) &&
  decide ((parseMethodDescriptor (mx_tab i.2.2.2.1).2.1.desc).map (fun d => d.parameters.length) = some n) &&
  decide ((mx_rm (mx_tab i.2.2.2.1)).frames + 1 ≤ (mx_rm M).frames) && decide (8 + ((mx_tab i.2.2.2.1).2.2.2.1 + 11) + (mx_rm (mx_tab i.2.2.2.1)).locals ≤ (mx_rm M).locals) &&
  (mx_at (.methodLink (mx_own M) idx (mx_tab i.2.2.2.1).2.1) (mx_h i 0) || mx_at (.methodLinkNest (mx_own M) idx (mx_tab i.2.2.2.1).2.1 "TwoMayors") (mx_h i 0))
def mx_okK (ps : List (Int × Int)) (l : List (Int32 × Nat)) (pc : Nat) : Bool := match ps, l with
  | [], [] => true
  | a :: ps, b :: l => decide (a.1 = b.1.toInt) && decide ((pc : Int) + a.2 = (b.2 : Int)) && mx_okK ps l pc
  | _, _ => false
def mx_okO (M : mx_Mt) (i : mx_In) : Bool := match i.2.1 with
  | .iconst n => decide (i.2.2.1 = 1) && decide (Int32.ofInt n = i.2.2.2.2.2.1)
  | .bipush n => decide (i.2.2.1 = 2) && decide ((Int8.ofInt n).toInt32 = i.2.2.2.2.2.1)
  | .sipush n => decide (i.2.2.1 = 3) && decide ((Int16.ofInt n).toInt32 = i.2.2.2.2.2.1)
  | .lconst n => decide (i.2.2.1 = 1) && decide (Int64.ofNat (n : Nat) = i.2.2.2.2.2.1.toInt64)
  | .ldc2_w idx => decide (i.2.2.1 = 3) && mx_at (.constantLong (mx_own M) idx i.2.2.2.2.2.1.toInt64) (mx_h i 0)
  | .aconst_null => decide (i.2.2.1 = 1)
  | .ldc idx => decide (i.2.2.1 = 2) && decide (mx_own M = "TwoMayors") && decide (idx = 75)
  | .iload_n n => decide (i.2.2.1 = 1) && decide ((n : Nat) = i.2.2.2.1)
  | .iload n => decide (i.2.2.1 = 2) && decide (n = i.2.2.2.1)
  | .lload_n n => decide (i.2.2.1 = 1) && decide ((n : Nat) = i.2.2.2.1)
  | .lload n => decide (i.2.2.1 = 2) && decide (n = i.2.2.2.1)
  | .aload_n n => decide (i.2.2.1 = 1) && decide ((n : Nat) = i.2.2.2.1)
  | .aload n => decide (i.2.2.1 = 2) && decide (n = i.2.2.2.1)
  | .istore_n n => decide (i.2.2.1 = 1) && decide ((n : Nat) = i.2.2.2.1)
  | .istore n => decide (i.2.2.1 = 2) && decide (n = i.2.2.2.1)
  | .astore_n n => decide (i.2.2.1 = 1) && decide ((n : Nat) = i.2.2.2.1)
  | .astore n => decide (i.2.2.1 = 2) && decide (n = i.2.2.2.1)
  | .lstore_n n => decide (i.2.2.1 = 1) && decide ((n : Nat) = i.2.2.2.1)
  | .lstore n => decide (i.2.2.1 = 2) && decide (n = i.2.2.2.1)
  | .iinc n d => decide (i.2.2.1 = 3) && decide (n = i.2.2.2.1) && decide (Int32.ofInt d = i.2.2.2.2.2.1)
  | .iadd => decide (i.2.2.1 = 1)
  | .isub => decide (i.2.2.1 = 1)
  | .imul => decide (i.2.2.1 = 1)
  | .iand => decide (i.2.2.1 = 1)
  | .ior => decide (i.2.2.1 = 1)
  | .ixor => decide (i.2.2.1 = 1)
  | .ishl => decide (i.2.2.1 = 1)
  | .ishr => decide (i.2.2.1 = 1)
  | .idiv => decide (i.2.2.1 = 1)
  | .irem => decide (i.2.2.1 = 1)
  | .ladd => decide (i.2.2.1 = 1)
  | .lmul => decide (i.2.2.1 = 1)
  | .ldiv => decide (i.2.2.1 = 1)
  | .lrem => decide (i.2.2.1 = 1)
  | .i2l => decide (i.2.2.1 = 1)
  | .l2i => decide (i.2.2.1 = 1)
  | .if_icmp _ off => decide (i.2.2.1 = 3) && mx_okJ M i off
  | .ifCond _ off => decide (i.2.2.1 = 3) && mx_okJ M i off
  | .goto off => decide (i.2.2.1 = 3) && mx_okJ M i off
  | .tableswitch d lo hi offs => mx_okJ M i d && decide ((offs.size : Int) = hi - lo + 1) && mx_okK ((List.range offs.size).zipWith (fun (a : Nat) (b : Int) => (lo + (a : Int), b)) offs.toList) i.2.2.2.2.2.2 i.1 && i.2.2.2.2.2.2.all (fun q => decide (q.2 ∈ mx_tg M))
  | .lookupswitch d ps => mx_okJ M i d && (ps.toList.zip (ps.toList.drop 1)).all (fun (a, next) => a.1 < next.1) && mx_okK ps.toList i.2.2.2.2.2.2 i.1 && i.2.2.2.2.2.2.all (fun q => decide (q.2 ∈ mx_tg M))
  | .ifnull off => decide (i.2.2.1 = 3) && mx_okJ M i off
  | .ifnonnull off => decide (i.2.2.1 = 3) && mx_okJ M i off
  | .dup => decide (i.2.2.1 = 1)
  | .dup2 => decide (i.2.2.1 = 1)
  | .pop => decide (i.2.2.1 = 1)
  | .getfield idx => decide (i.2.2.1 = 3) && mx_okF M i idx false
  | .putfield idx => decide (i.2.2.1 = 3) && mx_okF M i idx true
  | .iaload => decide (i.2.2.1 = 1)
  | .iastore => decide (i.2.2.1 = 1)
  | .aaload => decide (i.2.2.1 = 1)
  | .aastore => decide (i.2.2.1 = 1)
  | .arraylength => decide (i.2.2.1 = 1)
  | .new idx => decide (i.2.2.1 = 3) && mx_at (.classLink (mx_own M) idx (mx_Cn i.2.2.2.1)) (mx_h i 0) && mx_at (.instantiable (mx_Cn i.2.2.2.1) (mx_nf i.2.2.2.1)) (mx_h i 1) && mx_at (.initialized (mx_Cn i.2.2.2.1)) (mx_h i 2)
  | .newarray t => decide (i.2.2.1 = 2) && decide (t = .int) && mx_at (.arrayClass .int) (mx_h i 0)
  | .anewarray idx => decide (i.2.2.1 = 3) && mx_at (.classLink (mx_own M) idx mx_R9) (mx_h i 0) && mx_at (.arrayOver (.object mx_R9)) (mx_h i 1)
  | .multianewarray idx d => decide (i.2.2.1 = 4) && decide (d = 2) && mx_at (.classLink (mx_own M) idx "[[I") (mx_h i 0) && mx_at (.arrayOver (.array .int)) (mx_h i 1) && mx_at (.arrayClass .int) (mx_h i 2)
  | .invokevirtual idx => decide (i.2.2.1 = 3) && (if i.2.2.2.1 = 1002 ∨ i.2.2.2.1 = 1003 then decide (mx_own M = "TwoMayors") && decide (mx_rm M = (mx_rm mx_k_X11_init)) && decide (idx = if i.2.2.2.1 = 1002 then 77 else 83) else mx_okC M i idx (i.2.2.2.2.1 - 1) 0 && decide (0 < i.2.2.2.2.1))
  | .invokespecial idx => decide (i.2.2.1 = 3) && (if i.2.2.2.1 = 1000 then mx_at (.methodLink (mx_own M) idx Lib.objectInit) (mx_h i 0) && mx_at (.instanceMethod Lib.objectInit) (mx_h i 1) && mx_at (.code Lib.objectInit ⟨#[0xb1]⟩ 1 none) (mx_h i 2) && decide (1 ≤ (mx_rm M).frames) && decide (20 ≤ (mx_rm M).locals) else mx_okC M i idx (i.2.2.2.2.1 - 1) 2 && decide (0 < i.2.2.2.2.1))
  | .invokestatic idx => decide (i.2.2.1 = 3) && (if i.2.2.2.1 = 1001 then mx_at (.methodLink (mx_own M) idx Lib.Math.max.name) (mx_h i 0) && mx_at (.static Lib.Math.max.name) (mx_h i 1) && mx_at (.initialized "java/lang/Math") (mx_h i 2) && mx_at (.code Lib.Math.max.name Lib.Math.max.code 2 (some .int)) (mx_h i 3) && decide (1 ≤ (mx_rm M).frames) && decide (21 ≤ (mx_rm M).locals) else mx_okC M i idx i.2.2.2.2.1 1)
  | .ireturn => decide (i.2.2.1 = 1)
  | .areturn => decide (i.2.2.1 = 1) && (match M.2.2.2.2.1 with | some (.object _) => true | _ => false)
  | .return_ => decide (i.2.2.1 = 1) && decide (M.2.2.2.2.1 = none)
  | _ => false
def mx_okI (M : mx_Mt) (i : mx_In) : Bool := match i.2.1 with
  | .nop => decide (i.2.2.1 = 0) && decide (i.1 = i.2.2.2.1) && decide (i.2.2.2.1 ∈ mx_tg M)
  | _ => decide (decode M.2.2.1 i.1 = .ok (i.2.1, i.2.2.1)) && mx_okO M i
/-- nothing comes behind these -/
def mx_trm (i : mx_In) : Bool := match i.2.1 with
  | .nop => true
  | .goto _ => true
  | .ireturn => true
  | .areturn => true
  | .return_ => true
  | .tableswitch _ _ _ _ => true
  | .lookupswitch _ _ => true
  | _ => false
def mx_pc (r : List mx_In) : Nat := match r with
  | [] => 0
  | i :: _ => i.1
def mx_okL (M : mx_Mt) (r : List mx_In) : Bool := match r with
  | [] => false
  | i :: r => mx_okI M i && (mx_trm i || (decide (mx_pc r = i.1 + i.2.2.1) && mx_okL M r))
def mx_okB (M : mx_Mt) : Bool := (mx_tg M).all (fun t => mx_okL M (M.1 t) && decide (mx_pc (M.1 t) = t))
def mx_okM (M : mx_Mt) : Bool := mx_okB M && decide (0 ∈ mx_tg M) && plainName M.2.1.cls && decide (mx_own M = M.2.1.cls) && decide (M.2.1.cls ≠ "")
