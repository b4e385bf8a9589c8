/-! THE CLAIM OUT OF ONE WALK OF THE LAW'S BODY. Your part is whole_start (and what it stands on); all else here is the same for every law, but numbers. -/
def R_law : String := "TwoMayorsLaw"
def lw_P (b : Addr) (xs : List Int32) (args : Array Value) (s : State) : Prop := args = #[.ref b] ∧ s.IntsAt b xs ∧ xs.length ≤ 2048 ∧ (Jvm.Cond.and given_1 narrow_1).before args s = true
def lw_Q (_ : Array Value) (s : State) (o : Outcome) (t : State) : Prop := o = .returned (some (.int 1)) ∧ Framed s o t [] 600000 7302249
def lw_Z (below : List Frame) (a : Array Value) (s : State) : State → Prop := fun t => ∃ o, t.status = .running ∧ Ended t below o ∧ lw_Q a s o t
/-- the law's own end, with 1 on the stack, nothing written that was there before, its room as the claim has it -/
theorem lw_ret {p : Program} {l : Launch} {e : Env} {s : State} {m : MethodId} {below : List Frame} {meth : Method} {c : Code} {b : Nat} (hx : p.tables.exec = Jvm.exec) (hb : c.code = code) (hr : meth.sig.returnType = ret) (hlocks : meth.locks = false) {pc : Nat} {H : Heap} {ls : Array Slot} (hdg : decode code pc = .ok (.ireturn, 1)) : W p l e room_1 s m #[Value.ref b] below meth c H [] 600000 7302249 (lw_Z below #[Value.ref b] s) (F0 m pc ls [.int 1]) := by
  intro T hT X
  obtain ⟨fs, hret, hrun, hended, hW, hframe⟩ := X.leave (v := some (.int 1)) (hlocks := hlocks) (fun h => by rw [hr] at h; cases h)
  have hmeth' : T.vm.method? m = some meth := X.method'
  refine ⟨T.setFrames fs, ?_, .returned (some (.int 1)), hrun, hended, rfl, ⟨_, rfl⟩, hW, hframe⟩
  jvm_step X.here [X.here.top, hx, hb, hdg, hmeth', hr, ret, narrow_b1]
  (try refine ⟨rfl, ?_⟩); (try refine ⟨rfl, ?_⟩)
  first | (intro acts; rw [hret _ acts rfl rfl rfl]) | rw [hret _ _ rfl rfl rfl]
  exact Steps.refl _
/-- what holds at the law's entry: the machine, the code, the tables' words (any of lw_tbl by 'hts w (by decide +kernel)'), the script of L ints xs at the cell b, what the Statement gives of the start (any of its parts by flat_of_before) -/
def lw_At (p : Program) (s : State) (m : MethodId) (meth : Method) (c : Code) (b L : Nat) (xs : Nat → Int32) : Prop :=
  p.tables.exec = Jvm.exec ∧ c.code = code ∧ meth.sig.returnType = ret ∧ c.maxLocals = 4 ∧ s.vm.findClass R_law = some m.cls ∧ (∀ w ∈ lw_tbl, w.before #[Value.ref b] s = true) ∧ va_X b L xs s s.heap ∧ b < s.heap.size ∧ meth.locks = false ∧ (Jvm.Cond.and given_1 narrow_1).before #[Value.ref b] s = true

section Sim
variable {p : Program} {l : Launch} {e : Env} {R : Room} {s : State} {m : MethodId} {args : Array Value} {below : List Frame} {meth : Method} {c : Code} {Q : State → Prop} {D : va_G} {B : Nat} {ρ : Nat → Nat} {cs : mx_Cs} {M : mx_Mt} {sc : mx_Sc}
variable {i : mx_In} {r : List mx_In} {loc : mx_Lc} {st : List Value} {h : mx_Hp} {k z : Nat} {c' : mx_Cf}
theorem mx_rinv {q : mx_Rs} {v : Int32} (hq : q.1 = some (.int v)) (hI : mx_okI M i = true) (hs : mx_step1 M sc i r loc st h k z = some (.inr (.inr q))) : decode M.2.2.1 i.1 = .ok (.ireturn, 1) ∧ st = [.int v] ∧ h = q.2 ∧ k ≤ (mx_rm M).cells ∧ z ≤ (mx_rm M).slots := by
  have hret : ∀ v, mx_ret M h k z v = some (.inr (.inr q)) → q = (v, h) ∧ k ≤ (mx_rm M).cells ∧ z ≤ (mx_rm M).slots := by
    intro v hv
    unfold mx_ret at hv
    split at hv
    · rename_i hc
      exact ⟨(Sum.inr.inj (Sum.inr.inj (Option.some.inj hv))).symm, hc⟩
    · cases hv
  unfold mx_step1 at hs
  split at hs
  · cases hs
  · cases hs
  · cases hs
  · cases hs
  · cases hs
  · cases hs
  · cases hs
  · unfold mx_sIload at hs
    repeat' split at hs
    all_goals cases hs
  · unfold mx_sIload at hs
    repeat' split at hs
    all_goals cases hs
  · unfold mx_sLload at hs
    repeat' split at hs
    all_goals cases hs
  · unfold mx_sLload at hs
    repeat' split at hs
    all_goals cases hs
  · unfold mx_sAload at hs
    repeat' split at hs
    all_goals cases hs
  · unfold mx_sAload at hs
    repeat' split at hs
    all_goals cases hs
  · unfold mx_sIstore at hs
    repeat' split at hs
    all_goals cases hs
  · unfold mx_sIstore at hs
    repeat' split at hs
    all_goals cases hs
  · unfold mx_sAstore at hs
    repeat' split at hs
    all_goals cases hs
  · unfold mx_sAstore at hs
    repeat' split at hs
    all_goals cases hs
  · unfold mx_sLstore at hs
    repeat' split at hs
    all_goals cases hs
  · unfold mx_sLstore at hs
    repeat' split at hs
    all_goals cases hs
  · unfold mx_sIinc at hs
    repeat' split at hs
    all_goals cases hs
  · unfold mx_sB at hs
    repeat' split at hs
    all_goals cases hs
  · unfold mx_sB at hs
    repeat' split at hs
    all_goals cases hs
  · unfold mx_sB at hs
    repeat' split at hs
    all_goals cases hs
  · unfold mx_sB at hs
    repeat' split at hs
    all_goals cases hs
  · unfold mx_sB at hs
    repeat' split at hs
    all_goals cases hs
  · unfold mx_sB at hs
    repeat' split at hs
    all_goals cases hs
  · unfold mx_sB at hs
    repeat' split at hs
    all_goals cases hs
  · unfold mx_sB at hs
    repeat' split at hs
    all_goals cases hs
  · unfold mx_sBd at hs
    repeat' split at hs
    all_goals cases hs
  · unfold mx_sBd at hs
    repeat' split at hs
    all_goals cases hs
  · unfold mx_sL at hs
    repeat' split at hs
    all_goals cases hs
  · unfold mx_sL at hs
    repeat' split at hs
    all_goals cases hs
  · unfold mx_sLd at hs
    repeat' split at hs
    all_goals cases hs
  · unfold mx_sLd at hs
    repeat' split at hs
    all_goals cases hs
  · unfold mx_sI2l at hs
    repeat' split at hs
    all_goals cases hs
  · unfold mx_sL2i at hs
    repeat' split at hs
    all_goals cases hs
  · unfold mx_sIcmp at hs
    repeat' split at hs
    all_goals cases hs
  · unfold mx_sIf at hs
    repeat' split at hs
    all_goals cases hs
  · cases hs
  · cases hs
  · unfold mx_sSw at hs
    repeat' split at hs
    all_goals cases hs
  · unfold mx_sSw at hs
    repeat' split at hs
    all_goals cases hs
  · unfold mx_sIfnull at hs
    repeat' split at hs
    all_goals cases hs
  · unfold mx_sIfnn at hs
    repeat' split at hs
    all_goals cases hs
  · unfold mx_sDup at hs
    repeat' split at hs
    all_goals cases hs
  · unfold mx_sDup2 at hs
    repeat' split at hs
    all_goals cases hs
  · unfold mx_sPop at hs
    repeat' split at hs
    all_goals cases hs
  · unfold mx_sGet at hs
    repeat' split at hs
    all_goals cases hs
  · unfold mx_sPut at hs
    repeat' split at hs
    all_goals cases hs
  · unfold mx_sIald at hs
    repeat' split at hs
    all_goals cases hs
  · unfold mx_sIast at hs
    repeat' split at hs
    all_goals cases hs
  · unfold mx_sAald at hs
    repeat' split at hs
    all_goals cases hs
  · unfold mx_sAast at hs
    repeat' split at hs
    all_goals cases hs
  · unfold mx_sAlen at hs
    repeat' split at hs
    all_goals cases hs
  · unfold mx_sNew at hs
    repeat' split at hs
    all_goals cases hs
  · unfold mx_sNewa at hs
    repeat' split at hs
    all_goals cases hs
  · unfold mx_sNewq at hs
    repeat' split at hs
    all_goals cases hs
  · unfold mx_sMna at hs
    repeat' split at hs
    all_goals cases hs
  · unfold mx_sVirt at hs
    repeat' split at hs
    all_goals first
      | exact (mx_call_nor hs).elim
      | (cases hs; done)
  · unfold mx_sSpec at hs
    repeat' split at hs
    all_goals first
      | exact (mx_call_nor hs).elim
      | (cases hs; done)
  · unfold mx_sStat at hs
    repeat' split at hs
    all_goals first
      | exact (mx_call_nor hs).elim
      | (cases hs; done)
  · rename_i hi
    obtain ⟨hd, ok⟩ := mx_okI_of hI (by rw [hi]; exact fun q => by cases q)
    unfold mx_okO at ok
    rw [hi] at ok hd
    simp only [decide_eq_true_eq] at ok
    rw [ok] at hd
    unfold mx_sIret at hs
    split at hs
    · rename_i v'
      split at hs
      · obtain ⟨rfl, hk, hz⟩ := hret _ hs
        have e : v' = v := by injection hq with e; injection e
        exact ⟨hd, by rw [e], rfl, hk, hz⟩
      · cases hs
    · cases hs
  · unfold mx_sAret at hs
    split at hs
    · obtain ⟨rfl, hk, hz⟩ := hret _ hs
      injection hq with e
      cases e
    · obtain ⟨rfl, hk, hz⟩ := hret _ hs
      injection hq with e
      cases e
    · cases hs
  · unfold mx_sVret at hs
    split at hs
    · obtain ⟨rfl, hk, hz⟩ := hret _ hs
      cases hq
    · cases hs
  · cases hs
end Sim
def mx_h0 : mx_Hp := (0, fun _ _ => 0, fun _ _ => none)
/-- what is left to show: the law's light run comes to 1 -/
def mx_LawRuns : Prop := ∀ (L : Nat) (xs : Nat → Int32), L ≤ 2048 → ∃ hf, mx_Ev mx_k_L_law (true, L, xs) (mx_ent mx_k_L_law [.ref mx_SCR] mx_h0) (some (.int 1), hf)
set_option maxRecDepth 20000 in
theorem whole_start_of (hrun : mx_LawRuns) {p : Program} {e : Env} {s : State} {m : MethodId} {below : List Frame} {meth : Method} {c : Code} (l : Launch) {b L : Nat} {xs : Nat → Int32} (hL : L ≤ 2048) (C0 : lw_At p s m meth c b L xs) : W p l e room_1 s m #[Value.ref b] below meth c s.heap [] 0 0 (lw_Z below #[Value.ref b] s) (entryFrame m ([Value.ref b] : List Value).toArray 4) := by
  obtain ⟨hx, hb, hr, hml, hown, hts, hX, hbl, hlocks, hgv⟩ := id C0
  obtain ⟨D, cs, hK⟩ := st_K hts
  obtain ⟨sA, hS1, hS2, hS3, hS4⟩ := st_S hts hgv
  obtain ⟨hf, n, hn⟩ := hrun L xs hL
  obtain ⟨ρ, hρd⟩ : ∃ ρ : Nat → Nat, ρ = fun i => if i = mx_SCR then b else if i = mx_STR then sA else s.heap.size + i := ⟨_, rfl⟩
  have hρ : ∀ i, i < 1000 → ρ i = s.heap.size + i := by
    intro i hi
    rw [hρd]
    show (if i = mx_SCR then b else if i = mx_STR then sA else s.heap.size + i) = _
    rw [if_neg (by unfold mx_SCR; omega), if_neg (by unfold mx_STR; omega)]
  have hρb : ρ mx_SCR = b := by rw [hρd]; exact if_pos rfl
  have hρs : ρ mx_STR = sA := by
    rw [hρd]
    show (if mx_STR = mx_SCR then b else if mx_STR = mx_STR then sA else s.heap.size + mx_STR) = _
    rw [if_neg (by decide), if_pos rfl]
  have hCx : mx_Cx p s m #[Value.ref b] meth c room_1 D s.heap.size ρ cs mx_k_L_law (true, L, xs) := by
    refine ⟨hx, hb, hml, hown, fun w hw => hts w (List.mem_filter.mp hw).1, hK, fun q => absurd q (by decide), rfl, hρ, Nat.le_refl _, fun _ => ⟨by rw [hρb]; exact hX, by rw [hρb]; exact hbl, by rw [hρb]; exact hbl⟩, ?_⟩
    unfold mx_Sx
    rw [hρs]
    exact ⟨hS1, hS2, hS3, hS4⟩
  have h0 : 0 ∈ mx_tg mx_k_L_law := by decide
  have hSim := mx_main (l := l) (D := D) (cs := cs) hρ mx_jdk mx_oks n (e := e) (below := below) (Q := lw_Z below #[Value.ref b] s) hn mx_oB_law (mx_tgt mx_oB_law h0).1 hCx (fun i r loc st h k z hI hs => by
    obtain ⟨hd, rfl, hh, hk, hz⟩ := mx_rinv (v := 1) rfl hI hs
    intro H locs ls hR hS hL
    refine va_forget (fun q hq => hS.2.2 q hq) ?_
    refine W.widen hk hz ?_
    exact lw_ret hx hb hr hlocks hd)
  obtain ⟨ls, he, hHL⟩ := mx_HL_entry (ρ := ρ) (as := [.ref mx_SCR]) (n := 4) rfl (by decide) m
  have hw := hSim s.heap [] ls ⟨by decide, rfl, fun k q hk => by simp [mx_W, mx_ent, mx_h0] at hk⟩ va_S.rf hHL
  have e1 : ([Value.ref mx_SCR].map (mx_rv ρ)) = [Value.ref b] := by
    show [Value.ref (ρ mx_SCR)] = _
    rw [hρb]
  rw [e1] at he
  rw [he]
  have e2 : mx_pc (mx_k_L_law.1 0) = 0 := rfl
  dsimp only [mx_ent] at hw
  rw [e2] at hw
  exact hw
