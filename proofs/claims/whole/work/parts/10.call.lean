/-! calls -/
def mx_Pre (D : va_G) (B : Nat) (ρ : Nat → Nat) (cs : mx_Cs) (as : List Value) (h : mx_Hp) : Array Value → State → Prop := va_Pc (as.map (mx_rv ρ)) (fun U => mx_Rep D B ρ cs h U.heap ∧ va_K D mx_cl (mx_tys cs) U ∧ (∀ w ∈ mx_tb, w.before #[] U = true) ∧ mx_Sx B ρ U)
def mx_Post (D : va_G) (B : Nat) (ρ : Nat → Nat) (cs : mx_Cs) (q : mx_Rs) : Array Value → State → Outcome → State → Prop := fun _ st oc t => oc = .returned (q.1.map (mx_rv ρ)) ∧ mx_Rep D B ρ cs q.2 t.heap ∧ va_F (mx_A B) st t
def mx_Met (l : Launch) (D : va_G) (B : Nat) (ρ : Nat → Nat) (cs : mx_Cs) (M : mx_Mt) (as : List Value) (h : mx_Hp) (q : mx_Rs) : Prop := Met l M.2.1 [mx_cd M] (mx_rm M) (mx_Pre D B ρ cs as h) (mx_Post D B ρ cs q) (mx_rm M).cells (mx_rm M).slots (mx_A B)
theorem mx_wride {s U : State} {A A' : Array Value} (hW : s.WarmedH U.vm) {w : Cond} (hk : w ∈ mx_tb) (h : w.before A s = true) : w.before A' U = true := by
  have hk := (List.mem_filter.mp hk).2
  unfold mx_wk at hk
  split at hk
  · exact word_at hW (Or.inr ⟨_, rfl⟩) h
  · exact va_AO.use (va_AO.moved hW.alike (va_AO.of h))
  · rename_i t hk9
    have hvm := hW.alike
    obtain ⟨comp, c, k, h1, h2, h3, h4, h5⟩ := Jvm.Stand.arrayOver_specB h
    obtain ⟨k', hk', he⟩ := hvm.2.2 _ _ h3
    have hbe : U.vm.bare = s.vm.bare := by first | exact hvm.bare_eq | exact hvm.bare_eq.symm
    have hi : (U.vm.classes.findIdx? fun (x : Class) => match x.kind with | .array component _ => component == comp | _ => false) = some c := by
      have e1 := va_idx_bare U.vm comp
      rw [hbe] at e1
      exact e1.symm.trans ((va_idx_bare s.vm comp).trans h2)
    have hkind : k'.kind = .array comp (.array t) := by rw [he]; exact h4
    have f1 : U.vm.findClass (FieldType.array t).toString = some comp := by rw [hvm.findClass]; exact h1
    have f2 : U.vm.findClass ("[" ++ (FieldType.array t).toString) = some c := by rw [hvm.findClass]; exact h5
    unfold Cond.before Cond.holds
    simp only [Cond.value]
    rw [f1, Option.bind_some]
    refine (congrArg (fun o : Option Nat => (o.bind (fun c => (U.vm.classes[c]?).map fun (k : Class) => match k.kind with | .array _ ty => decide (ty = FieldType.array t) && decide (U.vm.findClass ("[" ++ (FieldType.array t).toString) = some c) | _ => false) == some true)) hi).trans ?_
    simp [hk', hkind, f2]
  · exact (va_Nw.warmF hW (va_Nw.of rfl h)).use rfl
  · exact (va_Nw.warmM hW (va_Nw.of rfl h)).use rfl
  · exact word_at hW (Or.inl hk) h
theorem mx_Sx_moved {B : Nat} {ρ : Nat → Nat} {s U : State} (hW : s.WarmedH U.vm) (hh : ∀ a : Nat, a < s.heap.size → ¬ mx_A B a → U.heap[a]? = s.heap[a]?) (h : mx_Sx B ρ s) : mx_Sx B ρ U := by
  obtain ⟨h1, ⟨v, h2⟩, h3, h4⟩ := h
  exact ⟨h1.warm hW, ⟨v, (h2.moved hW.alike).kept hh⟩, (h3.moved hW.alike).kept hh, (h4.moved hW.alike).kept hh⟩
section Sim
variable {p : Program} {l : Launch} {e : Env} {R : Room} {s : State} {m : MethodId} {args : Array Value} {below : List Frame} {meth : Method} {c : Code} {Q : State → Prop} {D : va_G} {B : Nat} {ρ : Nat → Nat} {cs : mx_Cs} {M : mx_Mt} {sc : mx_Sc}
variable {i : mx_In} {r : List mx_In} {loc : mx_Lc} {st : List Value} {h : mx_Hp} {k z : Nat} {c' : mx_Cf}
theorem mx_blind {as : List Value} : FrameBlind (mx_Pre D B ρ cs as h) := by
  intro a U g mk q
  obtain ⟨q1, q2, q3, q4, q5⟩ := q
  refine ⟨q1, q2, va_K.moved (u := U) (U := U.calling g mk a) (Vm.Alike.refl U.vm) q3, fun w hw => mx_wride (s := U) (U := U.calling g mk a) (State.WarmedH.refl U) hw (q4 w hw), ?_⟩
  obtain ⟨h1, ⟨v, h2⟩, h3, h4⟩ := q5
  exact ⟨vk_R.same rfl h1, ⟨v, vk_S.moved (u := U) (U := U.calling g mk a) (Vm.Alike.refl U.vm) h2⟩, va_Z.moved (u := U) (U := U.calling g mk a) (Vm.Alike.refl U.vm) h3, va_Zq.moved (u := U) (U := U.calling g mk a) (Vm.Alike.refl U.vm) h4⟩
theorem mx_pre (C : mx_Cx p s m args meth c R D B ρ cs M sc) {as : List Value} {H : Heap} {locs : List Loc} (hR : mx_Rep D B ρ cs h H) (hS : va_S (mx_A B) s.heap H locs) : ∀ U : State, U.heap = H → s.WarmedH U.vm → mx_Pre D B ρ cs as h (as.map (mx_rv ρ)).toArray U := by
  obtain ⟨hx, hb, hml, hown, hts, hK, hnm, hRm, hρ, hBs, hsc, hsx⟩ := C
  intro U hU hW
  refine ⟨rfl, by rw [hU]; exact hR, va_K.moved hW.alike hK, fun w hw => mx_wride hW hw (hts w hw), mx_Sx_moved hW (fun a ha hA => ?_) hsx⟩
  rw [hU]
  exact hS.2.1 a ha hA
/-- behind a call -/
theorem mx_callGo {q : mx_Rs} {as : List Value} {a : Array Value} {H : Heap} {locs : List Loc} {ls : Array Slot} {st0 rest : List Value} {mc ms : Nat} (hS : va_S (mx_A B) s.heap H locs) (hL : mx_HL ρ ls M.2.2.2.1 loc)
    (hr : va_Run p l e R s m args below meth c H locs k z mc ms (F0 m i.1 ls st0) (rest.map (mx_rv ρ)) (mx_Post D B ρ cs q a) (mx_A B)) (hp : mx_pc r = i.1 + 3) (K : mx_Sim p l e R s m args below meth c Q D B ρ cs M (r, loc, q.1.toList ++ rest, q.2, k + mc, z + ms)) : W p l e R s m args below meth c H locs k z Q (F0 m i.1 ls st0) := by
  intro T hT X
  obtain ⟨v, st₀, t, T', L, h0, X', hL', e1, e2, ⟨hv, hR', hF⟩, stp⟩ := hr T hT X
  have hv' : v = q.1.map (mx_rv ρ) := by injection hv
  have hS' : va_S (mx_A B) s.heap T'.heap (locs ++ L) := by
    refine ⟨Nat.le_trans hS.1 (by rw [e1]; rw [← h0]; exact hF.1), fun a ha hA => ?_, fun q hq => ?_⟩
    · rw [e1, hF.2 a (by rw [h0]; exact Nat.lt_of_lt_of_le ha hS.1) hA, h0]
      exact hS.2.1 a ha hA
    · rcases List.mem_append.mp hq with h1 | h1
      · exact hS.2.2 q h1
      · exact hL' q h1
  obtain ⟨t2, a1, b1⟩ := mx_nx hp K (by rw [e1]; exact hR') hS' hL T' rfl X'
  refine ⟨t2, stp t2 ?_, b1⟩
  have e3 : (q.1.toList ++ rest).map (mx_rv ρ) = v.toList ++ rest.map (mx_rv ρ) := by
    rw [hv', List.map_append]
    cases q.1 <;> rfl
  rw [e3] at a1
  exact a1
theorem mx_cat_map {s' : List Value} (h8 : mx_cat s' ≤ 8) {pc : Nat} {ls : Array Slot} {st0 : List Value} : 2 * (F0 m pc ls st0).monitorRoom + (((s'.map (mx_rv ρ)).map fun v => v.category).sum) ≤ 8 := by
  have e1 : ((s'.map (mx_rv ρ)).map fun v => v.category).sum = mx_cat s' := by
    unfold mx_cat
    rw [List.map_map]
    congr 1
    exact List.map_congr_left fun v _ => mx_rv_cat
  show 2 * 0 + _ ≤ 8
  rw [e1]
  omega
theorem mx_okW_of (hW : mx_okW M = true) : mx_cd M ∈ mx_tb ∧ Cond.initialized M.2.1.cls ∈ mx_tb ∧ M.2.1.cls ≠ "java/lang/invoke/MethodHandle" ∧ M.2.1.cls ≠ "java/lang/invoke/VarHandle" ∧ (mx_hn M 0 = 0 → Cond.instanceMethod M.2.1 ∈ mx_tb ∧ Cond.selects M.2.1.cls M.2.1 M.2.1 ∈ mx_tb) ∧ (mx_hn M 0 = 1 → Cond.static M.2.1 ∈ mx_tb) ∧ (mx_hn M 0 = 2 → Cond.instanceMethod M.2.1 ∈ mx_tb ∧ M.2.1.name = "<init>" ∧ M.2.2.2.2.1 = none) := by
  unfold mx_okW at hW
  simp only [Bool.and_eq_true, decide_eq_true_eq] at hW
  obtain ⟨⟨⟨⟨h1, h2⟩, h3⟩, h4⟩, h5⟩ := hW
  refine ⟨mx_at_in h1, mx_at_in h2, h3, h4, fun q => ?_, fun q => ?_, fun q => ?_⟩
  · rw [if_pos q] at h5
    simp only [Bool.and_eq_true] at h5
    exact ⟨mx_at_in h5.1, mx_at_in h5.2⟩
  · rw [if_neg (by omega), if_pos q] at h5
    exact mx_at_in h5
  · rw [if_neg (by omega), if_neg (by omega)] at h5
    simp only [Bool.and_eq_true, decide_eq_true_eq] at h5
    exact ⟨mx_at_in h5.1.1, h5.1.2, h5.2⟩
theorem mx_good (hW : mx_cd M ∈ mx_tb) : GoodIn mx_tb [mx_cd M] := by
  intro w hw
  rw [List.mem_singleton.mp hw]
  exact ⟨hW, Or.inl rfl⟩
/-- a call's stack: the arguments, and what is below them -/
theorem mx_stk {b : Nat} : st.map (mx_rv ρ) = ((((st.take b).reverse).map (mx_rv ρ)).reverse) ++ (st.drop b).map (mx_rv ρ) := by
  rw [← List.map_reverse, List.reverse_reverse, ← List.map_append, List.take_append_drop]
/-- what a call of the light machine is -/
theorem mx_call_of {v : Bool} {y : Nat} {as : List Value} (hs : mx_call M i r loc st h k z v = some (.inr (.inl (y, as, c')))) : y = i.2.2.2.1 ∧ as = (st.take i.2.2.2.2.1).reverse ∧ c' = (r, loc, st.drop i.2.2.2.2.1, h, k + (mx_rm (mx_tab i.2.2.2.1)).cells, z + (mx_rm (mx_tab i.2.2.2.1)).slots) ∧ i.2.2.2.2.1 ≤ st.length ∧ (st.take i.2.2.2.2.1).all mx_c1 = true ∧ i.2.2.2.2.1 ≤ (mx_tab i.2.2.2.1).2.2.2.1 ∧ mx_cat (st.drop i.2.2.2.2.1) ≤ 8 ∧ k + (mx_rm (mx_tab i.2.2.2.1)).cells ≤ (mx_rm M).cells ∧ z + (mx_rm (mx_tab i.2.2.2.1)).slots ≤ (mx_rm M).slots ∧ (v = true → ∃ (a : Nat) (as' : List Value), as = .ref a :: as' ∧ a < h.1 ∧ 3 ≤ (mx_lay a).1 ∧ mx_Cn ((mx_lay a).1 - 3) = (mx_tab i.2.2.2.1).2.1.cls) := by
  unfold mx_call at hs
  split at hs
  · rename_i hc
    split at hs
    · rename_i a as' he
      split at hs
      · rename_i hc2
        have e1 := Sum.inl.inj (Sum.inr.inj (Option.some.inj hs))
        cases e1
        exact ⟨rfl, he.symm, rfl, hc.1, hc.2.1, hc.2.2.1, hc.2.2.2.1, hc.2.2.2.2.1, hc.2.2.2.2.2, fun _ => ⟨a, as', rfl, hc2.1, hc2.2.1, hc2.2.2⟩⟩
      · cases hs
    · cases hs
    · have e1 := Sum.inl.inj (Sum.inr.inj (Option.some.inj hs))
      cases e1
      exact ⟨rfl, rfl, rfl, hc.1, hc.2.1, hc.2.2.1, hc.2.2.2.1, hc.2.2.2.2.1, hc.2.2.2.2.2, fun q => by cases q⟩
  · cases hs
theorem mx_okC_of {n kd idx : Nat} (ok : mx_okC M i idx n kd = true) : i.2.2.2.1 < mx_law ∧ mx_hn (mx_tab i.2.2.2.1) 0 = kd ∧ (parseMethodDescriptor (mx_tab i.2.2.2.1).2.1.desc).map (fun d => d.parameters.length) = some n ∧ (mx_rm (mx_tab i.2.2.2.1)).frames + 1 ≤ (mx_rm M).frames ∧ 8 + ((mx_tab i.2.2.2.1).2.2.2.1 + 11) + (mx_rm (mx_tab i.2.2.2.1)).locals ≤ (mx_rm M).locals ∧ (Cond.methodLink (mx_own M) idx (mx_tab i.2.2.2.1).2.1 ∈ mx_tb ∨ Cond.methodLinkNest (mx_own M) idx (mx_tab i.2.2.2.1).2.1 "TwoMayors" ∈ mx_tb) := by
  unfold mx_okC at ok
  simp only [Bool.and_eq_true, Bool.or_eq_true, decide_eq_true_eq] at ok
  obtain ⟨⟨⟨⟨⟨h1, h2⟩, h3⟩, h4⟩, h5⟩, h6⟩ := ok
  exact ⟨h1, h2, h3, h4, h5, h6.imp mx_at_in mx_at_in⟩
theorem mx_lay_cl {a : Nat} {C : String} (h3 : 3 ≤ (mx_lay a).1) (hC : mx_Cn ((mx_lay a).1 - 3) = C) (hne : C ≠ "") : (mx_lay a).1 - 3 < 13 := by
  refine Nat.lt_of_not_le fun q => hne ?_
  rw [← hC]
  unfold mx_Cn
  rw [List.getD_eq_getElem?_getD, List.getElem?_eq_none (by simp; omega)]
  rfl
theorem mx_c_virt (C : mx_Cx p s m args meth c R D B ρ cs M sc) {idx : Nat} (hd : decode M.2.2.1 i.1 = .ok (.invokevirtual idx, 3)) (ok : mx_okC M i idx (i.2.2.2.2.1 - 1) 0 = true) (hb0 : 0 < i.2.2.2.2.1) (hp : mx_pc r = i.1 + 3) (okne : (mx_tab i.2.2.2.1).2.1.cls ≠ "") (okW : mx_okW (mx_tab i.2.2.2.1) = true) {y : Nat} {as : List Value} (hs : mx_call M i r loc st h k z true = some (.inr (.inl (y, as, c')))) {q : mx_Rs} (hM : mx_Met l D B ρ cs (mx_tab y) as c'.2.2.2.1 q) (K : mx_Sim p l e R s m args below meth c Q D B ρ cs M (mx_beh c' q)) : mx_Sim p l e R s m args below meth c Q D B ρ cs M (i :: r, loc, st, h, k, z) := by
  have C0 := C
  obtain ⟨hx, hb, hml, hown, hts, hK, hnm, hRm, hρ, hBs, hsc, hsx⟩ := C
  obtain ⟨rfl, rfl, rfl, b1, -, -, b4, b5, b6, b7⟩ := mx_call_of hs
  obtain ⟨o1, o2, o3, o4, o5, o6⟩ := mx_okC_of ok
  obtain ⟨w1, w2, w3, w4, w5, w6, w7⟩ := mx_okW_of okW
  obtain ⟨a, as', ea, ha, hl3, hcn⟩ := b7 rfl
  rw [ea] at hM
  have hlen : as'.length = i.2.2.2.2.1 - 1 := by
    have h1 : (st.take i.2.2.2.2.1).reverse.length = (Value.ref a :: as').length := by rw [ea]
    simp at h1
    omega
  refine fun H locs ls hR hS hL => ?_
  have hlen0 : c.maxLocals = M.2.2.2.1 := hml
  have hrun : va_Run p l e R s m args below meth c H locs k z (mx_rm (mx_tab i.2.2.2.1)).cells (mx_rm (mx_tab i.2.2.2.1)).slots (F0 m i.1 ls (st.map (mx_rv ρ))) ((st.drop i.2.2.2.2.1).map (mx_rv ρ)) (mx_Post D B ρ cs q ((Value.ref a :: as').map (mx_rv ρ)).toArray) (mx_A B) := by
    have hstk : st.map (mx_rv ρ) = (as'.map (mx_rv ρ)).reverse ++ .ref (ρ a) :: (st.drop i.2.2.2.2.1).map (mx_rv ρ) := by
      rw [mx_stk (b := i.2.2.2.2.1), ea]
      simp [mx_rv]
    have hci := mx_lay_cl hl3 hcn okne
    have hev := mx_W_get (B := B) (ρ := ρ) (cs := cs) ha
    rw [mx_E_obj (c := (mx_lay a).1 - 3) (by omega)] at hev
    have hrec := va_recv hK hR.2.2 (mx_cl_get hci) hev
    rw [← mx_rho_lt hρ hR ha] at hrec
    have hrec' : ∃ cell : Cell, H[ρ a]? = some cell ∧ cell.vm.isStatics = false ∧ s.vm.findClass (mx_tab i.2.2.2.1).2.1.cls = some cell.cls := by
      rw [← hcn]
      exact hrec
    rcases o6 with o6 | o6
    · exact va_runV (As := as'.map (mx_rv ρ)) (n := i.2.2.2.2.1 - 1) ⟨hx, hb, hml, hown, hts⟩ hM ⟨callB_of _ hts (mx_good w1) rfl rfl rfl (hts _ w2) (hts _ o6) ⟨w3, w4, o3⟩ (by rw [hRm]; exact ⟨o4, o5⟩), hts _ (w5 o2).1, hts _ (w5 o2).2⟩ ⟨mx_blind, hrec', mx_pre C0 hR hS⟩ rfl (by rw [List.length_map]; exact hlen) hL.1 hstk (mx_cat_map b4) hd (by rw [hRm]; exact ⟨b5, b6⟩)
    · exact va_runVN (As := as'.map (mx_rv ρ)) (n := i.2.2.2.2.1 - 1) ⟨hx, hb, hml, hown, hts⟩ hM ⟨va_cnB _ hts (mx_good w1) rfl rfl rfl (va_Nw.of rfl (hts _ o6)) (hts _ w2) ⟨w3, w4, o3⟩ (by rw [hRm]; exact ⟨o4, o5⟩), hts _ (w5 o2).1, hts _ (w5 o2).2⟩ ⟨mx_blind, hrec', mx_pre C0 hR hS⟩ rfl (by rw [List.length_map]; exact hlen) hL.1 hstk (mx_cat_map b4) hd (by rw [hRm]; exact ⟨b5, b6⟩)
  exact mx_callGo (as := []) hS hL hrun hp K
theorem mx_c_spec (C : mx_Cx p s m args meth c R D B ρ cs M sc) {idx : Nat} (hd : decode M.2.2.1 i.1 = .ok (.invokespecial idx, 3)) (ok : mx_okC M i idx (i.2.2.2.2.1 - 1) 2 = true) (hb0 : 0 < i.2.2.2.2.1) (hp : mx_pc r = i.1 + 3) (okne : (mx_tab i.2.2.2.1).2.1.cls ≠ "") (okW : mx_okW (mx_tab i.2.2.2.1) = true) {y : Nat} {as : List Value} (hs : mx_call M i r loc st h k z true = some (.inr (.inl (y, as, c')))) {q : mx_Rs} (hM : mx_Met l D B ρ cs (mx_tab y) as c'.2.2.2.1 q) (K : mx_Sim p l e R s m args below meth c Q D B ρ cs M (mx_beh c' q)) : mx_Sim p l e R s m args below meth c Q D B ρ cs M (i :: r, loc, st, h, k, z) := by
  have C0 := C
  obtain ⟨hx, hb, hml, hown, hts, hK, hnm, hRm, hρ, hBs, hsc, hsx⟩ := C
  obtain ⟨rfl, rfl, rfl, b1, -, -, b4, b5, b6, b7⟩ := mx_call_of hs
  obtain ⟨o1, o2, o3, o4, o5, o6⟩ := mx_okC_of ok
  obtain ⟨w1, w2, w3, w4, w5, w6, w7⟩ := mx_okW_of okW
  obtain ⟨a, as', ea, ha, hl3, hcn⟩ := b7 rfl
  rw [ea] at hM
  have hlen : as'.length = i.2.2.2.2.1 - 1 := by
    have h1 : (st.take i.2.2.2.2.1).reverse.length = (Value.ref a :: as').length := by rw [ea]
    simp at h1
    omega
  refine fun H locs ls hR hS hL => ?_
  have hlen0 : c.maxLocals = M.2.2.2.1 := hml
  have hrun : va_Run p l e R s m args below meth c H locs k z (mx_rm (mx_tab i.2.2.2.1)).cells (mx_rm (mx_tab i.2.2.2.1)).slots (F0 m i.1 ls (st.map (mx_rv ρ))) ((st.drop i.2.2.2.2.1).map (mx_rv ρ)) (mx_Post D B ρ cs q ((Value.ref a :: as').map (mx_rv ρ)).toArray) (mx_A B) := by
    have hstk : st.map (mx_rv ρ) = (as'.map (mx_rv ρ)).reverse ++ .ref (ρ a) :: (st.drop i.2.2.2.2.1).map (mx_rv ρ) := by
      rw [mx_stk (b := i.2.2.2.2.1), ea]
      simp [mx_rv]
    have hM' := hM
    unfold mx_Met mx_cd at hM'
    rw [(w7 o2).2.2] at hM'
    have w1' := w1
    unfold mx_cd at w1'
    rw [(w7 o2).2.2] at w1'
    have hG : GoodIn mx_tb [.code (mx_tab i.2.2.2.1).2.1 (mx_tab i.2.2.2.1).2.2.1 (mx_tab i.2.2.2.1).2.2.2.1 none] := by
      intro w hw
      rw [List.mem_singleton.mp hw]
      exact ⟨w1', Or.inl rfl⟩
    rcases o6 with o6 | o6
    · exact va_runI (As := as'.map (mx_rv ρ)) (n := i.2.2.2.2.1 - 1) ⟨hx, hb, hml, hown, hts⟩ hM' ⟨callB_of _ hts hG rfl rfl rfl (hts _ w2) (hts _ o6) ⟨w3, w4, o3⟩ (by rw [hRm]; exact ⟨o4, o5⟩), (w7 o2).2.1, hts _ (w7 o2).1⟩ ⟨mx_blind, mx_pre C0 hR hS⟩ rfl (by rw [List.length_map]; exact hlen) hL.1 hstk (mx_cat_map b4) hd (by rw [hRm]; exact ⟨b5, b6⟩)
    · exact va_runIN (As := as'.map (mx_rv ρ)) (n := i.2.2.2.2.1 - 1) ⟨hx, hb, hml, hown, hts⟩ hM' ⟨va_cnB _ hts hG rfl rfl rfl (va_Nw.of rfl (hts _ o6)) (hts _ w2) ⟨w3, w4, o3⟩ (by rw [hRm]; exact ⟨o4, o5⟩), (w7 o2).2.1, hts _ (w7 o2).1⟩ ⟨mx_blind, mx_pre C0 hR hS⟩ rfl (by rw [List.length_map]; exact hlen) hL.1 hstk (mx_cat_map b4) hd (by rw [hRm]; exact ⟨b5, b6⟩)
  exact mx_callGo (as := []) hS hL hrun hp K
theorem mx_c_stat (C : mx_Cx p s m args meth c R D B ρ cs M sc) {idx : Nat} (hd : decode M.2.2.1 i.1 = .ok (.invokestatic idx, 3)) (ok : mx_okC M i idx i.2.2.2.2.1 1 = true) (hp : mx_pc r = i.1 + 3) (okne : (mx_tab i.2.2.2.1).2.1.cls ≠ "") (okW : mx_okW (mx_tab i.2.2.2.1) = true) {y : Nat} {as : List Value} (hs : mx_call M i r loc st h k z false = some (.inr (.inl (y, as, c')))) {q : mx_Rs} (hM : mx_Met l D B ρ cs (mx_tab y) as c'.2.2.2.1 q) (K : mx_Sim p l e R s m args below meth c Q D B ρ cs M (mx_beh c' q)) : mx_Sim p l e R s m args below meth c Q D B ρ cs M (i :: r, loc, st, h, k, z) := by
  have C0 := C
  obtain ⟨hx, hb, hml, hown, hts, hK, hnm, hRm, hρ, hBs, hsc, hsx⟩ := C
  obtain ⟨rfl, rfl, rfl, b1, -, -, b4, b5, b6, b7⟩ := mx_call_of hs
  obtain ⟨o1, o2, o3, o4, o5, o6⟩ := mx_okC_of ok
  obtain ⟨w1, w2, w3, w4, w5, w6, w7⟩ := mx_okW_of okW
  refine fun H locs ls hR hS hL => ?_
  have hlen0 : c.maxLocals = M.2.2.2.1 := hml
  have hrun : va_Run p l e R s m args below meth c H locs k z (mx_rm (mx_tab i.2.2.2.1)).cells (mx_rm (mx_tab i.2.2.2.1)).slots (F0 m i.1 ls (st.map (mx_rv ρ))) ((st.drop i.2.2.2.2.1).map (mx_rv ρ)) (mx_Post D B ρ cs q (((st.take i.2.2.2.2.1).reverse).map (mx_rv ρ)).toArray) (mx_A B) := by
    have hlen : (((st.take i.2.2.2.2.1).reverse).map (mx_rv ρ)).length = i.2.2.2.2.1 := by
      simp
      omega
    rcases o6 with o6 | o6
    · exact va_runS (As := ((st.take i.2.2.2.2.1).reverse).map (mx_rv ρ)) (n := i.2.2.2.2.1) ⟨hx, hb, hml, hown, hts⟩ hM ⟨callB_of _ hts (mx_good w1) rfl rfl rfl (hts _ w2) (hts _ o6) ⟨w3, w4, o3⟩ (by rw [hRm]; exact ⟨o4, o5⟩), hts _ (w6 o2)⟩ ⟨mx_blind, mx_pre C0 hR hS⟩ rfl hlen hL.1 mx_stk (mx_cat_map b4) hd (by rw [hRm]; exact ⟨b5, b6⟩)
    · exact va_runSN (As := ((st.take i.2.2.2.2.1).reverse).map (mx_rv ρ)) (n := i.2.2.2.2.1) ⟨hx, hb, hml, hown, hts⟩ hM ⟨va_cnB _ hts (mx_good w1) rfl rfl rfl (va_Nw.of rfl (hts _ o6)) (hts _ w2) ⟨w3, w4, o3⟩ (by rw [hRm]; exact ⟨o4, o5⟩), hts _ (w6 o2), trivial⟩ ⟨mx_blind, mx_pre C0 hR hS⟩ rfl hlen hL.1 mx_stk (mx_cat_map b4) hd (by rw [hRm]; exact ⟨b5, b6⟩)
  exact mx_callGo (as := []) hS hL hrun hp K
end Sim
