/-! each step of the light machine is one of the machine's: the heap -/
theorem mx_u (c : Nat) (hc : c < 13) : ∀ w ∈ u_ws (mx_Cn c) (mx_Tn c) (mx_nf c), w ∈ mx_tb := by
  have key : ∀ c, c < 13 → (u_ws (mx_Cn c) (mx_Tn c) (mx_nf c)).all (fun w => decide (w ∈ lw_tbl) && mx_wk w) = true := by decide +kernel
  intro w hw
  have h1 := List.all_eq_true.mp (key c hc) w hw
  simp only [Bool.and_eq_true, decide_eq_true_eq] at h1
  exact List.mem_filter.mpr h1
theorem mx_y (c : Nat) (hc : c < 13) : ∀ k, k < mx_nf c → parseFieldDescriptor (mx_Tn c k).2.2.1 = some (mx_Yn c k) := by
  have key : ∀ c, c < 13 → ∀ k, k < mx_nf c → parseFieldDescriptor (mx_Tn c k).2.2.1 = some (mx_Yn c k) := by decide +kernel
  exact key c hc
theorem mx_n (c : Nat) (hc : c < 13) : ∀ a, a < mx_nf c → ∀ b, b < mx_nf c → a ≠ b → (mx_Tn c a).2.1 ≠ (mx_Tn c b).2.1 := by
  have key : ∀ c, c < 13 → ∀ a, a < mx_nf c → ∀ b, b < mx_nf c → a ≠ b → (mx_Tn c a).2.1 ≠ (mx_Tn c b).2.1 := by decide +kernel
  exact key c hc
theorem mx_k0 (c : Nat) (hc : c < 13) : ∀ k, k < mx_nf c → (mx_fk c k = 0 → mx_Yn c k = .int) ∧ (mx_fk c k = 2 → mx_Yn c k = .boolean) ∧ (mx_fk c k = 1 → (mx_Yn c k).isReference = true) ∧ (mx_fk c k = 0 ∨ mx_fk c k = 1 ∨ mx_fk c k = 2) := by
  have key : ∀ c, c < 13 → ∀ k, k < mx_nf c → (mx_fk c k = 0 → mx_Yn c k = .int) ∧ (mx_fk c k = 2 → mx_Yn c k = .boolean) ∧ (mx_fk c k = 1 → (mx_Yn c k).isReference = true) ∧ (mx_fk c k = 0 ∨ mx_fk c k = 1 ∨ mx_fk c k = 2) := by decide +kernel
  exact key c hc
theorem mx_fit_ref {t : FieldType} (h : t.isReference = true) (a : Nat) : narrow t (.ref a) = .ref a ∧ fits t (.ref a) = true := by
  cases t <;> first | exact ⟨rfl, rfl⟩ | cases h
theorem mx_vp_in {j : Int32} {n : Nat} (h : 0 ≤ j ∧ j.toNatClampNeg < n) : vp_in j n := by
  rintro (q | q)
  · exact absurd h.1 (Int32.not_le.mpr q)
  · omega
section Sim
variable {p : Program} {l : Launch} {e : Env} {R : Room} {s : State} {m : MethodId} {args : Array Value} {below : List Frame} {meth : Method} {c : Code} {Q : State → Prop} {D : va_G} {B : Nat} {ρ : Nat → Nat} {cs : mx_Cs} {M : mx_Mt} {sc : mx_Sc}
variable {i : mx_In} {r : List mx_In} {loc : mx_Lc} {st : List Value} {h : mx_Hp} {k z : Nat} {c' : mx_Cf}
theorem mx_rho_lt (hρ : ∀ i, i < 1000 → ρ i = B + i) {H : Heap} (hR : mx_Rep D B ρ cs h H) {o : Nat} (ho : o < h.1) : ρ o = B + o := hρ o (by have := hR.1; omega)
/-- the heap behind a write into cell o -/
theorem mx_Rep_set {H1 : Heap} {h' : mx_Hp} {o : Nat} {e1 : va_E} (hn : h'.1 = h.1) (h130 : h.1 ≤ 130) (hz : H1.size = B + h.1) (ho : o < h.1) (he : mx_E ρ cs h' o = e1) (hoth : ∀ j, j ≠ o → mx_E ρ cs h' j = mx_E ρ cs h j) (hP : va_P D mx_cl ((mx_W B ρ cs h).set o (B + o, e1)) H1) : mx_Rep D B ρ cs h' H1 := by
  refine ⟨by omega, by omega, ?_⟩
  rw [mx_W_set hn ho he hoth] at hP
  exact hP
theorem mx_s_get (C : mx_Cx p s m args meth c R D B ρ cs M sc) {n : Nat} (hi : i.2.1 = .getfield n) (hd : decode M.2.2.1 i.1 = .ok (i.2.1, i.2.2.1)) (ok : mx_okO M i = true) (hp : mx_pc r = i.1 + i.2.2.1) (hs : mx_sGet i r loc st h k z = some (.inl c')) (K : mx_Sim p l e R s m args below meth c Q D B ρ cs M c') : mx_Sim p l e R s m args below meth c Q D B ρ cs M (i :: r, loc, st, h, k, z) := by
  obtain ⟨hx, hb, hml, hown, hts, hK, hnm, hRm, hρ, hBs, hsc, hsx⟩ := C
  unfold mx_okO mx_okF at ok
  rw [hi] at ok hd
  simp only [Bool.and_eq_true, Bool.or_eq_true, decide_eq_true_eq] at ok
  obtain ⟨ok1, ⟨ok2, ok3⟩, ok4⟩ := ok
  rw [ok1] at hd hp
  unfold mx_sGet at hs
  split at hs
  · rename_i o s'
    split at hs
    · rename_i hk1
      split at hs
      · rename_i v hv
        cases mx_go_eq hs
        unfold mx_gr at hv
        split at hv
        · rename_i hc
          refine fun H locs ls hR hS hL => ?_
          have he := mx_W_get (B := B) (ρ := ρ) (cs := cs) hc.1
          rw [mx_E_obj hc.2.1] at he
          have hf : ((List.range (mx_nf i.2.2.2.1)).map (fun k => mx_fv ρ h o i.2.2.2.1 k))[i.2.2.2.2.1]? = some (.ref (ρ v)) := by
            simp [ok3, mx_fv, hk1, hv, va_rf]
          have hg : W p l e R s m args below meth c H locs k z Q (F0 m i.1 ls (.ref (B + o) :: s'.map (mx_rv ρ))) := by
            rcases ok4 with q | q
            · exact va_get hx hb hts (mx_u _ ok2) hown hK hR.2.2 o he (mx_cl_get ok2) i.2.2.2.2.1 ok3 (hts _ (mx_at_in q.1)) (fun _ h => h) hf hd (mx_nx hp K hR hS hL)
            · exact va_getN hx hb hts (mx_u _ ok2) hown hK hR.2.2 o he (mx_cl_get ok2) i.2.2.2.2.1 ok3 (hts _ (mx_at_in q.1)) (fun _ h => h) hf hd (mx_nx hp K hR hS hL)
          rw [← mx_rho_lt hρ hR hc.1] at hg
          exact hg
        · cases hv
      · cases hs
    · rename_i hk1
      split at hs
      · rename_i v hv
        cases mx_go_eq hs
        unfold mx_gi at hv
        split at hv
        · rename_i hc
          cases hv
          refine fun H locs ls hR hS hL => ?_
          have he := mx_W_get (B := B) (ρ := ρ) (cs := cs) hc.1
          rw [mx_E_obj hc.2.1] at he
          have hf : ((List.range (mx_nf i.2.2.2.1)).map (fun k => mx_fv ρ h o i.2.2.2.1 k))[i.2.2.2.2.1]? = some (.int (h.2.1 o i.2.2.2.2.1)) := by
            simp [ok3, mx_fv, hk1]
          have hg : W p l e R s m args below meth c H locs k z Q (F0 m i.1 ls (.ref (B + o) :: s'.map (mx_rv ρ))) := by
            rcases ok4 with q | q
            · exact va_get hx hb hts (mx_u _ ok2) hown hK hR.2.2 o he (mx_cl_get ok2) i.2.2.2.2.1 ok3 (hts _ (mx_at_in q.1)) (fun _ h => h) hf hd (mx_nx hp K hR hS hL)
            · exact va_getN hx hb hts (mx_u _ ok2) hown hK hR.2.2 o he (mx_cl_get ok2) i.2.2.2.2.1 ok3 (hts _ (mx_at_in q.1)) (fun _ h => h) hf hd (mx_nx hp K hR hS hL)
          rw [← mx_rho_lt hρ hR hc.1] at hg
          exact hg
        · cases hv
      · cases hs
  · cases hs
/-- the field's write, whichever the link -/
theorem mx_putW (C : mx_Cx p s m args meth c R D B ρ cs M sc) {n : Nat} (hd : decode M.2.2.1 i.1 = .ok (.putfield n, 3)) (ok : mx_okF M i n true = true) {o : Nat} {v : Value} {s' : List Value} {H : Heap} {locs : List Loc} {ls : Array Slot} (hR : mx_Rep D B ρ cs h H) (hS : va_S (mx_A B) s.heap H locs) (ho : o < h.1) (hl : (mx_lay o).1 = i.2.2.2.1 + 3)
    (hn : narrow (mx_Yn i.2.2.2.1 i.2.2.2.2.1) v = v) (hfit : fits (mx_Yn i.2.2.2.1 i.2.2.2.2.1) v = true)
    (kk : ∀ (H1 : Heap) (locs1 : List Loc), va_P D mx_cl ((mx_W B ρ cs h).set o (B + o, .inr (i.2.2.2.1, ((List.range (mx_nf i.2.2.2.1)).map (fun k => mx_fv ρ h o i.2.2.2.1 k)).set i.2.2.2.2.1 v))) H1 → H1.size = H.size → va_S (mx_A B) s.heap H1 locs1 → W p l e R s m args below meth c H1 locs1 k z Q (F0 m (i.1 + 3) ls s')) : W p l e R s m args below meth c H locs k z Q (F0 m i.1 ls (v :: .ref (ρ o) :: s')) := by
  obtain ⟨hx, hb, hml, hown, hts, hK, hnm, hRm, hρ, hBs, hsc, hsx⟩ := C
  unfold mx_okF at ok
  simp only [Bool.and_eq_true, Bool.or_eq_true, decide_eq_true_eq, Bool.not_true, Bool.false_eq_true, false_or, Bool.not_eq_true'] at ok
  obtain ⟨⟨ok2, ok3⟩, ok4⟩ := ok
  have he := mx_W_get (B := B) (ρ := ρ) (cs := cs) ho
  rw [mx_E_obj hl] at he
  rw [mx_rho_lt hρ hR ho]
  have hin := mx_u _ ok2
  have hc := mx_cl_get ok2
  have hP := hR.2.2
  have hap := va_apart (own := mx_own M) hts hin (mx_Yn i.2.2.2.1) (mx_y _ ok2) (mx_n _ ok2) hK hc
  obtain ⟨r0, h1, cell, q1, q2, q3, q4⟩ := hP o _ he
  have hr : r0 = (mx_Cn i.2.2.2.1, mx_Tn i.2.2.2.1, mx_nf i.2.2.2.1) := Option.some.inj (h1.symm.trans hc)
  subst hr
  obtain ⟨hS', hfc, kC, hkC, hkind⟩ := hK.1 i.2.2.2.1 _ hc
  obtain ⟨cf, kf, fi, f, hi, hsl⟩ := hS' i.2.2.2.2.1 ok3
  have hlay := hts _ (hin _ (u_in_lay ok3))
  unfold u_lay at hlay
  have hst := (u_facts hfc hkC (u_lays hts hin ok3) hi).1
  have hl2 : i.2.2.2.2.1 < ((List.range (mx_nf i.2.2.2.1)).map (fun k => mx_fv ρ h o i.2.2.2.1 k)).length := by simpa using ok3
  have fin : ∀ H' : Heap, H'[B + o]? = some (cell.setSlot f.slot v) → H'.size = H.size → (∀ q, q ≠ B + o → H'[q]? = H[q]?) → W p l e R s m args below meth c H' (locs ++ [⟨B + o, f.slot⟩]) k z Q (F0 m (i.1 + 3) ls s') := by
    intro H' e1 e2 e3
    rw [hsl] at e1 ⊢
    exact kk H' _ (hP.set mx_W_D he ⟨_, hc, t_OB.to (V := updV (vp_V _) i.2.2.2.2.1 v) ⟨_, e1, q2, q3, t_set q4 hap ok3 v⟩ (fun j _ => vp_updV_set hl2 v j)⟩ e3) e2 (hS.put e2 e3 (Nat.le_add_right _ _))
  rcases ok4 with ⟨w, q⟩ | ⟨w, q⟩
  · rcases q with hfin | ⟨hdecl, hin2⟩
    · rw [if_neg (by rw [hfin]; decide)] at hlay
      have h6 := u_store hfc hkC hkind hlay hi (mx_y _ ok2 _ ok3) hn hfit
      exact W.putK hx hb (f := f) ⟨hown, hts _ (mx_at_in w), ⟨_, _, _, hi⟩, hst⟩ (by rw [q2]; exact h6) q1 q3 (by rw [hsl]; exact k2_hasslot (q4 _ ok3)) rfl rfl hd fin
    · by_cases hfin : (mx_Tn i.2.2.2.1 i.2.2.2.2.1).2.2.2 = true
      · rw [if_pos hfin] at hlay
        have hcf : m.cls = cf := by
          obtain ⟨_, _, c9, _, _, _, -, -, hf9, -, -, -, hown2, -⟩ := Cond.laysFinal_spec hlay
          have e1 : c9 = cf := by have := hi.symm.trans hf9; simp at this; exact this.1.symm
          rw [hdecl] at hown2
          rw [← e1]; exact Option.some.inj (hown.symm.trans hown2)
        have h6 := u_fits hfc hkC hkind (Or.inr hlay) hi (mx_y _ ok2 _ ok3) hn hfit
        exact W.putFinK hx hb hown (hts _ (mx_at_in w)) hi hst hcf (hnm hin2) (by rw [q2]; exact h6) q1 q3 (by rw [hsl]; exact k2_hasslot (q4 _ ok3)) rfl rfl hd fin
      · rw [if_neg hfin] at hlay
        have h6 := u_store hfc hkC hkind hlay hi (mx_y _ ok2 _ ok3) hn hfit
        exact W.putK hx hb (f := f) ⟨hown, hts _ (mx_at_in w), ⟨_, _, _, hi⟩, hst⟩ (by rw [q2]; exact h6) q1 q3 (by rw [hsl]; exact k2_hasslot (q4 _ ok3)) rfl rfl hd fin
  · rw [if_neg (by rw [q]; decide)] at hlay
    have h6 := u_store hfc hkC hkind hlay hi (mx_y _ ok2 _ ok3) hn hfit
    exact va_WputK hx hb (f := f) hown (hts _ (mx_at_in w)) hi hst (by rw [q2]; exact h6) q1 q3 (by rw [hsl]; exact k2_hasslot (q4 _ ok3)) rfl rfl hd fin
theorem mx_s_put (C : mx_Cx p s m args meth c R D B ρ cs M sc) {n : Nat} (hi : i.2.1 = .putfield n) (hd : decode M.2.2.1 i.1 = .ok (i.2.1, i.2.2.1)) (ok : mx_okO M i = true) (hp : mx_pc r = i.1 + i.2.2.1) (hs : mx_sPut i r loc st h k z = some (.inl c')) (K : mx_Sim p l e R s m args below meth c Q D B ρ cs M c') : mx_Sim p l e R s m args below meth c Q D B ρ cs M (i :: r, loc, st, h, k, z) := by
  have C0 := C
  obtain ⟨hx, hb, hml, hown, hts, hK, hnm, hRm, hρ, hBs, hsc, hsx⟩ := C
  unfold mx_okO at ok
  rw [hi] at ok hd
  simp only [Bool.and_eq_true, decide_eq_true_eq] at ok
  obtain ⟨ok1, ok2⟩ := ok
  rw [ok1] at hd hp
  unfold mx_sPut at hs
  split at hs
  · rename_i v o s'
    split at hs
    · rename_i h' hv
      cases mx_go_eq hs
      unfold mx_pi at hv
      split at hv
      · rename_i hc
        cases hv
        have hb13 := mx_fk_lt (c := i.2.2.2.1) (k := i.2.2.2.2.1) (by rcases hc.2.2 with q | q <;> omega)
        have hkk := mx_k0 _ hb13.1 _ hb13.2
        have hne1 : ¬ mx_fk i.2.2.2.1 i.2.2.2.2.1 = 1 := by rcases hc.2.2 with q | q <;> omega
        have hnf : narrow (mx_Yn i.2.2.2.1 i.2.2.2.2.1) (.int v) = .int v ∧ fits (mx_Yn i.2.2.2.1 i.2.2.2.2.1) (.int v) = true := by
          rcases hc.2.2 with q | ⟨q, hv⟩
          · rw [hkk.1 q]; exact ⟨rfl, rfl⟩
          · rw [hkk.2.1 q]
            rcases hv with rfl | rfl <;> exact ⟨rfl, rfl⟩
        refine fun H locs ls hR hS hL => mx_putW C0 hd ok2 hR hS hc.1 hc.2.1 hnf.1 hnf.2 (fun H1 locs1 hP1 hz1 hS1 => ?_)
        refine mx_nx hp K (mx_Rep_set (h := h) rfl hR.1 (by rw [hz1]; exact hR.2.1) hc.1 ?_ (fun j hj => mx_E_cong (mx_up_row hj) rfl) hP1) hS1 hL
        rw [mx_E_obj hc.2.1]
        refine congrArg (fun q => Sum.inr (i.2.2.2.1, q)) ?_
        rw [← mx_range_set (f := fun k => mx_fv ρ h o i.2.2.2.1 k) hb13.2]
        · simp [mx_fv, hne1, mx_up, mx_rv]
        · intro j hj
          simp [mx_fv, mx_up, hj]
      · cases hv
    · cases hs
  · rename_i v o s'
    split at hs
    · rename_i h' hv
      cases mx_go_eq hs
      unfold mx_pr at hv
      split at hv
      · rename_i hc
        cases hv
        have hb13 := mx_fk_lt (c := i.2.2.2.1) (k := i.2.2.2.2.1) (by omega)
        have hkk := mx_k0 _ hb13.1 _ hb13.2
        have hnf := mx_fit_ref (hkk.2.2.1 hc.2.2) (ρ v)
        refine fun H locs ls hR hS hL => mx_putW C0 hd ok2 hR hS hc.1 hc.2.1 hnf.1 hnf.2 (fun H1 locs1 hP1 hz1 hS1 => ?_)
        refine mx_nx hp K (mx_Rep_set (h := h) rfl hR.1 (by rw [hz1]; exact hR.2.1) hc.1 ?_ (fun j hj => mx_E_cong rfl (mx_up_row hj)) hP1) hS1 hL
        rw [mx_E_obj hc.2.1]
        refine congrArg (fun q => Sum.inr (i.2.2.2.1, q)) ?_
        rw [← mx_range_set (f := fun k => mx_fv ρ h o i.2.2.2.1 k) hb13.2]
        · simp [mx_fv, hc.2.2, mx_up, va_rf, mx_rv]
        · intro j hj
          simp [mx_fv, mx_up, hj]
      · cases hv
    · cases hs
  · cases hs
theorem mx_s_iald (C : mx_Cx p s m args meth c R D B ρ cs M sc) (hi : i.2.1 = .iaload) (hd : decode M.2.2.1 i.1 = .ok (i.2.1, i.2.2.1)) (ok : mx_okO M i = true) (hp : mx_pc r = i.1 + i.2.2.1) (hs : mx_sIald sc r loc st h k z = some (.inl c')) (K : mx_Sim p l e R s m args below meth c Q D B ρ cs M c') : mx_Sim p l e R s m args below meth c Q D B ρ cs M (i :: r, loc, st, h, k, z) := by
  obtain ⟨hx, hb, hml, hown, hts, hK, hnm, hRm, hρ, hBs, hsc, hsx⟩ := C
  unfold mx_okO at ok
  rw [hi] at ok hd
  simp only [Bool.and_eq_true, decide_eq_true_eq] at ok
  rw [ok] at hd hp
  unfold mx_sIald at hs
  split at hs
  · rename_i j o s'
    split at hs
    · rename_i hscr
      split at hs
      · rename_i hc
        cases mx_go_eq hs
        obtain ⟨x1, x2, x3⟩ := hsc hc.1
        subst hscr
        exact fun H locs ls hR hS hL => va_sld hx hb x1 x2 (A := mx_A B) (by unfold mx_A; omega) hS (mx_vp_in hc.2) hd (mx_nx hp K hR hS hL)
      · cases hs
    · split at hs
      · rename_i v hv
        cases mx_go_eq hs
        unfold mx_al at hv
        split at hv
        · rename_i hc
          cases hv
          refine fun H locs ls hR hS hL => ?_
          have he := mx_W_get (B := B) (ρ := ρ) (cs := cs) hc.1
          rw [mx_E_arr hc.2.1] at he
          have hg : W p l e R s m args below meth c H locs k z Q (F0 m i.1 ls (.int j :: .ref (B + o) :: s'.map (mx_rv ρ))) := va_iald hx hb hK hR.2.2 o 0 he rfl (mx_vp_in hc.2.2) hd (mx_nx hp K hR hS hL)
          rw [← mx_rho_lt hρ hR hc.1] at hg
          exact hg
        · cases hv
      · cases hs
  · cases hs
theorem mx_s_iast (C : mx_Cx p s m args meth c R D B ρ cs M sc) (hi : i.2.1 = .iastore) (hd : decode M.2.2.1 i.1 = .ok (i.2.1, i.2.2.1)) (ok : mx_okO M i = true) (hp : mx_pc r = i.1 + i.2.2.1) (hs : mx_sIast r loc st h k z = some (.inl c')) (K : mx_Sim p l e R s m args below meth c Q D B ρ cs M c') : mx_Sim p l e R s m args below meth c Q D B ρ cs M (i :: r, loc, st, h, k, z) := by
  obtain ⟨hx, hb, hml, hown, hts, hK, hnm, hRm, hρ, hBs, hsc, hsx⟩ := C
  unfold mx_okO at ok
  rw [hi] at ok hd
  simp only [Bool.and_eq_true, decide_eq_true_eq] at ok
  rw [ok] at hd hp
  unfold mx_sIast at hs
  split at hs
  · rename_i v j o s'
    split at hs
    · rename_i h' hv
      cases mx_go_eq hs
      unfold mx_as at hv
      split at hv
      · rename_i hc
        cases hv
        refine fun H locs ls hR hS hL => ?_
        have he := mx_W_get (B := B) (ρ := ρ) (cs := cs) hc.1
        rw [mx_E_arr hc.2.1] at he
        have hin := mx_vp_in hc.2.2
        have hP := hR.2.2
        have hg : W p l e R s m args below meth c H locs k z Q (F0 m i.1 ls (.int v :: .int j :: .ref (B + o) :: s'.map (mx_rv ρ))) := by
          refine W.iast hx hb (hP o _ he) ((hK.2 0 _ rfl).1 (mx_lay o).2 (fun j => .int (h.2.1 o j))) (fun q => by cases q) (by show ¬ (j < 0 ∨ (arrV _ _ _).slots.size ≤ _); rw [arrV_size]; exact hin) rfl rfl hd fun H1 e z1 oq => ?_
          refine mx_nx hp K (mx_Rep_set (h := h) (o := o) (e1 := .inl (cs.1, (mx_lay o).2, .inl (upd (h.2.1 o) j.toNatClampNeg v))) rfl hR.1 (by rw [z1]; exact hR.2.1) hc.1 ?_ (fun j hj => mx_E_cong (mx_up_row hj) rfl) (hP.set mx_W_D he ?_ oq)) (hS.put z1 oq (Nat.le_add_right _ _)) hL
          · rw [mx_E_arr hc.2.1]
            dsimp only
            rw [mx_up_upd]
          · show H1[B + o]? = some (vp_cell _ _)
            rw [e]
            rw [vp_cell_i, vp_cell_i, arrV_store]
            congr 2
            funext q
            by_cases hq : q = j.toNatClampNeg
            · subst hq
              simp [updV, upd]
            · simp [updV, upd, hq]
        rw [← mx_rho_lt hρ hR hc.1] at hg
        exact hg
      · cases hv
    · cases hs
  · cases hs
theorem mx_s_aald (C : mx_Cx p s m args meth c R D B ρ cs M sc) (hi : i.2.1 = .aaload) (hd : decode M.2.2.1 i.1 = .ok (i.2.1, i.2.2.1)) (ok : mx_okO M i = true) (hp : mx_pc r = i.1 + i.2.2.1) (hs : mx_sAald r loc st h k z = some (.inl c')) (K : mx_Sim p l e R s m args below meth c Q D B ρ cs M c') : mx_Sim p l e R s m args below meth c Q D B ρ cs M (i :: r, loc, st, h, k, z) := by
  obtain ⟨hx, hb, hml, hown, hts, hK, hnm, hRm, hρ, hBs, hsc, hsx⟩ := C
  unfold mx_okO at ok
  rw [hi] at ok hd
  simp only [Bool.and_eq_true, decide_eq_true_eq] at ok
  rw [ok] at hd hp
  unfold mx_sAald at hs
  split at hs
  · rename_i j o s'
    split at hs
    · rename_i v hv
      cases mx_go_eq hs
      unfold mx_rl at hv
      split at hv
      · rename_i hc
        refine fun H locs ls hR hS hL => ?_
        have he := mx_W_get (B := B) (ρ := ρ) (cs := cs) hc.1
        have hin := mx_vp_in hc.2.2
        have hcl : ∃ (t0 : Nat) (cA : ClassId) (ty : FieldType), (mx_tys cs)[t0]? = some (cA, ty) ∧ ty.isReference = true ∧ mx_E ρ cs h o = .inl (cA, (mx_lay o).2, .inr (.inr (.inr (.inr (fun j => (h.2.2 o j).map ρ))))) := by
          rcases hc.2.1 with q | q
          · exact ⟨1, _, _, rfl, rfl, mx_E_arS q⟩
          · exact ⟨2, _, _, rfl, rfl, mx_E_arJ q⟩
        obtain ⟨t0, cA, ty, ht, hty, hE⟩ := hcl
        rw [hE] at he
        have hcell := hR.2.2 o _ he
        have hg : W p l e R s m args below meth c H locs k z Q (F0 m i.1 ls (.int j :: .ref (B + o) :: s'.map (mx_rv ρ))) := by
          refine W.aald (v := .ref (ρ v)) hx hb hcell ((hK.2 t0 _ ht).1 (mx_lay o).2 (fun j => va_rf ((h.2.2 o j).map ρ))) hty (fun q => by cases q) (by show ¬ (j < 0 ∨ (arrV _ _ _).slots.size ≤ _); rw [arrV_size]; exact hin) (by show (arrV _ _ _).slots[_]? = _; rw [arrV_read _ _ hc.2.2.2]; dsimp only; rw [hv]; rfl) rfl rfl hd (mx_nx hp K hR hS hL)
        rw [← mx_rho_lt hρ hR hc.1] at hg
        exact hg
      · cases hv
    · cases hs
  · cases hs
theorem mx_s_aast (C : mx_Cx p s m args meth c R D B ρ cs M sc) (hi : i.2.1 = .aastore) (hd : decode M.2.2.1 i.1 = .ok (i.2.1, i.2.2.1)) (ok : mx_okO M i = true) (hp : mx_pc r = i.1 + i.2.2.1) (hs : mx_sAast r loc st h k z = some (.inl c')) (K : mx_Sim p l e R s m args below meth c Q D B ρ cs M c') : mx_Sim p l e R s m args below meth c Q D B ρ cs M (i :: r, loc, st, h, k, z) := by
  obtain ⟨hx, hb, hml, hown, hts, hK, hnm, hRm, hρ, hBs, hsc, hsx⟩ := C
  unfold mx_okO at ok
  rw [hi] at ok hd
  simp only [Bool.and_eq_true, decide_eq_true_eq] at ok
  rw [ok] at hd hp
  unfold mx_sAast at hs
  split at hs
  · rename_i v j o s'
    split at hs
    · rename_i h' hv
      cases mx_go_eq hs
      unfold mx_rs at hv
      split at hv
      · rename_i hc
        cases hv
        refine fun H locs ls hR hS hL => ?_
        have he := mx_W_get (B := B) (ρ := ρ) (cs := cs) hc.1
        rw [mx_E_arS hc.2.1] at he
        have hev := mx_W_get (B := B) (ρ := ρ) (cs := cs) hc.2.2.2.1
        rw [mx_E_obj (c := 9) hc.2.2.2.2] at hev
        have hin := mx_vp_in hc.2.2.1
        have hP := hR.2.2
        have hg : W p l e R s m args below meth c H locs k z Q (F0 m i.1 ls (.ref (B + v) :: .int j :: .ref (B + o) :: s'.map (mx_rv ρ))) := by
          have h0 : ¬ j < 0 := fun q => hin (Or.inl q)
          obtain ⟨r', hr', cellV, g1, g2, g3, -⟩ := hP v _ hev
          have hcls := (hK.1 9 _ rfl).2
          obtain ⟨kA, comp, k1, k2, k3, -⟩ := (hK.2 1 _ rfl).2
          have hcomp : comp = D.1 9 := Option.some.inj (k3.symm.trans hcls.1)
          subst hcomp
          obtain ⟨kC, hkC, -⟩ := hcls.2
          refine W.aast hx hb (hP o _ he) (fun q h => by cases h) (fun h => by cases h) k1 k2 rfl hkC ⟨h0, by show _ < (arrV _ _ _).slots.size; rw [arrV_size]; exact hc.2.2.1.2⟩ g1 (fun q h => by rw [g3] at h; cases h) (by rw [g2]; exact hkC) (by rw [g2]; exact va_assign hcls) rfl rfl hd fun H1 e z1 oq => ?_
          refine mx_nx hp K (mx_Rep_set (h := h) (o := o) (e1 := .inl (cs.2.1, (mx_lay o).2, .inr (.inr (.inr (.inr (va_up (fun j => (h.2.2 o j).map ρ) j.toNatClampNeg (some (B + v)))))))) rfl hR.1 (by rw [z1]; exact hR.2.1) hc.1 ?_ (fun j hj => mx_E_cong rfl (mx_up_row hj)) (hP.set mx_W_D he ?_ oq)) (hS.put z1 oq (Nat.le_add_right _ _)) hL
          · rw [mx_E_arS hc.2.1]
            have hfun : (fun q => (mx_up h.2.2 o j.toNatClampNeg (some v) o q).map ρ) = va_up (fun j => (h.2.2 o j).map ρ) j.toNatClampNeg (some (B + v)) := by
              funext q
              by_cases hq : q = j.toNatClampNeg
              · subst hq
                simp [mx_up, va_up, mx_rho_lt hρ hR hc.2.2.2.1]
              · simp [mx_up, va_up, hq]
            rw [hfun]
          · show H1[B + o]? = some (vp_cell _ _)
            rw [e]
            rw [vp_cell_q, vp_cell_q, arrV_store]
            congr 2
            funext q
            by_cases hq : q = j.toNatClampNeg
            · subst hq
              simp [updV, va_up, va_rf]
            · simp [updV, va_up, hq]
        rw [← mx_rho_lt hρ hR hc.1, ← mx_rho_lt hρ hR hc.2.2.2.1] at hg
        exact hg
      · cases hv
    · cases hs
  · cases hs
theorem mx_s_alen (C : mx_Cx p s m args meth c R D B ρ cs M sc) (hi : i.2.1 = .arraylength) (hd : decode M.2.2.1 i.1 = .ok (i.2.1, i.2.2.1)) (ok : mx_okO M i = true) (hp : mx_pc r = i.1 + i.2.2.1) (hs : mx_sAlen sc r loc st h k z = some (.inl c')) (K : mx_Sim p l e R s m args below meth c Q D B ρ cs M c') : mx_Sim p l e R s m args below meth c Q D B ρ cs M (i :: r, loc, st, h, k, z) := by
  obtain ⟨hx, hb, hml, hown, hts, hK, hnm, hRm, hρ, hBs, hsc, hsx⟩ := C
  unfold mx_okO at ok
  rw [hi] at ok hd
  simp only [Bool.and_eq_true, decide_eq_true_eq] at ok
  rw [ok] at hd hp
  unfold mx_sAlen at hs
  split at hs
  · rename_i o s'
    split at hs
    · rename_i hscr
      split at hs
      · rename_i hc
        cases mx_go_eq hs
        obtain ⟨x1, x2, x3⟩ := hsc hc
        subst hscr
        exact fun H locs ls hR hS hL => va_slen hx hb x1 x2 (A := mx_A B) (by unfold mx_A; omega) hS hd (mx_nx hp K hR hS hL)
      · cases hs
    · split at hs
      · rename_i v hv
        cases mx_go_eq hs
        unfold mx_ln at hv
        split at hv
        · rename_i hc
          cases hv
          refine fun H locs ls hR hS hL => ?_
          have he := mx_W_get (B := B) (ρ := ρ) (cs := cs) hc.1
          have hg : W p l e R s m args below meth c H locs k z Q (F0 m i.1 ls (.ref (B + o) :: s'.map (mx_rv ρ))) := by
            rcases hc.2 with q | q | q
            · rw [mx_E_arr q] at he
              exact va_alen hx hb hK hR.2.2 o 0 he rfl rfl hd (mx_nx hp K hR hS hL)
            · rw [mx_E_arS q] at he
              exact va_alen hx hb hK hR.2.2 o 1 he rfl rfl hd (mx_nx hp K hR hS hL)
            · rw [mx_E_arJ q] at he
              exact va_alen hx hb hK hR.2.2 o 2 he rfl rfl hd (mx_nx hp K hR hS hL)
          rw [← mx_rho_lt hρ hR hc.1] at hg
          exact hg
        · cases hv
      · cases hs
  · cases hs
/-- the heap behind a new cell -/
theorem mx_Rep_new {H H1 : Heap} (hR : mx_Rep D B ρ cs h H) (hz : H1.size = H.size + 1) (ho : ∀ q, q < H.size → H1[q]? = H[q]?) (h130 : h.1 < 130) (hnew : va_at D mx_cl (B + h.1, mx_E ρ cs (mx_new h) h.1) H1) : mx_Rep D B ρ cs (mx_new h) H1 := by
  have hz0 := hR.2.1
  refine ⟨h130, by show H1.size = B + (h.1 + 1); omega, fun j q hq => ?_⟩
  obtain ⟨hj, rfl⟩ := mx_W_inv hq
  by_cases hl : j < h.1
  · have h1 := hR.2.2 j _ (mx_W_get hl)
    have e1 : mx_E ρ cs (mx_new h) j = mx_E ρ cs h j := mx_E_cong (by funext a; simp [mx_new, mx_fr, Nat.ne_of_lt hl]) (by funext a; simp [mx_new, mx_fr, Nat.ne_of_lt hl])
    rw [e1]
    exact h1.kept (ho _ (by show B + j < H.size; omega))
  · have : j = h.1 := by
      have : j < h.1 + 1 := hj
      omega
    subst this
    exact hnew
theorem mx_S_new {H H1 : Heap} {locs : List Loc} (hS : va_S (mx_A B) s.heap H locs) (hz : H.size ≤ H1.size) (ho : ∀ q, q < H.size → H1[q]? = H[q]?) : va_S (mx_A B) s.heap H1 locs := ⟨Nat.le_trans hS.1 hz, fun x h1 h2 => (ho x (Nat.lt_of_lt_of_le h1 hS.1)).trans (hS.2.1 x h1 h2), hS.2.2⟩
theorem mx_default (c : Nat) (hc : c < 13) : ∀ k, k < mx_nf c → defaultValue (mx_Yn c k) = if mx_fk c k = 1 then .null else .int 0 := by
  have key : ∀ c, c < 13 → ∀ k, k < mx_nf c → defaultValue (mx_Yn c k) = if mx_fk c k = 1 then .null else .int 0 := by decide +kernel
  exact key c hc
theorem mx_s_new (C : mx_Cx p s m args meth c R D B ρ cs M sc) {n : Nat} (hi : i.2.1 = .new n) (hd : decode M.2.2.1 i.1 = .ok (i.2.1, i.2.2.1)) (ok : mx_okO M i = true) (hp : mx_pc r = i.1 + i.2.2.1) (hs : mx_sNew M i r loc st h k z = some (.inl c')) (K : mx_Sim p l e R s m args below meth c Q D B ρ cs M c') : mx_Sim p l e R s m args below meth c Q D B ρ cs M (i :: r, loc, st, h, k, z) := by
  obtain ⟨hx, hb, hml, hown, hts, hK, hnm, hRm, hρ, hBs, hsc, hsx⟩ := C
  unfold mx_okO at ok
  rw [hi] at ok hd
  simp only [Bool.and_eq_true, decide_eq_true_eq] at ok
  obtain ⟨⟨⟨ok1, ok2⟩, ok3⟩, ok4⟩ := ok
  rw [ok1] at hd hp
  unfold mx_sNew at hs
  split at hs
  · rename_i hc
    cases mx_go_eq hs
    refine fun H locs ls hR hS hL => ?_
    have hKn := hK.1 i.2.2.2.1 _ (mx_cl_get hc.2.1)
    have h130 : h.1 < 130 := mx_lay_lt (by rw [hc.1]; have := hc.2.1; omega)
    refine W.newcK hx hb hown (hts _ (mx_at_in ok2)) (hts _ (mx_at_in ok3)) (hts _ (mx_at_in ok4)) rfl hd (by rw [hRm]; exact hc.2.2.1) (by rw [hRm]; exact hc.2.2.2) hKn.2.1 rfl fun H1 kC hkC e1 z1 o1 => ?_
    have hw := mx_nx hp K (mx_Rep_new hR z1 o1 h130 ?_) (mx_S_new hS (by omega) o1) hL
    · have hz0 := hR.2.1
      have e2 : (Value.ref h.1 :: st).map (mx_rv ρ) = .ref H.size :: st.map (mx_rv ρ) := by
        show Value.ref (ρ h.1) :: _ = _
        rw [hρ h.1 (by omega), hz0]
      rw [e2] at hw
      exact hw
    · rw [mx_E_obj hc.1]
      refine ⟨_, mx_cl_get hc.2.1, ?_⟩
      have hb0 := u_born (mx_Yn i.2.2.2.1) hts (mx_u _ hc.2.1) hKn hkC e1 (mx_y _ hc.2.1)
      have hz0 := hR.2.1
      rw [← hz0]
      refine hb0.to (fun j hj => ?_)
      rw [mx_default _ hc.2.1 j hj]
      unfold vp_V
      rw [List.getD_eq_getElem?_getD]
      by_cases h1 : mx_fk i.2.2.2.1 j = 1
      · simp [hj, mx_fv, h1, mx_new, mx_fr, va_rf]
      · simp [hj, mx_fv, h1, mx_new, mx_fr]
  · cases hs
theorem mx_s_newa (C : mx_Cx p s m args meth c R D B ρ cs M sc) {n : ArrayType} (hi : i.2.1 = .newarray n) (hd : decode M.2.2.1 i.1 = .ok (i.2.1, i.2.2.1)) (ok : mx_okO M i = true) (hp : mx_pc r = i.1 + i.2.2.1) (hs : mx_sNewa M r loc st h k z = some (.inl c')) (K : mx_Sim p l e R s m args below meth c Q D B ρ cs M c') : mx_Sim p l e R s m args below meth c Q D B ρ cs M (i :: r, loc, st, h, k, z) := by
  obtain ⟨hx, hb, hml, hown, hts, hK, hnm, hRm, hρ, hBs, hsc, hsx⟩ := C
  unfold mx_okO at ok
  rw [hi] at ok hd
  simp only [Bool.and_eq_true, decide_eq_true_eq] at ok
  obtain ⟨⟨ok1, ok2⟩, ok3⟩ := ok
  rw [ok1] at hd hp
  subst ok2
  unfold mx_sNewa at hs
  split at hs
  · rename_i n s'
    split at hs
    · rename_i hc
      cases mx_go_eq hs
      refine fun H locs ls hR hS hL => ?_
      have h130 : h.1 < 130 := mx_lay_lt (by rw [hc.1]; exact fun q => by cases q)
      refine va_newaK (atype := .int) hx hb (hts _ (mx_at_in ok3)) rfl hd rfl (Int32.not_lt.mpr hc.2.1) rfl (by show _ * 4 ≤ _; have := hc.2.2.1; omega) (by rw [hRm]; exact hc.2.2.2.1) (by rw [hRm]; exact hc.2.2.2.2) rfl fun H1 cA e1 z1 o1 hAr hNm => ?_
      have hcI : cs.1 = cA := Option.some.inj ((hK.2 0 _ rfl).2.symm.trans hNm)
      have hw := mx_nx hp K (mx_Rep_new hR z1 o1 h130 ?_) (mx_S_new hS (by omega) o1) hL
      · have hz0 := hR.2.1
        have e2 : (Value.ref h.1 :: s').map (mx_rv ρ) = .ref H.size :: s'.map (mx_rv ρ) := by
          show Value.ref (ρ h.1) :: _ = _
          rw [hρ h.1 (by omega), hz0]
        rw [e2] at hw
        exact hw
      · rw [mx_E_arr (by rw [hc.1])]
        show H1[B + h.1]? = some (vp_cell _ _)
        rw [← hR.2.1, e1, vp_cell_i, hc.1, hcI]
        refine congrArg some (congrArg (arrV cA n.toNatClampNeg) (funext fun j => ?_))
        simp [mx_new, mx_fr, newarray.typeOf, defaultValue]
    · cases hs
  · cases hs
theorem mx_s_newq (C : mx_Cx p s m args meth c R D B ρ cs M sc) {n : Nat} (hi : i.2.1 = .anewarray n) (hd : decode M.2.2.1 i.1 = .ok (i.2.1, i.2.2.1)) (ok : mx_okO M i = true) (hp : mx_pc r = i.1 + i.2.2.1) (hs : mx_sNewq M r loc st h k z = some (.inl c')) (K : mx_Sim p l e R s m args below meth c Q D B ρ cs M c') : mx_Sim p l e R s m args below meth c Q D B ρ cs M (i :: r, loc, st, h, k, z) := by
  obtain ⟨hx, hb, hml, hown, hts, hK, hnm, hRm, hρ, hBs, hsc, hsx⟩ := C
  unfold mx_okO at ok
  rw [hi] at ok hd
  simp only [Bool.and_eq_true, decide_eq_true_eq] at ok
  obtain ⟨⟨ok1, ok2⟩, ok3⟩ := ok
  rw [ok1] at hd hp
  unfold mx_sNewq at hs
  split at hs
  · rename_i n s'
    split at hs
    · rename_i hc
      cases mx_go_eq hs
      refine fun H locs ls hR hS hL => ?_
      have h130 : h.1 < 130 := mx_lay_lt (by rw [hc.1]; exact fun q => by cases q)
      refine W.anew hx hb hown (hts _ (mx_at_in ok2)) (hts _ (mx_at_in ok3)) rfl hd rfl (Int32.not_lt.mpr hc.2.1) (by have := hc.2.2.1; omega) (by rw [hRm]; exact hc.2.2.2.1) (by rw [hRm]; exact hc.2.2.2.2) fun cA kA comp f1 f2 f3 f4 => ?_
      generalize hH1 : H.push ({ cls := cA, slots := Array.replicate n.toNatClampNeg .null, vm := .none } : Cell) = H1
      have z1 : H1.size = H.size + 1 := by rw [← hH1, Array.size_push]
      have e1 : H1[H.size]? = some (arrV cA n.toNatClampNeg (fun _ => .null)) := by rw [← hH1, Array.getElem?_push_size, ← arrV_new]
      have o1 : ∀ q : Nat, q < H.size → H1[q]? = H[q]? := fun q hq => by rw [← hH1, Array.getElem?_push, if_neg (Nat.ne_of_lt hq)]
      have hcS : cs.2.1 = cA := by
        obtain ⟨kA2, comp2, -, -, -, k4⟩ := (hK.2 1 _ rfl).2
        exact Option.some.inj (k4.symm.trans f1)
      have hw := mx_nx hp K (mx_Rep_new hR z1 o1 h130 ?_) (mx_S_new hS (by omega) o1) hL
      · have hz0 := hR.2.1
        have e2 : (Value.ref h.1 :: s').map (mx_rv ρ) = .ref H.size :: s'.map (mx_rv ρ) := by
          show Value.ref (ρ h.1) :: _ = _
          rw [hρ h.1 (by omega), hz0]
        rw [e2] at hw
        exact hw
      · rw [mx_E_arS (by rw [hc.1])]
        show H1[B + h.1]? = some (vp_cell _ _)
        rw [← hR.2.1, e1, vp_cell_q, hc.1, hcS]
        refine congrArg some (congrArg (arrV cA n.toNatClampNeg) (funext fun j => ?_))
        simp [mx_new, mx_fr, va_rf]
    · cases hs
  · cases hs
end Sim
