/-! rows of rows; the text's own calls; what a step leads to -/
theorem mx_outer (c : ClassId) (N h0 : Nat) : ∀ i : Nat, Jvm.Free.Multi.outerC c N h0 i = arrV c N (fun j => va_rf (if j < i then some (h0 + 1 + j) else none))
  | 0 => by
    show ({ cls := c, slots := Array.replicate N .null, vm := .none } : Cell) = _
    rw [arrV_new]
    refine congrArg (arrV c N) (funext fun j => ?_)
    simp [va_rf]
  | i + 1 => by
    show (Jvm.Free.Multi.outerC c N h0 i).setSlot i (.ref (h0 + 1 + i)) = _
    rw [mx_outer c N h0 i, arrV_store]
    refine congrArg (arrV c N) (funext fun j => ?_)
    by_cases e : j = i
    · subst e
      simp [updV, va_rf]
    · by_cases h : j < i
      · simp [updV, e, h, Nat.lt_succ_of_lt h]
      · simp [updV, e, h, show ¬ j < i + 1 by omega]
section Sim
variable {p : Program} {l : Launch} {e : Env} {R : Room} {s : State} {m : MethodId} {args : Array Value} {below : List Frame} {meth : Method} {c : Code} {Q : State → Prop} {D : va_G} {B : Nat} {ρ : Nat → Nat} {cs : mx_Cs} {M : mx_Mt} {sc : mx_Sc}
variable {i : mx_In} {r : List mx_In} {loc : mx_Lc} {st : List Value} {h : mx_Hp} {k z : Nat} {c' : mx_Cf}
theorem mx_s_mna (C : mx_Cx p s m args meth c R D B ρ cs M sc) {n d : Nat} (hi : i.2.1 = .multianewarray n d) (hd : decode M.2.2.1 i.1 = .ok (i.2.1, i.2.2.1)) (ok : mx_okO M i = true) (hp : mx_pc r = i.1 + i.2.2.1) (hs : mx_sMna M r loc st h k z = some (.inl c')) (K : mx_Sim p l e R s m args below meth c Q D B ρ cs M c') : mx_Sim p l e R s m args below meth c Q D B ρ cs M (i :: r, loc, st, h, k, z) := by
  obtain ⟨hx, hb, hml, hown, hts, hK, hnm, hRm, hρ, hBs, hsc, hsx⟩ := C
  unfold mx_okO at ok
  rw [hi] at ok hd
  simp only [Bool.and_eq_true, decide_eq_true_eq] at ok
  obtain ⟨⟨⟨⟨ok1, ok2⟩, ok3⟩, ok4⟩, ok5⟩ := ok
  rw [ok1] at hd hp
  subst ok2
  unfold mx_sMna at hs
  split at hs
  · rename_i b n' s'
    split at hs
    · rename_i hc
      cases mx_go_eq hs
      obtain ⟨rfl, rfl, hl0, hl1, hk1, hz1⟩ := hc
      refine fun H locs ls hR hS hL => ?_
      have hlr : ∀ j, j < 10 → mx_lay (h.1 + 1 + j) = (0, 10) := fun j hj => of_decide_eq_true (List.all_eq_true.mp hl1 j (List.mem_range.mpr hj))
      have h130 : h.1 + 10 < 130 := by
        have := mx_lay_lt (o := h.1 + 1 + 9) (by rw [hlr 9 (by omega)]; exact fun q => by cases q)
        omega
      have hz0 : H.size = B + h.1 := hR.2.1
      intro T hT X
      obtain ⟨vm₁, cA, comp, -, fA, fC, -, -, X', step⟩ := X.multianewarray2F hx hown (hts _ (mx_at_in ok3)) (hts _ (mx_at_in ok4)) (hts _ (mx_at_in ok5)) (g := F0 m i.1 ls (.int 10 :: .int 10 :: s'.map (mx_rv ρ))) rfl (by rw [hb]; exact hd) rfl (by decide) (by decide) (by decide) (by decide) (by decide) rfl rfl (by rw [hRm]; exact hk1) (by rw [hRm]; exact hz1)
      have hcI : cs.1 = comp := Option.some.inj ((hK.2 0 _ rfl).2.symm.trans fC)
      have hcJ : cs.2.2 = cA := Option.some.inj ((hK.2 2 _ rfl).2.symm.trans fA)
      have t10 : (10 : Int32).toNatClampNeg = 10 := by decide
      rw [t10] at X' step
      generalize hF : Jvm.Free.Multi.fill (T.setVm vm₁) cA comp 10 10 (defaultValue .int) 10 = F at X' step
      have hTh : (T.setVm vm₁).heap = H := hT
      obtain ⟨f1, f2, -, -⟩ := Jvm.Free.Multi.fill_facts (T.setVm vm₁) cA comp 10 10 (defaultValue .int) 10
      rw [hF, hTh] at f1 f2
      have hold : ∀ x : Nat, x < H.size → F.heap[x]? = H[x]? := fun x hx => by
        have := Jvm.Free.Multi.fill_old (T.setVm vm₁) cA comp 10 10 (defaultValue .int) (a := x) (by rw [hTh]; exact hx) 10
        rw [hF, hTh] at this
        exact this
      have hrow : ∀ j : Nat, j < 10 → F.heap[H.size + 1 + j]? = some (Jvm.Free.Multi.innerC comp 10 (defaultValue .int)) := fun j hj => by
        have := Jvm.Free.Multi.fill_inner (T.setVm vm₁) cA comp 10 10 (defaultValue .int) 10 j hj
        rw [hF, hTh] at this
        exact this
      have hRep : mx_Rep D B ρ cs (mx_mna h) F.heap := by
        refine ⟨by show h.1 + 11 ≤ 130; omega, by show F.heap.size = B + (h.1 + 11); omega, fun j q hq => ?_⟩
        obtain ⟨hj, rfl⟩ := mx_W_inv hq
        have hj : j < h.1 + 11 := hj
        by_cases hjl : j < h.1
        · have e1 : mx_E ρ cs (mx_mna h) j = mx_E ρ cs h j := mx_E_cong (by funext a; simp [mx_mna]; omega) (by funext a; show (if j = h.1 then _ else if h.1 < j ∧ j < h.1 + 11 then none else h.2.2 j a) = h.2.2 j a; rw [if_neg (by omega), if_neg (by omega)])
          rw [e1]
          exact (hR.2.2 j _ (mx_W_get hjl)).kept (hold _ (by show B + j < H.size; omega))
        · by_cases hje : j = h.1
          · subst hje
            rw [mx_E_arJ (by rw [hl0])]
            show F.heap[B + h.1]? = some (vp_cell _ _)
            rw [← hz0, f2, mx_outer, vp_cell_q, hl0, hcJ]
            refine congrArg some (congrArg (arrV cA 10) (funext fun j => ?_))
            simp only [mx_mna, if_true]
            by_cases h10 : j < 10
            · rw [if_pos h10, if_pos h10]
              show va_rf (some (H.size + 1 + j)) = va_rf (some (ρ (h.1 + 1 + j)))
              rw [hρ (h.1 + 1 + j) (by omega), hz0, show B + h.1 + 1 + j = B + (h.1 + 1 + j) by omega]
            · simp [h10, va_rf]
          · obtain ⟨j', rfl⟩ : ∃ j', j = h.1 + 1 + j' := ⟨j - h.1 - 1, by omega⟩
            have hj' : j' < 10 := by omega
            rw [mx_E_arr (by rw [hlr j' hj'])]
            show F.heap[B + (h.1 + 1 + j')]? = some (vp_cell _ _)
            rw [show B + (h.1 + 1 + j') = H.size + 1 + j' by omega, hrow j' hj', vp_cell_i, hlr j' hj', hcI]
            show some ({ cls := comp, slots := Array.replicate 10 (defaultValue .int), vm := .none } : Cell) = _
            rw [arrV_new]
            refine congrArg some (congrArg (arrV comp 10) (funext fun j => ?_))
            simp [mx_mna, defaultValue]
            intros
            omega
      obtain ⟨t2, a1, b1⟩ := mx_nx hp K hRep (mx_S_new hS (by omega) hold) hL F rfl X'
      refine ⟨t2, step t2 ?_, b1⟩
      have e2 : (Value.ref h.1 :: s').map (mx_rv ρ) = .ref T.heap.size :: s'.map (mx_rv ρ) := by
        show Value.ref (ρ h.1) :: _ = _
        rw [hρ h.1 (by omega), hT, hz0]
      rw [e2] at a1
      exact a1
    · cases hs
  · cases hs
end Sim
