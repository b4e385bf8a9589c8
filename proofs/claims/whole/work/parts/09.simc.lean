/-! each step of the light machine is one of the machine's: switches, rows of rows, calls, returns -/
theorem mx_sw_spec {ps : List (Int × Int)} : ∀ {l : List (Int32 × Nat)} {pc : Nat} {x : Int32} {d : Nat}, mx_okK ps l pc = true → (∃ q ∈ ps, q.1 = x.toInt ∧ (pc : Int) + q.2 = (mx_sw l x d : Int) ∧ ∃ u ∈ l, mx_sw l x d = u.2) ∨ ((∀ q ∈ ps, q.1 ≠ x.toInt) ∧ mx_sw l x d = d) := by
  induction ps with
  | nil =>
    intro l pc x d h
    cases l with
    | nil => exact Or.inr ⟨fun q hq => (by cases hq), rfl⟩
    | cons b l => cases h
  | cons a ps ih =>
    intro l pc x d h
    cases l with
    | nil => cases h
    | cons b l =>
      simp only [mx_okK, Bool.and_eq_true, decide_eq_true_eq] at h
      by_cases hx : x = b.1
      · left
        refine ⟨a, List.mem_cons_self, by rw [h.1.1, hx], ?_, b, List.mem_cons_self, ?_⟩
        · simp only [mx_sw, if_pos hx]; exact h.1.2
        · simp only [mx_sw, if_pos hx]
      · have hne : a.1 ≠ x.toInt := by
          rw [h.1.1]
          exact fun q => hx (Int32.toInt_inj.mp q).symm
        simp only [mx_sw, if_neg hx]
        rcases ih (x := x) (d := d) h.2 with ⟨q, q1, q2, q3, u, q4, q5⟩ | ⟨q1, q2⟩
        · exact Or.inl ⟨q, List.mem_cons_of_mem _ q1, q2, q3, u, List.mem_cons_of_mem _ q4, q5⟩
        · refine Or.inr ⟨fun q hq => ?_, q2⟩
          rcases List.mem_cons.mp hq with rfl | hq
          · exact hne
          · exact q1 q hq
theorem mx_sw_look {ps : List (Int × Int)} : ∀ {l : List (Int32 × Nat)} {pc : Nat} {x : Int32} {dt : Nat} {d : Int}, mx_okK ps l pc = true → (pc : Int) + d = (dt : Int) → (pc : Int) + Op.lookupswitch.offset ps d x.toInt = (mx_sw l x dt : Int) := by
  induction ps with
  | nil =>
    intro l pc x dt d h hd
    cases l with
    | nil => exact hd
    | cons b l => cases h
  | cons a ps ih =>
    intro l pc x dt d h hd
    cases l with
    | nil => cases h
    | cons b l =>
      simp only [mx_okK, Bool.and_eq_true, decide_eq_true_eq] at h
      obtain ⟨a1, a2⟩ := a
      dsimp only at h
      rw [Op.lookupswitch.offset_cons]
      by_cases hx : x = b.1
      · rw [if_pos (by rw [h.1.1, hx])]
        simp only [mx_sw, if_pos hx]; exact h.1.2
      · have hne : a1 ≠ x.toInt := by
          rw [h.1.1]
          exact fun q => hx (Int32.toInt_inj.mp q).symm
        rw [if_neg hne]
        simp only [mx_sw, if_neg hx]
        exact ih h.2 hd
theorem mx_sw_tg {M : mx_Mt} {l : List (Int32 × Nat)} {x : Int32} {d : Nat} (h : l.all (fun q => decide (q.2 ∈ mx_tg M)) = true) (hd : d ∈ mx_tg M) : mx_sw l x d ∈ mx_tg M := by
  induction l with
  | nil => exact hd
  | cons a l ih =>
    simp only [List.all_cons, Bool.and_eq_true, decide_eq_true_eq] at h
    simp only [mx_sw]
    split
    · exact h.1
    · exact ih h.2
section Sim
variable {p : Program} {l : Launch} {e : Env} {R : Room} {s : State} {m : MethodId} {args : Array Value} {below : List Frame} {meth : Method} {c : Code} {Q : State → Prop} {D : va_G} {B : Nat} {ρ : Nat → Nat} {cs : mx_Cs} {M : mx_Mt} {sc : mx_Sc}
variable {i : mx_In} {r : List mx_In} {loc : mx_Lc} {st : List Value} {h : mx_Hp} {k z : Nat} {c' : mx_Cf}
theorem mx_s_lookup (C : mx_Cx p s m args meth c R D B ρ cs M sc) (hB : mx_okB M = true) {d : Int} {ps : Array (Int × Int)} (hi : i.2.1 = .lookupswitch d ps) (hd : decode M.2.2.1 i.1 = .ok (i.2.1, i.2.2.1)) (ok : mx_okO M i = true) (hs : mx_sSw M i loc st h k z = some (.inl c')) (K : mx_Sim p l e R s m args below meth c Q D B ρ cs M c') : mx_Sim p l e R s m args below meth c Q D B ρ cs M (i :: r, loc, st, h, k, z) := by
  obtain ⟨hx, hb, hml, hown, hts, hK, hnm, hRm, hρ, hBs, hsc, hsx⟩ := C
  unfold mx_okO mx_okJ at ok
  rw [hi] at ok hd
  simp only [Bool.and_eq_true, decide_eq_true_eq] at ok
  obtain ⟨⟨⟨⟨ok1, ok2⟩, ok3⟩, ok4⟩, ok5⟩ := ok
  unfold mx_sSw at hs
  split at hs
  · rename_i x s'
    cases mx_jp_eq hs
    exact fun H locs ls hR hS hL => lv_lookup hx hb hd ok3 rfl (mx_sw_look ok4 ok1) (mx_jx hB (mx_sw_tg ok5 ok2) K hR hS hL)
  · cases hs
theorem mx_s_table (C : mx_Cx p s m args meth c R D B ρ cs M sc) (hB : mx_okB M = true) {d lo hi9 : Int} {offs : Array Int} (hi : i.2.1 = .tableswitch d lo hi9 offs) (hd : decode M.2.2.1 i.1 = .ok (i.2.1, i.2.2.1)) (ok : mx_okO M i = true) (hs : mx_sSw M i loc st h k z = some (.inl c')) (K : mx_Sim p l e R s m args below meth c Q D B ρ cs M c') : mx_Sim p l e R s m args below meth c Q D B ρ cs M (i :: r, loc, st, h, k, z) := by
  obtain ⟨hx, hb, hml, hown, hts, hK, hnm, hRm, hρ, hBs, hsc, hsx⟩ := C
  unfold mx_okO mx_okJ at ok
  rw [hi] at ok hd
  simp only [Bool.and_eq_true, decide_eq_true_eq] at ok
  obtain ⟨⟨⟨⟨ok1, ok2⟩, ok3⟩, ok4⟩, ok5⟩ := ok
  unfold mx_sSw at hs
  split at hs
  · rename_i x s'
    cases mx_jp_eq hs
    have hmem : ∀ q ∈ (List.range offs.size).zipWith (fun (a : Nat) (b : Int) => (lo + (a : Int), b)) offs.toList, ∃ j : Nat, j < offs.size ∧ q.1 = lo + (j : Int) ∧ offs[j]? = some q.2 := by
      intro q hq
      obtain ⟨j, hj⟩ := List.getElem?_of_mem hq
      rw [List.getElem?_zipWith] at hj
      by_cases hjl : j < offs.size
      · simp [hjl] at hj
        refine ⟨j, hjl, by rw [← hj], by simp [hjl, ← hj]⟩
      · rw [List.getElem?_eq_none (by simp; omega)] at hj
        cases hj
    have hall : ∀ j : Nat, j < offs.size → ∃ b, (lo + (j : Int), b) ∈ (List.range offs.size).zipWith (fun (a : Nat) (b : Int) => (lo + (a : Int), b)) offs.toList := by
      intro j hj
      refine ⟨offs[j], List.mem_of_getElem? (i := j) ?_⟩
      rw [List.getElem?_zipWith]
      simp [hj]
    refine fun H locs ls hR hS hL => ?_
    rcases mx_sw_spec (x := x) (d := i.2.2.2.1) ok4 with ⟨q, q1, q2, q3, -⟩ | ⟨q1, q2⟩
    · obtain ⟨j, j1, j2, j3⟩ := hmem q q1
      refine lv_tableIn hx hb hd (x := x) (off := q.2) (tgt := mx_sw i.2.2.2.2.2.2 x i.2.2.2.1) (by omega) (by omega) ?_ q3 (mx_jx hB (mx_sw_tg ok5 ok2) K hR hS hL)
      rw [show (x.toInt - lo).toNat = j by omega]
      exact j3
    · refine lv_tableOut hx hb hd (x := x) (tgt := mx_sw i.2.2.2.2.2.2 x i.2.2.2.1) ?_ (by rw [q2]; exact ok1) (mx_jx hB (mx_sw_tg ok5 ok2) K hR hS hL)
      by_cases h1 : x.toInt < lo
      · exact Or.inl h1
      · right
        refine Int.lt_of_not_ge fun h2 => ?_
        obtain ⟨b, hb9⟩ := hall (x.toInt - lo).toNat (by omega)
        exact q1 _ hb9 (by show lo + (((x.toInt - lo).toNat : Nat) : Int) = x.toInt; omega)
  · cases hs
theorem mx_s_oinit (C : mx_Cx p s m args meth c R D B ρ cs M sc) {n : Nat} (hi : i.2.1 = .invokespecial n) (hk : i.2.2.2.1 = 1000) (hd : decode M.2.2.1 i.1 = .ok (i.2.1, i.2.2.1)) (ok : mx_okO M i = true) (hp : mx_pc r = i.1 + i.2.2.1) (hs : mx_sSpec M i r loc st h k z = some (.inl c')) (K : mx_Sim p l e R s m args below meth c Q D B ρ cs M c') : mx_Sim p l e R s m args below meth c Q D B ρ cs M (i :: r, loc, st, h, k, z) := by
  obtain ⟨hx, hb, hml, hown, hts, hK, hnm, hRm, hρ, hBs, hsc, hsx⟩ := C
  unfold mx_okO at ok
  rw [hi] at ok hd
  simp only [Bool.and_eq_true, decide_eq_true_eq] at ok
  rw [if_pos hk] at ok
  simp only [Bool.and_eq_true, decide_eq_true_eq] at ok
  obtain ⟨ok1, ⟨⟨⟨ok2, ok3⟩, ok4⟩, ok5⟩, ok6⟩ := ok
  rw [ok1] at hd hp
  unfold mx_sSpec at hs
  rw [if_pos hk] at hs
  split at hs
  · rename_i a s'
    split at hs
    · rename_i hc
      cases mx_go_eq hs
      refine fun H locs ls hR hS hL => W.objInit hx hb hown (hts _ (mx_at_in ok2)) (hts _ (mx_at_in ok3)) (hts _ (mx_at_in ok4)) rfl (by rw [hml]; exact hL.1) rfl hd (by rw [hRm]; exact ok5) ?_ (mx_nx hp K hR hS hL)
      have e1 : ((s'.map (mx_rv ρ)).map fun v => v.category).sum = mx_cat s' := by
        unfold mx_cat
        rw [List.map_map]
        congr 1
        exact List.map_congr_left fun v _ => mx_rv_cat
      rw [hRm]
      show 2 * 0 + ((s'.map (mx_rv ρ)).map fun v => v.category).sum + 12 ≤ _
      rw [e1]
      omega
    · cases hs
  · cases hs
theorem mx_s_mmax (C : mx_Cx p s m args meth c R D B ρ cs M sc) {n : Nat} (hi : i.2.1 = .invokestatic n) (hk : i.2.2.2.1 = 1001) (hd : decode M.2.2.1 i.1 = .ok (i.2.1, i.2.2.1)) (ok : mx_okO M i = true) (hp : mx_pc r = i.1 + i.2.2.1) (hs : mx_sStat M i r loc st h k z = some (.inl c')) (K : mx_Sim p l e R s m args below meth c Q D B ρ cs M c') : mx_Sim p l e R s m args below meth c Q D B ρ cs M (i :: r, loc, st, h, k, z) := by
  obtain ⟨hx, hb, hml, hown, hts, hK, hnm, hRm, hρ, hBs, hsc, hsx⟩ := C
  unfold mx_okO at ok
  rw [hi] at ok hd
  simp only [Bool.and_eq_true, decide_eq_true_eq] at ok
  rw [if_pos hk] at ok
  simp only [Bool.and_eq_true, decide_eq_true_eq] at ok
  obtain ⟨ok1, ⟨⟨⟨⟨ok2, ok3⟩, ok4⟩, ok5⟩, ok6⟩, ok7⟩ := ok
  rw [ok1] at hd hp
  unfold mx_sStat at hs
  rw [if_pos hk] at hs
  split at hs
  · rename_i y x s'
    split at hs
    · rename_i hc
      cases mx_go_eq hs
      refine fun H locs ls hR hS hL => va_mmax hx hb (by rw [hml]; exact hL.1.symm) hown (hts _ (mx_at_in ok2)) (hts _ (mx_at_in ok3)) (hts _ (mx_at_in ok4)) (hts _ (mx_at_in ok5)) (by rw [hRm]; exact ok6) ?_ (by rw [hRm]; exact hc.2.1) (by rw [hRm]; exact hc.2.2) hd (mx_nx hp K hR hS hL)
      have e1 : ((s'.map (mx_rv ρ)).map fun v => v.category).sum = mx_cat s' := by
        unfold mx_cat
        rw [List.map_map]
        congr 1
        exact List.map_congr_left fun v _ => mx_rv_cat
      rw [hRm, e1]
      have := hc.1
      omega
    · cases hs
  · cases hs
end Sim
