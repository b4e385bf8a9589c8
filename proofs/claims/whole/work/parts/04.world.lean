/-! the light heap as cells of the machine's -/
def mx_rv (ρ : Nat → Nat) (v : Value) : Value := match v with
  | .ref i => .ref (ρ i)
  | v => v
def mx_fv (ρ : Nat → Nat) (h : mx_Hp) (i c k : Nat) : Value := if mx_fk c k = 1 then va_rf ((h.2.2 i k).map ρ) else .int (h.2.1 i k)
abbrev mx_Cs : Type := ClassId × ClassId × ClassId
def mx_E (ρ : Nat → Nat) (cs : mx_Cs) (h : mx_Hp) (i : Nat) : va_E := match mx_lay i with
  | (0, n) => .inl (cs.1, n, .inl (h.2.1 i))
  | (1, n) => .inl (cs.2.1, n, .inr (.inr (.inr (.inr (fun j => (h.2.2 i j).map ρ)))))
  | (2, n) => .inl (cs.2.2, n, .inr (.inr (.inr (.inr (fun j => (h.2.2 i j).map ρ)))))
  | (c + 3, _) => .inr (c, (List.range (mx_nf c)).map (fun k => mx_fv ρ h i c k))
def mx_W (B : Nat) (ρ : Nat → Nat) (cs : mx_Cs) (h : mx_Hp) : va_W := (List.range h.1).map (fun i => (B + i, mx_E ρ cs h i))
def mx_A (B : Nat) : Nat → Prop := fun q => B ≤ q
theorem mx_W_get {B : Nat} {ρ : Nat → Nat} {cs : mx_Cs} {h : mx_Hp} {i : Nat} (hi : i < h.1) : (mx_W B ρ cs h)[i]? = some (B + i, mx_E ρ cs h i) := by
  simp [mx_W, hi]
theorem mx_W_inv {B : Nat} {ρ : Nat → Nat} {cs : mx_Cs} {h : mx_Hp} {i : Nat} {q : Nat × va_E} (hq : (mx_W B ρ cs h)[i]? = some q) : i < h.1 ∧ q = (B + i, mx_E ρ cs h i) := by
  have hl : i < (mx_W B ρ cs h).length := (List.getElem?_eq_some_iff.mp hq).1
  have hi : i < h.1 := by simpa [mx_W] using hl
  rw [mx_W_get hi] at hq
  exact ⟨hi, (Option.some.inj hq).symm⟩
theorem mx_W_D {B : Nat} {ρ : Nat → Nat} {cs : mx_Cs} {h : mx_Hp} : va_D (mx_A B) (mx_W B ρ cs h) := by
  refine ⟨fun i j p q hp hq e => ?_, fun k q hq => ?_⟩
  · obtain ⟨_, rfl⟩ := mx_W_inv hp
    obtain ⟨_, rfl⟩ := mx_W_inv hq
    simpa using e
  · obtain ⟨_, rfl⟩ := mx_W_inv hq
    exact Nat.le_add_right _ _
theorem mx_W_set {B : Nat} {ρ : Nat → Nat} {cs : mx_Cs} {h h' : mx_Hp} {i : Nat} {e : va_E} (hn : h'.1 = h.1) (hi : i < h.1) (he : mx_E ρ cs h' i = e) (ho : ∀ j, j ≠ i → mx_E ρ cs h' j = mx_E ρ cs h j) : (mx_W B ρ cs h).set i (B + i, e) = mx_W B ρ cs h' := by
  refine List.ext_getElem? fun j => ?_
  by_cases hj : j = i
  · subst hj
    rw [List.getElem?_set_self (by simpa [mx_W] using hi), mx_W_get (by omega), he]
  · rw [List.getElem?_set_ne (fun q => hj q.symm)]
    by_cases hl : j < h.1
    · rw [mx_W_get hl, mx_W_get (by omega), ho j hj]
    · rw [List.getElem?_eq_none (by simp [mx_W]; omega), List.getElem?_eq_none (by simp [mx_W]; omega)]
/-- the machine's heap holds the light one, from B on -/
def mx_Rep (D : va_G) (B : Nat) (ρ : Nat → Nat) (cs : mx_Cs) (h : mx_Hp) (H : Heap) : Prop := h.1 ≤ 130 ∧ H.size = B + h.1 ∧ va_P D mx_cl (mx_W B ρ cs h) H
theorem mx_lay_lt {o : Nat} (h : (mx_lay o).1 ≠ 99) : o < 130 := by
  refine Nat.lt_of_not_le fun q => h ?_
  unfold mx_lay
  rw [List.getD_eq_getElem?_getD, List.getElem?_eq_none (by
    have : mx_layL.length = 130 := by decide +kernel
    omega)]
  rfl
theorem mx_fk_lt {c k : Nat} (h : mx_fk c k ≠ 9) : c < 13 ∧ k < mx_nf c := by
  have h1 : c < 13 := by
    refine Nat.lt_of_not_le fun q => h ?_
    have e : mx_fkL.getD c [] = [] := by
      rw [List.getD_eq_getElem?_getD, List.getElem?_eq_none (by
        have : mx_fkL.length = 13 := by decide +kernel
        omega)]
      rfl
    unfold mx_fk
    rw [e]
    rfl
  refine ⟨h1, Nat.lt_of_not_le fun q => h ?_⟩
  have e1 : ∀ c, c < 13 → (mx_fkL.getD c []).length = mx_nf c := by decide +kernel
  unfold mx_fk
  rw [List.getD_eq_getElem?_getD, List.getElem?_eq_none (by rw [e1 c h1]; exact q)]
  rfl
theorem mx_cl_get {c : Nat} (h : c < 13) : mx_cl[c]? = some (mx_Cn c, mx_Tn c, mx_nf c) := by
  match c, h with
  | 0, _ => rfl
  | 1, _ => rfl
  | 2, _ => rfl
  | 3, _ => rfl
  | 4, _ => rfl
  | 5, _ => rfl
  | 6, _ => rfl
  | 7, _ => rfl
  | 8, _ => rfl
  | 9, _ => rfl
  | 10, _ => rfl
  | 11, _ => rfl
  | 12, _ => rfl
theorem mx_E_obj {ρ : Nat → Nat} {cs : mx_Cs} {h : mx_Hp} {i c : Nat} (hl : (mx_lay i).1 = c + 3) : mx_E ρ cs h i = .inr (c, (List.range (mx_nf c)).map (fun k => mx_fv ρ h i c k)) := by
  unfold mx_E
  generalize mx_lay i = q at hl
  obtain ⟨a, b⟩ := q
  dsimp only at hl
  subst hl
  rfl
theorem mx_E_arr {ρ : Nat → Nat} {cs : mx_Cs} {h : mx_Hp} {i : Nat} (hl : (mx_lay i).1 = 0) : mx_E ρ cs h i = .inl (cs.1, (mx_lay i).2, .inl (h.2.1 i)) := by
  unfold mx_E
  generalize mx_lay i = q at hl
  obtain ⟨a, b⟩ := q
  dsimp only at hl
  subst hl
  rfl
theorem mx_E_arS {ρ : Nat → Nat} {cs : mx_Cs} {h : mx_Hp} {i : Nat} (hl : (mx_lay i).1 = 1) : mx_E ρ cs h i = .inl (cs.2.1, (mx_lay i).2, .inr (.inr (.inr (.inr (fun j => (h.2.2 i j).map ρ))))) := by
  unfold mx_E
  generalize mx_lay i = q at hl
  obtain ⟨a, b⟩ := q
  dsimp only at hl
  subst hl
  rfl
theorem mx_E_arJ {ρ : Nat → Nat} {cs : mx_Cs} {h : mx_Hp} {i : Nat} (hl : (mx_lay i).1 = 2) : mx_E ρ cs h i = .inl (cs.2.2, (mx_lay i).2, .inr (.inr (.inr (.inr (fun j => (h.2.2 i j).map ρ))))) := by
  unfold mx_E
  generalize mx_lay i = q at hl
  obtain ⟨a, b⟩ := q
  dsimp only at hl
  subst hl
  rfl
/-- a cell depends on its own row alone -/
theorem mx_E_cong {ρ : Nat → Nat} {cs : mx_Cs} {h h' : mx_Hp} {i : Nat} (h1 : h'.2.1 i = h.2.1 i) (h2 : h'.2.2 i = h.2.2 i) : mx_E ρ cs h' i = mx_E ρ cs h i := by
  unfold mx_E
  split <;> simp [mx_fv, h1, h2]
theorem mx_up_row {α : Type} {m : Nat → Nat → α} {o k : Nat} {v : α} {j : Nat} (h : j ≠ o) : mx_up m o k v j = m j := by
  funext a
  simp [mx_up, h]
theorem mx_up_same {α : Type} {m : Nat → Nat → α} {o k : Nat} {v : α} : mx_up m o k v o k = v := by simp [mx_up]
theorem mx_up_ne {α : Type} {m : Nat → Nat → α} {o k j : Nat} {v : α} (h : j ≠ k) : mx_up m o k v o j = m o j := by simp [mx_up, h]
theorem mx_up_upd {m : Nat → Nat → Int32} {o k : Nat} {v : Int32} : mx_up m o k v o = upd (m o) k v := by
  funext a
  simp [mx_up, upd]
theorem mx_range_set {α : Type} {f g : Nat → α} {n k : Nat} (hk : k < n) (ho : ∀ j, j ≠ k → g j = f j) : ((List.range n).map f).set k (g k) = (List.range n).map g := by
  refine List.ext_getElem? fun j => ?_
  by_cases hj : j = k
  · subst hj
    rw [List.getElem?_set_self (by simpa using hk)]
    simp [hk]
  · rw [List.getElem?_set_ne (fun q => hj q.symm)]
    by_cases hl : j < n
    · simp [hl, ho j hj]
    · rw [List.getElem?_eq_none (by simp; omega), List.getElem?_eq_none (by simp; omega)]
/-- the locals -/
def mx_HL (ρ : Nat → Nat) (ls : Array Slot) (nL : Nat) (loc : mx_Lc) : Prop := ls.size = nL ∧ loc.length = nL ∧ lv_wf ls ∧ ∀ (i : Nat) (v : Value), mx_ld loc i = some v → ls[i]? = some (.val (mx_rv ρ v))
def mx_lvs (ρ : Nat → Nat) (loc : mx_Lc) : List (Nat × Value) := (List.range loc.length).filterMap (fun i => (mx_ld loc i).map (fun v => (i, mx_rv ρ v)))
theorem mx_lvs_mem {ρ : Nat → Nat} {loc : mx_Lc} {q : Nat × Value} : q ∈ mx_lvs ρ loc ↔ ∃ v, mx_ld loc q.1 = some v ∧ q.2 = mx_rv ρ v := by
  unfold mx_lvs
  rw [List.mem_filterMap]
  constructor
  · rintro ⟨i, -, h⟩
    cases hv : mx_ld loc i with
    | none => rw [hv] at h; cases h
    | some v =>
      rw [hv] at h
      have h' := Option.some.inj h
      subst h'
      exact ⟨v, hv, rfl⟩
  · rintro ⟨v, hv, e⟩
    refine ⟨q.1, List.mem_range.mpr ?_, ?_⟩
    · unfold mx_ld at hv
      split at hv
      · rename_i w hw
        exact (List.getElem?_eq_some_iff.mp hw).1
      · cases hv
    · rw [hv]
      simp [← e]
theorem mx_HL.lv {ρ : Nat → Nat} {ls : Array Slot} {nL : Nat} {loc : mx_Lc} (h : mx_HL ρ ls nL loc) : lv_has ls nL (mx_lvs ρ loc) := by
  refine ⟨h.1, h.2.2.1, fun q hq => ?_⟩
  obtain ⟨v, hv, e⟩ := mx_lvs_mem.mp hq
  rw [e]
  exact h.2.2.2 _ _ hv
theorem mx_rv_cat {ρ : Nat → Nat} {v : Value} : (mx_rv ρ v).category = v.category := by cases v <;> rfl
theorem mx_ld_set {loc : mx_Lc} {i j : Nat} {x : Option Value} (hi : i < loc.length) : mx_ld (loc.set i x) j = if j = i then x else mx_ld loc j := by
  unfold mx_ld
  by_cases hj : j = i
  · subst hj
    rw [List.getElem?_set_self hi, if_pos rfl]
    cases x <;> rfl
  · rw [List.getElem?_set_ne (fun q => hj q.symm), if_neg hj]
theorem mx_cl1_len {loc : mx_Lc} {i : Nat} : (mx_cl1 loc i).length = loc.length := by
  unfold mx_cl1
  split
  · rw [List.length_set]
  · rfl
theorem mx_ld_some {loc : mx_Lc} {i : Nat} {v : Value} : mx_ld loc i = some v ↔ loc[i]? = some (some v) := by
  unfold mx_ld
  constructor
  · intro h
    split at h
    · rename_i w hw
      cases h
      exact hw
    · cases h
  · intro h
    rw [h]
theorem mx_isL_cat {loc : mx_Lc} {i : Nat} {v : Value} (h : mx_ld loc i = some v) (hl : mx_isL loc[i]? = false) : v.category = 1 := by
  rw [mx_ld_some.mp h] at hl
  cases v <;> first | rfl | cases hl
/-- what is left of the locals where a store spoils a long -/
theorem mx_cl1_ld {loc : mx_Lc} {i j : Nat} {w : Value} (hi : i < loc.length) (h : mx_ld (mx_cl1 loc i) j = some w) : mx_ld loc j = some w ∧ (j + 1 = i → w.category = 1) := by
  unfold mx_cl1 at h
  split at h
  · rename_i hc
    rw [mx_ld_set (by omega)] at h
    split at h
    · cases h
    · rename_i hne
      exact ⟨h, fun q => by omega⟩
  · rename_i hc
    refine ⟨h, fun q => ?_⟩
    have e : i - 1 = j := by omega
    rw [e] at hc
    exact mx_isL_cat h (by simpa using hc)
theorem mx_HL.st {ρ : Nat → Nat} {ls ls' : Array Slot} {nL i : Nat} {loc loc' : mx_Lc} {v : Value} (h : mx_HL ρ ls nL loc) (hs : mx_sv loc i v = some loc') (h' : lv_has ls' nL ((i, mx_rv ρ v) :: (mx_lvs ρ loc).filter (fun q => !(q.1 == i) && !(q.1 + 1 == i && q.2.category == 2)))) : mx_HL ρ ls' nL loc' := by
  unfold mx_sv at hs
  split at hs
  · rename_i hc
    cases hs
    refine ⟨h'.1, by rw [List.length_set, mx_cl1_len]; exact h.2.1, h'.2.1, fun j w hj => ?_⟩
    rw [mx_ld_set (by rw [mx_cl1_len]; exact hc)] at hj
    by_cases hji : j = i
    · rw [if_pos hji] at hj
      cases hj
      subst hji
      exact h'.2.2 _ List.mem_cons_self
    · rw [if_neg hji] at hj
      obtain ⟨hj, hcat⟩ := mx_cl1_ld hc hj
      refine h'.2.2 (j, mx_rv ρ w) (List.mem_cons_of_mem _ (List.mem_filter.mpr ⟨mx_lvs_mem.mpr ⟨w, hj, rfl⟩, ?_⟩))
      have h1 : (j == i) = false := by simpa using hji
      simp only [h1, Bool.not_false, Bool.true_and, Bool.not_eq_true', Bool.and_eq_false_iff]
      by_cases hj1 : j + 1 = i
      · right
        rw [mx_rv_cat, hcat hj1]
        rfl
      · left
        simpa using hj1
  · cases hs
theorem mx_HL.st2 {ρ : Nat → Nat} {ls ls' : Array Slot} {nL i : Nat} {loc loc' : mx_Lc} {v : Value} (h : mx_HL ρ ls nL loc) (hs : mx_sv2 loc i v = some loc') (h' : lv_has ls' nL ((i, mx_rv ρ v) :: (mx_lvs ρ loc).filter (fun q => !(q.1 == i) && (!(q.1 == i + 1) && !(q.1 + 1 == i && q.2.category == 2))))) : mx_HL ρ ls' nL loc' := by
  unfold mx_sv2 at hs
  split at hs
  · rename_i hc
    cases hs
    refine ⟨h'.1, by rw [List.length_set, List.length_set, mx_cl1_len]; exact h.2.1, h'.2.1, fun j w hj => ?_⟩
    rw [mx_ld_set (by rw [List.length_set, mx_cl1_len]; exact hc), mx_ld_set (by rw [mx_cl1_len]; omega)] at hj
    by_cases hji : j = i
    · subst hji
      rw [if_neg (by omega), if_pos rfl] at hj
      cases hj
      exact h'.2.2 _ List.mem_cons_self
    · by_cases hj2 : j = i + 1
      · rw [if_pos hj2] at hj
        cases hj
      · rw [if_neg hj2, if_neg hji] at hj
        obtain ⟨hj, hcat⟩ := mx_cl1_ld (by omega) hj
        refine h'.2.2 (j, mx_rv ρ w) (List.mem_cons_of_mem _ (List.mem_filter.mpr ⟨mx_lvs_mem.mpr ⟨w, hj, rfl⟩, ?_⟩))
        have h1 : (j == i) = false := by simpa using hji
        have h2 : (j == i + 1) = false := by simpa using hj2
        simp only [h1, h2, Bool.not_false, Bool.true_and, Bool.not_eq_true', Bool.and_eq_false_iff]
        by_cases hj1 : j + 1 = i
        · right
          rw [mx_rv_cat, hcat hj1]
          rfl
        · left
          simpa using hj1
  · cases hs
theorem mx_HL.dup {ρ : Nat → Nat} {ls : Array Slot} {nL i : Nat} {loc : mx_Lc} {v : Value} (h : mx_HL ρ ls nL loc) (hv : mx_ld loc i = some v) : lv_has ls nL ((i, mx_rv ρ v) :: mx_lvs ρ loc) := by
  refine ⟨h.1, h.2.2.1, fun q hq => ?_⟩
  rcases List.mem_cons.mp hq with rfl | hq
  · exact h.2.2.2 _ _ hv
  · exact h.lv.2.2 q hq
theorem mx_filter_dup {i : Nat} {x : Value} {l : List (Nat × Value)} : ((i, x) :: l).filter (fun q => !(q.1 == i) && !(q.1 + 1 == i && q.2.category == 2)) = l.filter (fun q => !(q.1 == i) && !(q.1 + 1 == i && q.2.category == 2)) := by
  rw [List.filter_cons_of_neg]
  simp
theorem mx_sv_lt {loc loc' : mx_Lc} {i : Nat} {v : Value} (h : mx_sv loc i v = some loc') : i < loc.length := by
  unfold mx_sv at h
  split at h
  · rename_i hc; exact hc
  · cases h
theorem mx_sv2_lt {loc loc' : mx_Lc} {i : Nat} {v : Value} (h : mx_sv2 loc i v = some loc') : i + 1 < loc.length := by
  unfold mx_sv2 at h
  split at h
  · rename_i hc; exact hc
  · cases h
