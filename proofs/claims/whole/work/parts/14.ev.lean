/-! RUNS: what a configuration comes to, whatever the fuel; locals that are forgotten -/
def mx_le (a b : mx_Lc) : Prop := a.length = b.length ∧ ∀ (i : Nat) (v : Value), mx_ld a i = some v → mx_ld b i = some v
theorem mx_le.rf (a : mx_Lc) : mx_le a a := ⟨rfl, fun _ _ h => h⟩
theorem mx_le.cl {a b : mx_Lc} (h : mx_le a b) {i : Nat} (hi : i < a.length) : mx_le (mx_cl1 a i) (mx_cl1 b i) := by
  refine ⟨by rw [mx_cl1_len, mx_cl1_len]; exact h.1, fun j v hj => ?_⟩
  have hj0 := hj
  obtain ⟨h1, h2⟩ := mx_cl1_ld hi hj
  have h3 := h.2 j v h1
  unfold mx_cl1
  split
  · rename_i hc
    rw [mx_ld_set (by have := h.1; omega)]
    by_cases he : j = i - 1
    · exfalso
      rw [← he, mx_ld_some.mp h3] at hc
      by_cases h0 : i = 0
      · subst h0
        unfold mx_cl1 at hj0
        have he : j = 0 := by omega
        subst he
        rw [show (0 - 1 : Nat) = 0 from rfl, mx_ld_some.mp h1, if_pos hc, mx_ld_set hi] at hj0
        simp at hj0
      · have := h2 (by omega)
        cases v <;> first | cases hc; done | (cases this; done)
    · rw [if_neg he]
      exact h3
  · exact h3
theorem mx_le.set {a b : mx_Lc} (h : mx_le a b) {i : Nat} (hi : i < a.length) (x : Option Value) : mx_le (a.set i x) (b.set i x) := by
  refine ⟨by rw [List.length_set, List.length_set]; exact h.1, fun j v hj => ?_⟩
  rw [mx_ld_set hi] at hj
  rw [mx_ld_set (by rw [← h.1]; exact hi)]
  split at hj
  · rename_i he
    rw [if_pos he]
    exact hj
  · rename_i he
    rw [if_neg he]
    exact h.2 j v hj
def mx_rC (c c' : mx_Cf) : Prop := c'.1 = c.1 ∧ mx_le c.2.1 c'.2.1 ∧ c'.2.2 = c.2.2
def mx_rA (a b : Option mx_Ac) : Prop := (∀ c, a = some (.inl c) → ∃ c', b = some (.inl c') ∧ mx_rC c c') ∧ (∀ y as c, a = some (.inr (.inl (y, as, c))) → ∃ c', b = some (.inr (.inl (y, as, c'))) ∧ mx_rC c c') ∧ (∀ q, a = some (.inr (.inr q)) → b = some (.inr (.inr q)))
theorem mx_rA_none {b : Option mx_Ac} : mx_rA none b := ⟨fun _ h => (by cases h), fun _ _ _ h => (by cases h), fun _ h => (by cases h)⟩
section Sim
variable {p : Program} {l : Launch} {e : Env} {R : Room} {s : State} {m : MethodId} {args : Array Value} {below : List Frame} {meth : Method} {c : Code} {Q : State → Prop} {D : va_G} {B : Nat} {ρ : Nat → Nat} {cs : mx_Cs} {M : mx_Mt} {sc : mx_Sc}
variable {i : mx_In} {r : List mx_In} {loc : mx_Lc} {st : List Value} {h : mx_Hp} {k z : Nat} {c' : mx_Cf}
variable {loc' : mx_Lc}
theorem mx_rA_go (hl : mx_le loc loc') : mx_rA (mx_go r loc st h k z) (mx_go r loc' st h k z) := by
  refine ⟨fun c hc => ?_, fun _ _ _ h => (by cases h), fun _ h => (by cases h)⟩
  cases mx_go_eq hc
  exact ⟨_, rfl, rfl, hl, rfl⟩
theorem mx_rA_jp (hl : mx_le loc loc') {t : Nat} : mx_rA (mx_jp M loc st h k z t) (mx_jp M loc' st h k z t) := by
  refine ⟨fun c hc => ?_, fun _ _ _ h => (by cases h), fun _ h => (by cases h)⟩
  cases mx_jp_eq hc
  exact ⟨_, rfl, rfl, hl, rfl⟩
theorem mx_rA_ret {v : Option Value} : mx_rA (mx_ret M h k z v) (mx_ret M h k z v) := by
  unfold mx_ret
  split
  · exact ⟨fun _ h => (by cases h), fun _ _ _ h => (by cases h), fun _ h => h⟩
  · exact mx_rA_none
theorem mx_rA_call (hl : mx_le loc loc') {v : Bool} : mx_rA (mx_call M i r loc st h k z v) (mx_call M i r loc' st h k z v) := by
  unfold mx_call
  split
  · split
    · split
      · refine ⟨fun _ h => (by cases h), fun y as c hc => ?_, fun _ h => (by cases h)⟩
        cases hc
        exact ⟨_, rfl, rfl, hl, rfl⟩
      · exact mx_rA_none
    · exact mx_rA_none
    · refine ⟨fun _ h => (by cases h), fun y as c hc => ?_, fun _ h => (by cases h)⟩
      cases hc
      exact ⟨_, rfl, rfl, hl, rfl⟩
  · exact mx_rA_none
theorem mx_rA_sv (hl : mx_le loc loc') {n : Nat} {v : Value} {s' : List Value} : mx_rA (match mx_sv loc n v with | some l => mx_go r l s' h k z | none => none) (match mx_sv loc' n v with | some l => mx_go r l s' h k z | none => none) := by
  unfold mx_sv
  by_cases hn : n < loc.length
  · rw [if_pos hn, if_pos (by rw [← hl.1]; exact hn)]
    exact mx_rA_go ((hl.cl hn).set (by rw [mx_cl1_len]; exact hn) _)
  · rw [if_neg hn]
    exact mx_rA_none
theorem mx_rA_sv2 (hl : mx_le loc loc') {n : Nat} {v : Value} {s' : List Value} : mx_rA (match mx_sv2 loc n v with | some l => mx_go r l s' h k z | none => none) (match mx_sv2 loc' n v with | some l => mx_go r l s' h k z | none => none) := by
  unfold mx_sv2
  by_cases hn : n + 1 < loc.length
  · rw [if_pos hn, if_pos (by rw [← hl.1]; exact hn)]
    exact mx_rA_go (((hl.cl (by omega)).set (by rw [mx_cl1_len]; omega) _).set (by rw [List.length_set, mx_cl1_len]; exact hn) _)
  · rw [if_neg hn]
    exact mx_rA_none
theorem mx_weak1 (hl : mx_le loc loc') : mx_rA (mx_step1 M sc i r loc st h k z) (mx_step1 M sc i r loc' st h k z) := by
  unfold mx_step1
  split
  · exact mx_rA_go hl
  · exact mx_rA_go hl
  · exact mx_rA_go hl
  · exact mx_rA_go hl
  · exact mx_rA_go hl
  · exact mx_rA_go hl
  · exact mx_rA_go hl
  · unfold mx_sIload
    cases hv : mx_ld loc i.2.2.2.1 with
    | none => exact mx_rA_none
    | some v =>
      rw [hl.2 _ _ hv]
      split
      all_goals first
        | exact mx_rA_go hl
        | exact mx_rA_none
  · unfold mx_sIload
    cases hv : mx_ld loc i.2.2.2.1 with
    | none => exact mx_rA_none
    | some v =>
      rw [hl.2 _ _ hv]
      split
      all_goals first
        | exact mx_rA_go hl
        | exact mx_rA_none
  · unfold mx_sLload
    cases hv : mx_ld loc i.2.2.2.1 with
    | none => exact mx_rA_none
    | some v =>
      rw [hl.2 _ _ hv]
      split
      all_goals first
        | exact mx_rA_go hl
        | exact mx_rA_none
  · unfold mx_sLload
    cases hv : mx_ld loc i.2.2.2.1 with
    | none => exact mx_rA_none
    | some v =>
      rw [hl.2 _ _ hv]
      split
      all_goals first
        | exact mx_rA_go hl
        | exact mx_rA_none
  · unfold mx_sAload
    cases hv : mx_ld loc i.2.2.2.1 with
    | none => exact mx_rA_none
    | some v =>
      rw [hl.2 _ _ hv]
      split
      all_goals first
        | exact mx_rA_go hl
        | exact mx_rA_none
  · unfold mx_sAload
    cases hv : mx_ld loc i.2.2.2.1 with
    | none => exact mx_rA_none
    | some v =>
      rw [hl.2 _ _ hv]
      split
      all_goals first
        | exact mx_rA_go hl
        | exact mx_rA_none
  · unfold mx_sIstore
    split
    all_goals first
      | exact mx_rA_none
      | exact mx_rA_sv hl
  · unfold mx_sIstore
    split
    all_goals first
      | exact mx_rA_none
      | exact mx_rA_sv hl
  · unfold mx_sAstore
    split
    all_goals first
      | exact mx_rA_none
      | exact mx_rA_sv hl
  · unfold mx_sAstore
    split
    all_goals first
      | exact mx_rA_none
      | exact mx_rA_sv hl
  · unfold mx_sLstore
    split
    all_goals first
      | exact mx_rA_none
      | exact mx_rA_sv2 hl
  · unfold mx_sLstore
    split
    all_goals first
      | exact mx_rA_none
      | exact mx_rA_sv2 hl
  · unfold mx_sIinc
    cases hv : mx_ld loc i.2.2.2.1 with
    | none => exact mx_rA_none
    | some v =>
      rw [hl.2 _ _ hv]
      split
      · exact mx_rA_sv hl
      · exact mx_rA_none
  · unfold mx_sB
    repeat' split
    all_goals first
      | exact mx_rA_none
      | exact mx_rA_go hl
      | exact mx_rA_jp hl
  · unfold mx_sB
    repeat' split
    all_goals first
      | exact mx_rA_none
      | exact mx_rA_go hl
      | exact mx_rA_jp hl
  · unfold mx_sB
    repeat' split
    all_goals first
      | exact mx_rA_none
      | exact mx_rA_go hl
      | exact mx_rA_jp hl
  · unfold mx_sB
    repeat' split
    all_goals first
      | exact mx_rA_none
      | exact mx_rA_go hl
      | exact mx_rA_jp hl
  · unfold mx_sB
    repeat' split
    all_goals first
      | exact mx_rA_none
      | exact mx_rA_go hl
      | exact mx_rA_jp hl
  · unfold mx_sB
    repeat' split
    all_goals first
      | exact mx_rA_none
      | exact mx_rA_go hl
      | exact mx_rA_jp hl
  · unfold mx_sB
    repeat' split
    all_goals first
      | exact mx_rA_none
      | exact mx_rA_go hl
      | exact mx_rA_jp hl
  · unfold mx_sB
    repeat' split
    all_goals first
      | exact mx_rA_none
      | exact mx_rA_go hl
      | exact mx_rA_jp hl
  · unfold mx_sBd
    repeat' split
    all_goals first
      | exact mx_rA_none
      | exact mx_rA_go hl
      | exact mx_rA_jp hl
  · unfold mx_sBd
    repeat' split
    all_goals first
      | exact mx_rA_none
      | exact mx_rA_go hl
      | exact mx_rA_jp hl
  · unfold mx_sL
    repeat' split
    all_goals first
      | exact mx_rA_none
      | exact mx_rA_go hl
      | exact mx_rA_jp hl
  · unfold mx_sL
    repeat' split
    all_goals first
      | exact mx_rA_none
      | exact mx_rA_go hl
      | exact mx_rA_jp hl
  · unfold mx_sLd
    repeat' split
    all_goals first
      | exact mx_rA_none
      | exact mx_rA_go hl
      | exact mx_rA_jp hl
  · unfold mx_sLd
    repeat' split
    all_goals first
      | exact mx_rA_none
      | exact mx_rA_go hl
      | exact mx_rA_jp hl
  · unfold mx_sI2l
    repeat' split
    all_goals first
      | exact mx_rA_none
      | exact mx_rA_go hl
      | exact mx_rA_jp hl
  · unfold mx_sL2i
    repeat' split
    all_goals first
      | exact mx_rA_none
      | exact mx_rA_go hl
      | exact mx_rA_jp hl
  · unfold mx_sIcmp
    repeat' split
    all_goals first
      | exact mx_rA_none
      | exact mx_rA_go hl
      | exact mx_rA_jp hl
  · unfold mx_sIf
    repeat' split
    all_goals first
      | exact mx_rA_none
      | exact mx_rA_go hl
      | exact mx_rA_jp hl
  · exact mx_rA_jp hl
  · exact mx_rA_jp hl
  · unfold mx_sSw
    split
    · exact mx_rA_jp hl
    · exact mx_rA_none
  · unfold mx_sSw
    split
    · exact mx_rA_jp hl
    · exact mx_rA_none
  · unfold mx_sIfnull
    repeat' split
    all_goals first
      | exact mx_rA_none
      | exact mx_rA_go hl
      | exact mx_rA_jp hl
  · unfold mx_sIfnn
    repeat' split
    all_goals first
      | exact mx_rA_none
      | exact mx_rA_go hl
      | exact mx_rA_jp hl
  · unfold mx_sDup
    repeat' split
    all_goals first
      | exact mx_rA_none
      | exact mx_rA_go hl
      | exact mx_rA_jp hl
  · unfold mx_sDup2
    repeat' split
    all_goals first
      | exact mx_rA_none
      | exact mx_rA_go hl
      | exact mx_rA_jp hl
  · unfold mx_sPop
    repeat' split
    all_goals first
      | exact mx_rA_none
      | exact mx_rA_go hl
      | exact mx_rA_jp hl
  · unfold mx_sGet
    repeat' split
    all_goals first
      | exact mx_rA_none
      | exact mx_rA_go hl
      | exact mx_rA_jp hl
  · unfold mx_sPut
    repeat' split
    all_goals first
      | exact mx_rA_none
      | exact mx_rA_go hl
      | exact mx_rA_jp hl
  · unfold mx_sIald
    repeat' split
    all_goals first
      | exact mx_rA_none
      | exact mx_rA_go hl
      | exact mx_rA_jp hl
  · unfold mx_sIast
    repeat' split
    all_goals first
      | exact mx_rA_none
      | exact mx_rA_go hl
      | exact mx_rA_jp hl
  · unfold mx_sAald
    repeat' split
    all_goals first
      | exact mx_rA_none
      | exact mx_rA_go hl
      | exact mx_rA_jp hl
  · unfold mx_sAast
    repeat' split
    all_goals first
      | exact mx_rA_none
      | exact mx_rA_go hl
      | exact mx_rA_jp hl
  · unfold mx_sAlen
    repeat' split
    all_goals first
      | exact mx_rA_none
      | exact mx_rA_go hl
      | exact mx_rA_jp hl
  · unfold mx_sNew
    repeat' split
    all_goals first
      | exact mx_rA_none
      | exact mx_rA_go hl
      | exact mx_rA_jp hl
  · unfold mx_sNewa
    repeat' split
    all_goals first
      | exact mx_rA_none
      | exact mx_rA_go hl
      | exact mx_rA_jp hl
  · unfold mx_sNewq
    repeat' split
    all_goals first
      | exact mx_rA_none
      | exact mx_rA_go hl
      | exact mx_rA_jp hl
  · unfold mx_sMna
    repeat' split
    all_goals first
      | exact mx_rA_none
      | exact mx_rA_go hl
      | exact mx_rA_jp hl
  · unfold mx_sVirt
    repeat' split
    all_goals first
      | exact mx_rA_none
      | exact mx_rA_go hl
      | exact mx_rA_call hl
  · unfold mx_sSpec
    repeat' split
    all_goals first
      | exact mx_rA_none
      | exact mx_rA_go hl
      | exact mx_rA_call hl
  · unfold mx_sStat
    repeat' split
    all_goals first
      | exact mx_rA_none
      | exact mx_rA_go hl
      | exact mx_rA_call hl
  · unfold mx_sIret
    repeat' split
    all_goals first
      | exact mx_rA_none
      | exact mx_rA_ret
  · unfold mx_sAret
    repeat' split
    all_goals first
      | exact mx_rA_none
      | exact mx_rA_ret
  · unfold mx_sVret
    repeat' split
    all_goals first
      | exact mx_rA_none
      | exact mx_rA_ret
  · exact mx_rA_none
end Sim
theorem mx_weakN : ∀ (n : Nat) {M : mx_Mt} {sc : mx_Sc} {c c' : mx_Cf} {q : mx_Rs}, mx_rC c c' → mx_run n M sc c = some q → mx_run n M sc c' = some q := by
  intro n
  induction n with
  | zero => intro M sc c c' q _ h; cases h
  | succ n ih =>
    intro M sc c c' q hc hr
    obtain ⟨is, loc, st, h, k, z⟩ := c
    obtain ⟨is', loc', rest'⟩ := c'
    obtain ⟨e1, hl, e2⟩ := hc
    dsimp only at e1 hl e2
    subst e1
    subst e2
    cases is' with
    | nil => cases hr
    | cons i r =>
      unfold mx_run at hr ⊢
      have hw := mx_weak1 (M := M) (sc := sc) (i := i) (r := r) (st := st) (h := h) (k := k) (z := z) hl
      have e3 : mx_step M sc (i :: r, loc, st, h, k, z) = mx_step1 M sc i r loc st h k z := rfl
      have e4 : mx_step M sc (i :: r, loc', st, h, k, z) = mx_step1 M sc i r loc' st h k z := rfl
      rw [e3] at hr
      rw [e4]
      cases hst : mx_step1 M sc i r loc st h k z with
      | none => rw [hst] at hr; cases hr
      | some act =>
        rw [hst] at hr
        cases act with
        | inl d =>
          obtain ⟨d', h1, h2⟩ := hw.1 d hst
          rw [h1]
          exact ih h2 hr
        | inr act =>
          cases act with
          | inr q' =>
            rw [hw.2.2 q' hst]
            exact hr
          | inl call =>
            obtain ⟨y, as, d⟩ := call
            obtain ⟨d', h1, h2⟩ := hw.2.1 y as d hst
            rw [h1]
            obtain ⟨g1, g2, g3⟩ := h2
            dsimp only at hr ⊢
            rw [show d'.2.2.2.1 = d.2.2.2.1 by rw [g3]]
            cases hcal : mx_run n (mx_tab y) mx_noS (mx_ent (mx_tab y) as d.2.2.2.1) with
            | none => rw [hcal] at hr; cases hr
            | some q2 =>
              rw [hcal] at hr
              have hr : mx_run n M sc (mx_beh d q2) = some q := hr
              have hrc : mx_rC (mx_beh d q2) (mx_beh d' q2) := ⟨g1, g2, by unfold mx_beh; rw [g3]⟩
              exact ih hrc hr
theorem mx_more : ∀ (n : Nat) {M : mx_Mt} {sc : mx_Sc} {c : mx_Cf} {q : mx_Rs}, mx_run n M sc c = some q → ∀ d, mx_run (n + d) M sc c = some q := by
  intro n
  induction n with
  | zero => intro M sc c q h; cases h
  | succ n ih =>
    intro M sc c q hr d
    rw [show n + 1 + d = (n + d) + 1 by omega]
    unfold mx_run at hr ⊢
    cases hst : mx_step M sc c with
    | none => rw [hst] at hr; cases hr
    | some act =>
      rw [hst] at hr
      cases act with
      | inl c' => exact ih hr d
      | inr act =>
        cases act with
        | inr q' => exact hr
        | inl call =>
          obtain ⟨y, as, c'⟩ := call
          dsimp only at hr ⊢
          cases hcal : mx_run n (mx_tab y) mx_noS (mx_ent (mx_tab y) as c'.2.2.2.1) with
          | none => rw [hcal] at hr; cases hr
          | some q2 =>
            rw [hcal] at hr
            rw [ih hcal d]
            exact ih hr d
/-- the configuration comes to q -/
def mx_Ev (M : mx_Mt) (sc : mx_Sc) (c : mx_Cf) (q : mx_Rs) : Prop := ∃ n, mx_run n M sc c = some q
theorem mx_Ev.go {M : mx_Mt} {sc : mx_Sc} {c c' : mx_Cf} {q : mx_Rs} (hs : mx_step M sc c = some (.inl c')) (K : mx_Ev M sc c' q) : mx_Ev M sc c q := by
  obtain ⟨n, hn⟩ := K
  refine ⟨n + 1, ?_⟩
  unfold mx_run
  rw [hs]
  exact hn
theorem mx_Ev.ret {M : mx_Mt} {sc : mx_Sc} {c : mx_Cf} {q : mx_Rs} (hs : mx_step M sc c = some (.inr (.inr q))) : mx_Ev M sc c q := by
  refine ⟨1, ?_⟩
  unfold mx_run
  rw [hs]
theorem mx_Ev.call {M : mx_Mt} {sc : mx_Sc} {c c' : mx_Cf} {y : Nat} {as : List Value} {q q2 : mx_Rs} (hs : mx_step M sc c = some (.inr (.inl (y, as, c')))) (hc : mx_Ev (mx_tab y) mx_noS (mx_ent (mx_tab y) as c'.2.2.2.1) q2) (K : mx_Ev M sc (mx_beh c' q2) q) : mx_Ev M sc c q := by
  obtain ⟨n, hn⟩ := K
  obtain ⟨n2, hn2⟩ := hc
  refine ⟨(n2 + n) + 1, ?_⟩
  unfold mx_run
  rw [hs]
  dsimp only
  rw [mx_more n2 hn2 n]
  dsimp only
  rw [Nat.add_comm]
  exact mx_more n hn n2
theorem mx_Ev.weak {M : mx_Mt} {sc : mx_Sc} {is : List mx_In} {loc loc' : mx_Lc} {rest : List Value × mx_Hp × Nat × Nat} {q : mx_Rs} (hl : mx_le loc loc') (K : mx_Ev M sc (is, loc, rest) q) : mx_Ev M sc (is, loc', rest) q := by
  obtain ⟨n, hn⟩ := K
  exact ⟨n, mx_weakN n (c := (is, loc, rest)) (c' := (is, loc', rest)) ⟨rfl, hl, rfl⟩ hn⟩
/-- a method's whole run -/
def mx_Ms (M : mx_Mt) (as : List Value) (h : mx_Hp) (q : mx_Rs) : Prop := mx_Ev M mx_noS (mx_ent M as h) q
theorem mx_le.nil : mx_le [] [] := mx_le.rf []
theorem mx_le.same {a b : mx_Lc} (x : Option Value) (h : mx_le a b) : mx_le (x :: a) (x :: b) := by
  refine ⟨by simp [h.1], fun i v hv => ?_⟩
  cases i with
  | zero => exact hv
  | succ i => exact h.2 i v hv
theorem mx_le.drop {a b : mx_Lc} (x : Option Value) (h : mx_le a b) : mx_le (none :: a) (x :: b) := by
  refine ⟨by simp [h.1], fun i v hv => ?_⟩
  cases i with
  | zero => cases hv
  | succ i => exact h.2 i v hv
/-! the rules by which a run is laid: reads, writes, branches -/
theorem mx_bS {α β : Type} {x : Option α} {f : α → Option β} {q : β} (h : x.bind f = some q) : ∃ v, x = some v ∧ f v = some q := by
  cases x with
  | none => cases h
  | some v => exact ⟨v, rfl, h⟩
section Rules
variable {M : mx_Mt} {sc : mx_Sc} {r : List mx_In} {loc : mx_Lc} {st : List Value} {h h' : mx_Hp} {k z pc idx len a b : Nat} {cc : Int32} {lw : List (Int32 × Nat)} {q : mx_Rs}
theorem mx_e_gr {o v : Nat} (hv : mx_gr h o a b = some v) (hk : mx_fk a b = 1) (K : mx_Ev M sc (r, loc, .ref v :: st, h, k, z) q) : mx_Ev M sc ((pc, .getfield idx, len, a, b, cc, lw) :: r, loc, .ref o :: st, h, k, z) q := by
  refine mx_Ev.go ?_ K
  unfold mx_step
  dsimp only
  unfold mx_step1
  dsimp only
  unfold mx_sGet
  dsimp only
  rw [if_pos hk, hv]
  rfl
theorem mx_e_gi {o : Nat} {v : Int32} (hv : mx_gi h o a b = some v) (hk : ¬ mx_fk a b = 1) (K : mx_Ev M sc (r, loc, .int v :: st, h, k, z) q) : mx_Ev M sc ((pc, .getfield idx, len, a, b, cc, lw) :: r, loc, .ref o :: st, h, k, z) q := by
  refine mx_Ev.go ?_ K
  unfold mx_step
  dsimp only
  unfold mx_step1
  dsimp only
  unfold mx_sGet
  dsimp only
  rw [if_neg hk, hv]
  rfl
theorem mx_e_pi {o : Nat} {v : Int32} (hv : mx_pi h o a b v = some h') (K : mx_Ev M sc (r, loc, st, h', k, z) q) : mx_Ev M sc ((pc, .putfield idx, len, a, b, cc, lw) :: r, loc, .int v :: .ref o :: st, h, k, z) q := by
  refine mx_Ev.go ?_ K
  unfold mx_step
  dsimp only
  unfold mx_step1
  dsimp only
  unfold mx_sPut
  dsimp only
  rw [hv]
  rfl
theorem mx_e_pr {o v : Nat} (hv : mx_pr h o a b v = some h') (K : mx_Ev M sc (r, loc, st, h', k, z) q) : mx_Ev M sc ((pc, .putfield idx, len, a, b, cc, lw) :: r, loc, .ref v :: .ref o :: st, h, k, z) q := by
  refine mx_Ev.go ?_ K
  unfold mx_step
  dsimp only
  unfold mx_step1
  dsimp only
  unfold mx_sPut
  dsimp only
  rw [hv]
  rfl
theorem mx_al_scr {o : Nat} {j v : Int32} (hv : mx_al h o j = some v) : ¬ o = mx_SCR := by
  unfold mx_al at hv
  split at hv
  · rename_i hc
    have := mx_lay_lt (o := o) (by rw [hc.2.1]; decide)
    unfold mx_SCR
    omega
  · cases hv
theorem mx_ln_scr {o : Nat} {v : Int32} (hv : mx_ln h o = some v) : ¬ o = mx_SCR := by
  unfold mx_ln at hv
  split at hv
  · rename_i hc
    have := mx_lay_lt (o := o) (by rcases hc.2 with q | q | q <;> rw [q] <;> decide)
    unfold mx_SCR
    omega
  · cases hv
theorem mx_e_al {o : Nat} {j v : Int32} (hv : mx_al h o j = some v) (K : mx_Ev M sc (r, loc, .int v :: st, h, k, z) q) : mx_Ev M sc ((pc, .iaload, len, a, b, cc, lw) :: r, loc, .int j :: .ref o :: st, h, k, z) q := by
  refine mx_Ev.go ?_ K
  unfold mx_step
  dsimp only
  unfold mx_step1
  dsimp only
  unfold mx_sIald
  dsimp only
  rw [if_neg (mx_al_scr hv), hv]
  rfl
theorem mx_e_as {o : Nat} {j v : Int32} (hv : mx_as h o j v = some h') (K : mx_Ev M sc (r, loc, st, h', k, z) q) : mx_Ev M sc ((pc, .iastore, len, a, b, cc, lw) :: r, loc, .int v :: .int j :: .ref o :: st, h, k, z) q := by
  refine mx_Ev.go ?_ K
  unfold mx_step
  dsimp only
  unfold mx_step1
  dsimp only
  unfold mx_sIast
  dsimp only
  rw [hv]
  rfl
theorem mx_e_rl {o v : Nat} {j : Int32} (hv : mx_rl h o j = some v) (K : mx_Ev M sc (r, loc, .ref v :: st, h, k, z) q) : mx_Ev M sc ((pc, .aaload, len, a, b, cc, lw) :: r, loc, .int j :: .ref o :: st, h, k, z) q := by
  refine mx_Ev.go ?_ K
  unfold mx_step
  dsimp only
  unfold mx_step1
  dsimp only
  unfold mx_sAald
  dsimp only
  rw [hv]
  rfl
theorem mx_e_rs {o v : Nat} {j : Int32} (hv : mx_rs h o j v = some h') (K : mx_Ev M sc (r, loc, st, h', k, z) q) : mx_Ev M sc ((pc, .aastore, len, a, b, cc, lw) :: r, loc, .ref v :: .int j :: .ref o :: st, h, k, z) q := by
  refine mx_Ev.go ?_ K
  unfold mx_step
  dsimp only
  unfold mx_step1
  dsimp only
  unfold mx_sAast
  dsimp only
  rw [hv]
  rfl
theorem mx_e_ln {o : Nat} {v : Int32} (hv : mx_ln h o = some v) (K : mx_Ev M sc (r, loc, .int v :: st, h, k, z) q) : mx_Ev M sc ((pc, .arraylength, len, a, b, cc, lw) :: r, loc, .ref o :: st, h, k, z) q := by
  refine mx_Ev.go ?_ K
  unfold mx_step
  dsimp only
  unfold mx_step1
  dsimp only
  unfold mx_sAlen
  dsimp only
  rw [if_neg (mx_ln_scr hv), hv]
  rfl
theorem mx_e_it {x y : Int32} {cd : ClassFile.Cond} {off : Int} (hc : mx_cond cd x y = true) (K : mx_Ev M sc (M.1 a, loc, st, h, k, z) q) : mx_Ev M sc ((pc, .if_icmp cd off, len, a, b, cc, lw) :: r, loc, .int y :: .int x :: st, h, k, z) q := by
  refine mx_Ev.go ?_ K
  unfold mx_step
  dsimp only
  unfold mx_step1
  dsimp only
  unfold mx_sIcmp
  dsimp only
  rw [if_pos hc]
  rfl
theorem mx_e_if {x y : Int32} {cd : ClassFile.Cond} {off : Int} (hc : ¬ mx_cond cd x y = true) (K : mx_Ev M sc (r, loc, st, h, k, z) q) : mx_Ev M sc ((pc, .if_icmp cd off, len, a, b, cc, lw) :: r, loc, .int y :: .int x :: st, h, k, z) q := by
  refine mx_Ev.go ?_ K
  unfold mx_step
  dsimp only
  unfold mx_step1
  dsimp only
  unfold mx_sIcmp
  dsimp only
  rw [if_neg hc]
  rfl
theorem mx_e_zt {x : Int32} {cd : ClassFile.Cond} {off : Int} (hc : mx_cond cd x 0 = true) (K : mx_Ev M sc (M.1 a, loc, st, h, k, z) q) : mx_Ev M sc ((pc, .ifCond cd off, len, a, b, cc, lw) :: r, loc, .int x :: st, h, k, z) q := by
  refine mx_Ev.go ?_ K
  unfold mx_step
  dsimp only
  unfold mx_step1
  dsimp only
  unfold mx_sIf
  dsimp only
  rw [if_pos hc]
  rfl
theorem mx_e_zf {x : Int32} {cd : ClassFile.Cond} {off : Int} (hc : ¬ mx_cond cd x 0 = true) (K : mx_Ev M sc (r, loc, st, h, k, z) q) : mx_Ev M sc ((pc, .ifCond cd off, len, a, b, cc, lw) :: r, loc, .int x :: st, h, k, z) q := by
  refine mx_Ev.go ?_ K
  unfold mx_step
  dsimp only
  unfold mx_step1
  dsimp only
  unfold mx_sIf
  dsimp only
  rw [if_neg hc]
  rfl
theorem mx_e_sw {x : Int32} {d lo hi : Int} {offs : Array Int} {t : Nat} (ht : mx_sw lw x a = t) (K : mx_Ev M sc (M.1 t, loc, st, h, k, z) q) : mx_Ev M sc ((pc, .tableswitch d lo hi offs, len, a, b, cc, lw) :: r, loc, .int x :: st, h, k, z) q := by
  subst ht
  exact mx_Ev.go rfl K
theorem mx_e_lk {x : Int32} {d : Int} {ps : Array (Int × Int)} {t : Nat} (ht : mx_sw lw x a = t) (K : mx_Ev M sc (M.1 t, loc, st, h, k, z) q) : mx_Ev M sc ((pc, .lookupswitch d ps, len, a, b, cc, lw) :: r, loc, .int x :: st, h, k, z) q := by
  subst ht
  exact mx_Ev.go rfl K
theorem mx_sw_t {x c0 : Int32} {t d : Nat} {l : List (Int32 × Nat)} (hx : x = c0) : mx_sw ((c0, t) :: l) x d = t := by simp [mx_sw, hx]
theorem mx_sw_f {x c0 : Int32} {t d t' : Nat} {l : List (Int32 × Nat)} (hx : ¬ x = c0) (h : mx_sw l x d = t') : mx_sw ((c0, t) :: l) x d = t' := by simp [mx_sw, hx, h]
theorem mx_e_dv {x y : Int32} (hy : ¬ y = 0) (K : mx_Ev M sc (r, loc, .int (x / y) :: st, h, k, z) q) : mx_Ev M sc ((pc, .idiv, len, a, b, cc, lw) :: r, loc, .int y :: .int x :: st, h, k, z) q := by
  refine mx_Ev.go ?_ K
  unfold mx_step
  dsimp only
  unfold mx_step1
  dsimp only
  unfold mx_sBd
  dsimp only
  rw [if_neg hy]
  rfl
theorem mx_e_rm {x y : Int32} (hy : ¬ y = 0) (K : mx_Ev M sc (r, loc, .int (x - x / y * y) :: st, h, k, z) q) : mx_Ev M sc ((pc, .irem, len, a, b, cc, lw) :: r, loc, .int y :: .int x :: st, h, k, z) q := by
  refine mx_Ev.go ?_ K
  unfold mx_step
  dsimp only
  unfold mx_step1
  dsimp only
  unfold mx_sBd
  dsimp only
  rw [if_neg hy]
  rfl
theorem mx_e_ldv {x y : Int64} (hy : ¬ y = 0) (K : mx_Ev M sc (r, loc, .long (x / y) :: st, h, k, z) q) : mx_Ev M sc ((pc, .ldiv, len, a, b, cc, lw) :: r, loc, .long y :: .long x :: st, h, k, z) q := by
  refine mx_Ev.go ?_ K
  unfold mx_step
  dsimp only
  unfold mx_step1
  dsimp only
  unfold mx_sLd
  dsimp only
  rw [if_neg hy]
  rfl
theorem mx_e_lrm {x y : Int64} (hy : ¬ y = 0) (K : mx_Ev M sc (r, loc, .long (x - x / y * y) :: st, h, k, z) q) : mx_Ev M sc ((pc, .lrem, len, a, b, cc, lw) :: r, loc, .long y :: .long x :: st, h, k, z) q := by
  refine mx_Ev.go ?_ K
  unfold mx_step
  dsimp only
  unfold mx_step1
  dsimp only
  unfold mx_sLd
  dsimp only
  rw [if_neg hy]
  rfl
theorem mx_e_rb {x : Int32} (hr : M.2.2.2.2.1 = some .boolean) (hx : x = 0 ∨ x = 1) : mx_Ev M sc ((pc, .ireturn, len, a, b, cc, lw) :: r, loc, [.int x], h, 0, 0) (some (.int x), h) := by
  refine mx_Ev.ret ?_
  unfold mx_step
  dsimp only
  unfold mx_step1
  dsimp only
  unfold mx_sIret mx_ret
  dsimp only
  rw [if_pos (Or.inr ⟨hr, hx⟩), if_pos ⟨Nat.zero_le _, Nat.zero_le _⟩]
theorem mx_e_ri {x : Int32} (hr : M.2.2.2.2.1 = some .int) : mx_Ev M sc ((pc, .ireturn, len, a, b, cc, lw) :: r, loc, [.int x], h, 0, 0) (some (.int x), h) := by
  refine mx_Ev.ret ?_
  unfold mx_step
  dsimp only
  unfold mx_step1
  dsimp only
  unfold mx_sIret mx_ret
  dsimp only
  rw [if_pos (Or.inl hr), if_pos ⟨Nat.zero_le _, Nat.zero_le _⟩]
end Rules
/-- a reference that may be null -/
def mx_nv (v : Option Nat) : Value := match v with
  | none => .null
  | some a => .ref a
section Plain
variable {M : mx_Mt} {sc : mx_Sc} {r : List mx_In} {loc : mx_Lc} {st : List Value} {h : mx_Hp} {k z pc len a b : Nat} {cc : Int32} {lw : List (Int32 × Nat)} {q : mx_Rs}
theorem mx_p_ic {j : Int}  (K : mx_Ev M sc (r, loc, .int cc :: st, h, k, z) q) : mx_Ev M sc ((pc, .iconst j, len, a, b, cc, lw) :: r, loc, st, h, k, z) q := by
  refine mx_Ev.go ?_ K
  unfold mx_step
  dsimp only
  unfold mx_step1
  dsimp only
  rfl
theorem mx_p_bp {j : Int}  (K : mx_Ev M sc (r, loc, .int cc :: st, h, k, z) q) : mx_Ev M sc ((pc, .bipush j, len, a, b, cc, lw) :: r, loc, st, h, k, z) q := by
  refine mx_Ev.go ?_ K
  unfold mx_step
  dsimp only
  unfold mx_step1
  dsimp only
  rfl
theorem mx_p_sp {j : Int}  (K : mx_Ev M sc (r, loc, .int cc :: st, h, k, z) q) : mx_Ev M sc ((pc, .sipush j, len, a, b, cc, lw) :: r, loc, st, h, k, z) q := by
  refine mx_Ev.go ?_ K
  unfold mx_step
  dsimp only
  unfold mx_step1
  dsimp only
  rfl
theorem mx_p_lc {j : Fin 2}  (K : mx_Ev M sc (r, loc, .long cc.toInt64 :: st, h, k, z) q) : mx_Ev M sc ((pc, .lconst j, len, a, b, cc, lw) :: r, loc, st, h, k, z) q := by
  refine mx_Ev.go ?_ K
  unfold mx_step
  dsimp only
  unfold mx_step1
  dsimp only
  rfl
theorem mx_p_l2 {j : Nat}  (K : mx_Ev M sc (r, loc, .long cc.toInt64 :: st, h, k, z) q) : mx_Ev M sc ((pc, .ldc2_w j, len, a, b, cc, lw) :: r, loc, st, h, k, z) q := by
  refine mx_Ev.go ?_ K
  unfold mx_step
  dsimp only
  unfold mx_step1
  dsimp only
  rfl
theorem mx_p_nl   (K : mx_Ev M sc (r, loc, .null :: st, h, k, z) q) : mx_Ev M sc ((pc, .aconst_null, len, a, b, cc, lw) :: r, loc, st, h, k, z) q := by
  refine mx_Ev.go ?_ K
  unfold mx_step
  dsimp only
  unfold mx_step1
  dsimp only
  rfl
theorem mx_p_iln {j : Fin 4} {x : Int32} (hv : mx_ld loc a = some (.int x)) (K : mx_Ev M sc (r, loc, .int x :: st, h, k, z) q) : mx_Ev M sc ((pc, .iload_n j, len, a, b, cc, lw) :: r, loc, st, h, k, z) q := by
  refine mx_Ev.go ?_ K
  unfold mx_step
  dsimp only
  unfold mx_step1
  dsimp only
  unfold mx_sIload
  dsimp only
  rw [hv]
  rfl
theorem mx_p_il {j : Nat} {x : Int32} (hv : mx_ld loc a = some (.int x)) (K : mx_Ev M sc (r, loc, .int x :: st, h, k, z) q) : mx_Ev M sc ((pc, .iload j, len, a, b, cc, lw) :: r, loc, st, h, k, z) q := by
  refine mx_Ev.go ?_ K
  unfold mx_step
  dsimp only
  unfold mx_step1
  dsimp only
  unfold mx_sIload
  dsimp only
  rw [hv]
  rfl
theorem mx_p_lln {j : Fin 4} {x : Int64} (hv : mx_ld loc a = some (.long x)) (K : mx_Ev M sc (r, loc, .long x :: st, h, k, z) q) : mx_Ev M sc ((pc, .lload_n j, len, a, b, cc, lw) :: r, loc, st, h, k, z) q := by
  refine mx_Ev.go ?_ K
  unfold mx_step
  dsimp only
  unfold mx_step1
  dsimp only
  unfold mx_sLload
  dsimp only
  rw [hv]
  rfl
theorem mx_p_ll {j : Nat} {x : Int64} (hv : mx_ld loc a = some (.long x)) (K : mx_Ev M sc (r, loc, .long x :: st, h, k, z) q) : mx_Ev M sc ((pc, .lload j, len, a, b, cc, lw) :: r, loc, st, h, k, z) q := by
  refine mx_Ev.go ?_ K
  unfold mx_step
  dsimp only
  unfold mx_step1
  dsimp only
  unfold mx_sLload
  dsimp only
  rw [hv]
  rfl
theorem mx_p_aln {j : Fin 4} {x : Nat} (hv : mx_ld loc a = some (.ref x)) (K : mx_Ev M sc (r, loc, .ref x :: st, h, k, z) q) : mx_Ev M sc ((pc, .aload_n j, len, a, b, cc, lw) :: r, loc, st, h, k, z) q := by
  refine mx_Ev.go ?_ K
  unfold mx_step
  dsimp only
  unfold mx_step1
  dsimp only
  unfold mx_sAload
  dsimp only
  rw [hv]
  rfl
theorem mx_p_al {j : Nat} {x : Nat} (hv : mx_ld loc a = some (.ref x)) (K : mx_Ev M sc (r, loc, .ref x :: st, h, k, z) q) : mx_Ev M sc ((pc, .aload j, len, a, b, cc, lw) :: r, loc, st, h, k, z) q := by
  refine mx_Ev.go ?_ K
  unfold mx_step
  dsimp only
  unfold mx_step1
  dsimp only
  unfold mx_sAload
  dsimp only
  rw [hv]
  rfl
theorem mx_p_anN {j : Fin 4} {x : Option Nat} (hv : mx_ld loc a = some (mx_nv x)) (K : mx_Ev M sc (r, loc, mx_nv x :: st, h, k, z) q) : mx_Ev M sc ((pc, .aload_n j, len, a, b, cc, lw) :: r, loc, st, h, k, z) q := by
  refine mx_Ev.go ?_ K
  unfold mx_step
  dsimp only
  unfold mx_step1
  dsimp only
  unfold mx_sAload
  dsimp only
  rw [hv]
  unfold mx_nv
  cases x <;> rfl
theorem mx_p_aN {j : Nat} {x : Option Nat} (hv : mx_ld loc a = some (mx_nv x)) (K : mx_Ev M sc (r, loc, mx_nv x :: st, h, k, z) q) : mx_Ev M sc ((pc, .aload j, len, a, b, cc, lw) :: r, loc, st, h, k, z) q := by
  refine mx_Ev.go ?_ K
  unfold mx_step
  dsimp only
  unfold mx_step1
  dsimp only
  unfold mx_sAload
  dsimp only
  rw [hv]
  unfold mx_nv
  cases x <;> rfl
theorem mx_p_isn {j : Fin 4} {x : Int32} {loc' : mx_Lc} (hv : mx_sv loc a (.int x) = some loc') (K : mx_Ev M sc (r, loc', st, h, k, z) q) : mx_Ev M sc ((pc, .istore_n j, len, a, b, cc, lw) :: r, loc, .int x :: st, h, k, z) q := by
  refine mx_Ev.go ?_ K
  unfold mx_step
  dsimp only
  unfold mx_step1
  dsimp only
  unfold mx_sIstore
  dsimp only
  rw [hv]
  rfl
theorem mx_p_is {j : Nat} {x : Int32} {loc' : mx_Lc} (hv : mx_sv loc a (.int x) = some loc') (K : mx_Ev M sc (r, loc', st, h, k, z) q) : mx_Ev M sc ((pc, .istore j, len, a, b, cc, lw) :: r, loc, .int x :: st, h, k, z) q := by
  refine mx_Ev.go ?_ K
  unfold mx_step
  dsimp only
  unfold mx_step1
  dsimp only
  unfold mx_sIstore
  dsimp only
  rw [hv]
  rfl
theorem mx_p_asn {j : Fin 4} {x : Nat} {loc' : mx_Lc} (hv : mx_sv loc a (.ref x) = some loc') (K : mx_Ev M sc (r, loc', st, h, k, z) q) : mx_Ev M sc ((pc, .astore_n j, len, a, b, cc, lw) :: r, loc, .ref x :: st, h, k, z) q := by
  refine mx_Ev.go ?_ K
  unfold mx_step
  dsimp only
  unfold mx_step1
  dsimp only
  unfold mx_sAstore
  dsimp only
  rw [hv]
  rfl
theorem mx_p_as {j : Nat} {x : Nat} {loc' : mx_Lc} (hv : mx_sv loc a (.ref x) = some loc') (K : mx_Ev M sc (r, loc', st, h, k, z) q) : mx_Ev M sc ((pc, .astore j, len, a, b, cc, lw) :: r, loc, .ref x :: st, h, k, z) q := by
  refine mx_Ev.go ?_ K
  unfold mx_step
  dsimp only
  unfold mx_step1
  dsimp only
  unfold mx_sAstore
  dsimp only
  rw [hv]
  rfl
theorem mx_p_asnN {j : Fin 4} {x : Option Nat} {loc' : mx_Lc} (hv : mx_sv loc a (mx_nv x) = some loc') (K : mx_Ev M sc (r, loc', st, h, k, z) q) : mx_Ev M sc ((pc, .astore_n j, len, a, b, cc, lw) :: r, loc, mx_nv x :: st, h, k, z) q := by
  refine mx_Ev.go ?_ K
  unfold mx_step
  dsimp only
  unfold mx_step1
  dsimp only
  unfold mx_sAstore
  unfold mx_nv at hv ⊢
  cases x <;> (dsimp only at hv ⊢; rw [hv]; rfl)
theorem mx_p_asN {j : Nat} {x : Option Nat} {loc' : mx_Lc} (hv : mx_sv loc a (mx_nv x) = some loc') (K : mx_Ev M sc (r, loc', st, h, k, z) q) : mx_Ev M sc ((pc, .astore j, len, a, b, cc, lw) :: r, loc, mx_nv x :: st, h, k, z) q := by
  refine mx_Ev.go ?_ K
  unfold mx_step
  dsimp only
  unfold mx_step1
  dsimp only
  unfold mx_sAstore
  unfold mx_nv at hv ⊢
  cases x <;> (dsimp only at hv ⊢; rw [hv]; rfl)
theorem mx_p_lsn {j : Fin 4} {x : Int64} {loc' : mx_Lc} (hv : mx_sv2 loc a (.long x) = some loc') (K : mx_Ev M sc (r, loc', st, h, k, z) q) : mx_Ev M sc ((pc, .lstore_n j, len, a, b, cc, lw) :: r, loc, .long x :: st, h, k, z) q := by
  refine mx_Ev.go ?_ K
  unfold mx_step
  dsimp only
  unfold mx_step1
  dsimp only
  unfold mx_sLstore
  dsimp only
  rw [hv]
  rfl
theorem mx_p_ls {j : Nat} {x : Int64} {loc' : mx_Lc} (hv : mx_sv2 loc a (.long x) = some loc') (K : mx_Ev M sc (r, loc', st, h, k, z) q) : mx_Ev M sc ((pc, .lstore j, len, a, b, cc, lw) :: r, loc, .long x :: st, h, k, z) q := by
  refine mx_Ev.go ?_ K
  unfold mx_step
  dsimp only
  unfold mx_step1
  dsimp only
  unfold mx_sLstore
  dsimp only
  rw [hv]
  rfl
theorem mx_p_inc {j : Nat} {d : Int} {x : Int32} {loc' : mx_Lc} (hv : mx_ld loc a = some (.int x)) (hv2 : mx_sv loc a (.int (x + cc)) = some loc') (K : mx_Ev M sc (r, loc', st, h, k, z) q) : mx_Ev M sc ((pc, .iinc j d, len, a, b, cc, lw) :: r, loc, st, h, k, z) q := by
  refine mx_Ev.go ?_ K
  unfold mx_step
  dsimp only
  unfold mx_step1
  dsimp only
  unfold mx_sIinc
  dsimp only
  rw [hv]
  dsimp only
  rw [hv2]
  rfl
theorem mx_p_iadd {x y : Int32}  (K : mx_Ev M sc (r, loc, .int (x + y) :: st, h, k, z) q) : mx_Ev M sc ((pc, .iadd, len, a, b, cc, lw) :: r, loc, .int y :: .int x :: st, h, k, z) q := by
  refine mx_Ev.go ?_ K
  unfold mx_step
  dsimp only
  unfold mx_step1
  dsimp only
  rfl
theorem mx_p_isub {x y : Int32}  (K : mx_Ev M sc (r, loc, .int (x - y) :: st, h, k, z) q) : mx_Ev M sc ((pc, .isub, len, a, b, cc, lw) :: r, loc, .int y :: .int x :: st, h, k, z) q := by
  refine mx_Ev.go ?_ K
  unfold mx_step
  dsimp only
  unfold mx_step1
  dsimp only
  rfl
theorem mx_p_imul {x y : Int32}  (K : mx_Ev M sc (r, loc, .int (x * y) :: st, h, k, z) q) : mx_Ev M sc ((pc, .imul, len, a, b, cc, lw) :: r, loc, .int y :: .int x :: st, h, k, z) q := by
  refine mx_Ev.go ?_ K
  unfold mx_step
  dsimp only
  unfold mx_step1
  dsimp only
  rfl
theorem mx_p_iand {x y : Int32}  (K : mx_Ev M sc (r, loc, .int (x &&& y) :: st, h, k, z) q) : mx_Ev M sc ((pc, .iand, len, a, b, cc, lw) :: r, loc, .int y :: .int x :: st, h, k, z) q := by
  refine mx_Ev.go ?_ K
  unfold mx_step
  dsimp only
  unfold mx_step1
  dsimp only
  rfl
theorem mx_p_ior {x y : Int32}  (K : mx_Ev M sc (r, loc, .int (x ||| y) :: st, h, k, z) q) : mx_Ev M sc ((pc, .ior, len, a, b, cc, lw) :: r, loc, .int y :: .int x :: st, h, k, z) q := by
  refine mx_Ev.go ?_ K
  unfold mx_step
  dsimp only
  unfold mx_step1
  dsimp only
  rfl
theorem mx_p_ixor {x y : Int32}  (K : mx_Ev M sc (r, loc, .int (x ^^^ y) :: st, h, k, z) q) : mx_Ev M sc ((pc, .ixor, len, a, b, cc, lw) :: r, loc, .int y :: .int x :: st, h, k, z) q := by
  refine mx_Ev.go ?_ K
  unfold mx_step
  dsimp only
  unfold mx_step1
  dsimp only
  rfl
theorem mx_p_ishl {x y : Int32}  (K : mx_Ev M sc (r, loc, .int (x <<< (y &&& 31)) :: st, h, k, z) q) : mx_Ev M sc ((pc, .ishl, len, a, b, cc, lw) :: r, loc, .int y :: .int x :: st, h, k, z) q := by
  refine mx_Ev.go ?_ K
  unfold mx_step
  dsimp only
  unfold mx_step1
  dsimp only
  rfl
theorem mx_p_ishr {x y : Int32}  (K : mx_Ev M sc (r, loc, .int (x >>> (y &&& 31)) :: st, h, k, z) q) : mx_Ev M sc ((pc, .ishr, len, a, b, cc, lw) :: r, loc, .int y :: .int x :: st, h, k, z) q := by
  refine mx_Ev.go ?_ K
  unfold mx_step
  dsimp only
  unfold mx_step1
  dsimp only
  rfl
theorem mx_p_ladd {x y : Int64}  (K : mx_Ev M sc (r, loc, .long (x + y) :: st, h, k, z) q) : mx_Ev M sc ((pc, .ladd, len, a, b, cc, lw) :: r, loc, .long y :: .long x :: st, h, k, z) q := by
  refine mx_Ev.go ?_ K
  unfold mx_step
  dsimp only
  unfold mx_step1
  dsimp only
  rfl
theorem mx_p_lmul {x y : Int64}  (K : mx_Ev M sc (r, loc, .long (x * y) :: st, h, k, z) q) : mx_Ev M sc ((pc, .lmul, len, a, b, cc, lw) :: r, loc, .long y :: .long x :: st, h, k, z) q := by
  refine mx_Ev.go ?_ K
  unfold mx_step
  dsimp only
  unfold mx_step1
  dsimp only
  rfl
theorem mx_p_i2l {x : Int32}  (K : mx_Ev M sc (r, loc, .long x.toInt64 :: st, h, k, z) q) : mx_Ev M sc ((pc, .i2l, len, a, b, cc, lw) :: r, loc, .int x :: st, h, k, z) q := by
  refine mx_Ev.go ?_ K
  unfold mx_step
  dsimp only
  unfold mx_step1
  dsimp only
  rfl
theorem mx_p_l2i {x : Int64}  (K : mx_Ev M sc (r, loc, .int x.toInt32 :: st, h, k, z) q) : mx_Ev M sc ((pc, .l2i, len, a, b, cc, lw) :: r, loc, .long x :: st, h, k, z) q := by
  refine mx_Ev.go ?_ K
  unfold mx_step
  dsimp only
  unfold mx_step1
  dsimp only
  rfl
theorem mx_p_dup {x : Value} (hv : mx_c1 x = true) (K : mx_Ev M sc (r, loc, x :: x :: st, h, k, z) q) : mx_Ev M sc ((pc, .dup, len, a, b, cc, lw) :: r, loc, x :: st, h, k, z) q := by
  refine mx_Ev.go ?_ K
  unfold mx_step
  dsimp only
  unfold mx_step1
  dsimp only
  unfold mx_sDup
  dsimp only
  rw [if_pos hv]
  rfl
theorem mx_p_dup2 {x y : Value} (hv : mx_c1 x = true) (hv2 : mx_c1 y = true) (K : mx_Ev M sc (r, loc, x :: y :: x :: y :: st, h, k, z) q) : mx_Ev M sc ((pc, .dup2, len, a, b, cc, lw) :: r, loc, x :: y :: st, h, k, z) q := by
  refine mx_Ev.go ?_ K
  unfold mx_step
  dsimp only
  unfold mx_step1
  dsimp only
  unfold mx_sDup2
  dsimp only
  rw [if_pos ⟨hv, hv2⟩]
  rfl
theorem mx_p_pop {x : Value} (hv : mx_c1 x = true) (K : mx_Ev M sc (r, loc, st, h, k, z) q) : mx_Ev M sc ((pc, .pop, len, a, b, cc, lw) :: r, loc, x :: st, h, k, z) q := by
  refine mx_Ev.go ?_ K
  unfold mx_step
  dsimp only
  unfold mx_step1
  dsimp only
  unfold mx_sPop
  dsimp only
  rw [if_pos hv]
  rfl
theorem mx_p_gt {j : Int}  (K : mx_Ev M sc (M.1 a, loc, st, h, k, z) q) : mx_Ev M sc ((pc, .goto j, len, a, b, cc, lw) :: r, loc, st, h, k, z) q := by
  refine mx_Ev.go ?_ K
  unfold mx_step
  dsimp only
  unfold mx_step1
  dsimp only
  rfl
theorem mx_p_np   (K : mx_Ev M sc (M.1 a, loc, st, h, k, z) q) : mx_Ev M sc ((pc, .nop, len, a, b, cc, lw) :: r, loc, st, h, k, z) q := by
  refine mx_Ev.go ?_ K
  unfold mx_step
  dsimp only
  unfold mx_step1
  dsimp only
  rfl
theorem mx_p_mx {j : Nat} {x y : Int32} (ha : a = 1001) (hc : mx_cat st ≤ 8 ∧ k ≤ M.2.2.2.2.2.2.1.cells ∧ z ≤ M.2.2.2.2.2.2.1.slots) (K : mx_Ev M sc (r, loc, .int (if x < y then y else x) :: st, h, k, z) q) : mx_Ev M sc ((pc, .invokestatic j, len, a, b, cc, lw) :: r, loc, .int y :: .int x :: st, h, k, z) q := by
  refine mx_Ev.go ?_ K
  unfold mx_step
  dsimp only
  unfold mx_step1
  dsimp only
  unfold mx_sStat
  rw [if_pos ha]
  dsimp only
  rw [if_pos hc]
  rfl
theorem mx_p_nuN {j : Int}  (K : mx_Ev M sc (M.1 a, loc, st, h, k, z) q) : mx_Ev M sc ((pc, .ifnull j, len, a, b, cc, lw) :: r, loc, .null :: st, h, k, z) q := by
  refine mx_Ev.go ?_ K
  unfold mx_step
  dsimp only
  unfold mx_step1
  dsimp only
  rfl
theorem mx_p_nuR {j : Int} {x : Nat}  (K : mx_Ev M sc (r, loc, st, h, k, z) q) : mx_Ev M sc ((pc, .ifnull j, len, a, b, cc, lw) :: r, loc, .ref x :: st, h, k, z) q := by
  refine mx_Ev.go ?_ K
  unfold mx_step
  dsimp only
  unfold mx_step1
  dsimp only
  rfl
theorem mx_p_nnR {j : Int} {x : Nat}  (K : mx_Ev M sc (M.1 a, loc, st, h, k, z) q) : mx_Ev M sc ((pc, .ifnonnull j, len, a, b, cc, lw) :: r, loc, .ref x :: st, h, k, z) q := by
  refine mx_Ev.go ?_ K
  unfold mx_step
  dsimp only
  unfold mx_step1
  dsimp only
  rfl
theorem mx_p_nnN {j : Int}  (K : mx_Ev M sc (r, loc, st, h, k, z) q) : mx_Ev M sc ((pc, .ifnonnull j, len, a, b, cc, lw) :: r, loc, .null :: st, h, k, z) q := by
  refine mx_Ev.go ?_ K
  unfold mx_step
  dsimp only
  unfold mx_step1
  dsimp only
  rfl
theorem mx_p_rv : mx_Ev M sc ((pc, .return_, len, a, b, cc, lw) :: r, loc, [], h, 0, 0) (none, h) := mx_Ev.ret (by
  unfold mx_step
  dsimp only
  unfold mx_step1
  dsimp only
  unfold mx_sVret mx_ret
  dsimp only
  rw [if_pos ⟨Nat.zero_le _, Nat.zero_le _⟩])
theorem mx_p_ra {x : Nat} : mx_Ev M sc ((pc, .areturn, len, a, b, cc, lw) :: r, loc, [.ref x], h, 0, 0) (some (.ref x), h) := mx_Ev.ret (by
  unfold mx_step
  dsimp only
  unfold mx_step1
  dsimp only
  unfold mx_sAret mx_ret
  dsimp only
  rw [if_pos ⟨Nat.zero_le _, Nat.zero_le _⟩])
theorem mx_p_rn {x : Option Nat} : mx_Ev M sc ((pc, .areturn, len, a, b, cc, lw) :: r, loc, [mx_nv x], h, 0, 0) (some (mx_nv x), h) := mx_Ev.ret (by
  unfold mx_step
  dsimp only
  unfold mx_step1
  dsimp only
  unfold mx_sAret mx_ret
  rw [if_pos ⟨Nat.zero_le _, Nat.zero_le _⟩]
  cases x <;> rfl)
end Plain
section Calls
variable {M M2 : mx_Mt} {sc : mx_Sc} {r : List mx_In} {loc : mx_Lc} {st rest : List Value} {h : mx_Hp} {k z pc idx len y b : Nat} {cc : Int32} {lw : List (Int32 × Nat)} {q q2 : mx_Rs}
theorem mx_e_cv {o ci : Nat} {as : List Value} (hT : mx_tab y = M2) (hon : o < h.1 ∧ (mx_lay o).1 = ci + 3) (ha : (st.take b).reverse = .ref o :: as) (hr : st.drop b = rest) (hall : (st.take b).all mx_c1 = true) (hb : b ≤ st.length ∧ b ≤ M2.2.2.2.1 ∧ y < 1000) (hcat : mx_cat rest ≤ 8) (hc0 : M2.2.2.2.2.2.2.1.cells = 0) (hs0 : M2.2.2.2.2.2.2.1.slots = 0) (hcn : mx_Cn ci = M2.2.1.cls) (hkz : k ≤ M.2.2.2.2.2.2.1.cells ∧ z ≤ M.2.2.2.2.2.2.1.slots) (hc : mx_Ms M2 (.ref o :: as) h q2) (K : mx_Ev M sc (r, loc, q2.1.toList ++ rest, q2.2, k, z) q) : mx_Ev M sc ((pc, .invokevirtual idx, len, y, b, cc, lw) :: r, loc, st, h, k, z) q := by
  subst hT
  refine mx_Ev.call (y := y) (as := .ref o :: as) (c' := (r, loc, rest, h, k, z)) ?_ hc K
  unfold mx_step
  dsimp only
  unfold mx_step1
  dsimp only
  unfold mx_sVirt
  dsimp only
  rw [if_neg (by omega), if_neg (by omega)]
  unfold mx_call
  dsimp only
  rw [hc0, hs0, hr, ha]
  rw [if_pos ⟨hb.1, hall, hb.2.1, hcat, hkz.1, hkz.2⟩]
  dsimp only
  rw [if_pos ⟨hon.1, by omega, by rw [hon.2]; exact hcn⟩]
  rfl
theorem mx_e_cs {as : List Value} (hT : mx_tab y = M2) (ha : (st.take b).reverse = as) (hr : st.drop b = rest) (hall : (st.take b).all mx_c1 = true) (hb : b ≤ st.length ∧ b ≤ M2.2.2.2.1 ∧ y < 1000) (hcat : mx_cat rest ≤ 8) (hc0 : M2.2.2.2.2.2.2.1.cells = 0) (hs0 : M2.2.2.2.2.2.2.1.slots = 0) (hkz : k ≤ M.2.2.2.2.2.2.1.cells ∧ z ≤ M.2.2.2.2.2.2.1.slots) (hc : mx_Ms M2 as h q2) (K : mx_Ev M sc (r, loc, q2.1.toList ++ rest, q2.2, k, z) q) : mx_Ev M sc ((pc, .invokestatic idx, len, y, b, cc, lw) :: r, loc, st, h, k, z) q := by
  subst hT
  refine mx_Ev.call (y := y) (as := as) (c' := (r, loc, rest, h, k, z)) ?_ hc K
  unfold mx_step
  dsimp only
  unfold mx_step1
  dsimp only
  unfold mx_sStat
  dsimp only
  rw [if_neg (by omega)]
  unfold mx_call
  dsimp only
  rw [hc0, hs0, hr, ha]
  rw [if_pos ⟨hb.1, hall, hb.2.1, hcat, hkz.1, hkz.2⟩]
  rfl
end Calls
/-- a loop, by its fuel -/
def mx_fix {σ ρ : Type} (body : (σ → Option ρ) → σ → Option ρ) : Nat → σ → Option ρ
  | 0, _ => none
  | n + 1, s => body (mx_fix body n) s
