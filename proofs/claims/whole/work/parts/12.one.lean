/-! what a step leads to; the whole run -/
theorem mx_okI_of {M : mx_Mt} {i : mx_In} (h : mx_okI M i = true) (hne : i.2.1 ≠ .nop) : decode M.2.2.1 i.1 = .ok (i.2.1, i.2.2.1) ∧ mx_okO M i = true := by
  unfold mx_okI at h
  split at h
  · rename_i hi
    exact absurd hi hne
  · simp only [Bool.and_eq_true, decide_eq_true_eq] at h
    exact h
theorem mx_okL_of {M : mx_Mt} {i : mx_In} {r : List mx_In} (h : mx_okL M (i :: r) = true) : mx_okI M i = true ∧ (mx_trm i = false → mx_pc r = i.1 + i.2.2.1 ∧ mx_okL M r = true) := by
  unfold mx_okL at h
  simp only [Bool.and_eq_true, Bool.or_eq_true, decide_eq_true_eq] at h
  refine ⟨h.1, fun q => ?_⟩
  rcases h.2 with h2 | h2
  · rw [q] at h2
    cases h2
  · exact h2
/-- the text's two calls: how long it is, which letter -/
def mx_Jdk (l : Launch) (D : va_G) (B : Nat) (ρ : Nat → Nat) (cs : mx_Cs) : Prop :=
  ∀ {p : Program} {e : Env} {R : Room} {s : State} {m : MethodId} {args : Array Value} {below : List Frame} {meth : Method} {c : Code} {Q : State → Prop} {M : mx_Mt} {sc : mx_Sc} {i : mx_In} {r : List mx_In} {loc : mx_Lc} {st : List Value} {h : mx_Hp} {k z : Nat} {c' : mx_Cf} {n : Nat},
    mx_Cx p s m args meth c R D B ρ cs M sc → i.2.1 = .invokevirtual n → (i.2.2.2.1 = 1002 ∨ i.2.2.2.1 = 1003) → decode M.2.2.1 i.1 = .ok (i.2.1, i.2.2.1) → mx_okO M i = true → mx_pc r = i.1 + i.2.2.1 → mx_sVirt M i r loc st h k z = some (.inl c') → mx_Sim p l e R s m args below meth c Q D B ρ cs M c' → mx_Sim p l e R s m args below meth c Q D B ρ cs M (i :: r, loc, st, h, k, z)
section Sim
variable {p : Program} {l : Launch} {e : Env} {R : Room} {s : State} {m : MethodId} {args : Array Value} {below : List Frame} {meth : Method} {c : Code} {Q : State → Prop} {D : va_G} {B : Nat} {ρ : Nat → Nat} {cs : mx_Cs} {M : mx_Mt} {sc : mx_Sc}
variable {i : mx_In} {r : List mx_In} {loc : mx_Lc} {st : List Value} {h : mx_Hp} {k z : Nat} {c' : mx_Cf}
theorem mx_call_no {v : Bool} (hs : mx_call M i r loc st h k z v = some (.inl c')) : False := by
  unfold mx_call at hs
  split at hs
  · split at hs
    · split at hs <;> cases hs
    · cases hs
    · cases hs
  · cases hs
theorem mx_call_nor {v : Bool} {q : mx_Rs} (hs : mx_call M i r loc st h k z v = some (.inr (.inr q))) : False := by
  unfold mx_call at hs
  split at hs
  · split at hs
    · split at hs <;> cases hs
    · cases hs
    · cases hs
  · cases hs
theorem mx_next (ho : mx_okL M (i :: r) = true) (hB : mx_okB M = true) (hs : mx_step1 M sc i r loc st h k z = some (.inl c')) : mx_okL M c'.1 = true := by
  obtain ⟨hI, hT⟩ := mx_okL_of ho
  unfold mx_step1 at hs
  split at hs
  · rename_i hi
    cases mx_go_eq hs
    exact (hT (by unfold mx_trm; rw [hi])).2
  · rename_i hi
    cases mx_go_eq hs
    exact (hT (by unfold mx_trm; rw [hi])).2
  · rename_i hi
    cases mx_go_eq hs
    exact (hT (by unfold mx_trm; rw [hi])).2
  · rename_i hi
    cases mx_go_eq hs
    exact (hT (by unfold mx_trm; rw [hi])).2
  · rename_i hi
    cases mx_go_eq hs
    exact (hT (by unfold mx_trm; rw [hi])).2
  · rename_i hi
    cases mx_go_eq hs
    exact (hT (by unfold mx_trm; rw [hi])).2
  · rename_i hi
    cases mx_go_eq hs
    exact (hT (by unfold mx_trm; rw [hi])).2
  · rename_i hi
    have hn := (hT (by unfold mx_trm; rw [hi])).2
    unfold mx_sIload at hs
    repeat' split at hs
    all_goals first
      | (cases hs; done)
      | (cases mx_go_eq hs; exact hn)
  · rename_i hi
    have hn := (hT (by unfold mx_trm; rw [hi])).2
    unfold mx_sIload at hs
    repeat' split at hs
    all_goals first
      | (cases hs; done)
      | (cases mx_go_eq hs; exact hn)
  · rename_i hi
    have hn := (hT (by unfold mx_trm; rw [hi])).2
    unfold mx_sLload at hs
    repeat' split at hs
    all_goals first
      | (cases hs; done)
      | (cases mx_go_eq hs; exact hn)
  · rename_i hi
    have hn := (hT (by unfold mx_trm; rw [hi])).2
    unfold mx_sLload at hs
    repeat' split at hs
    all_goals first
      | (cases hs; done)
      | (cases mx_go_eq hs; exact hn)
  · rename_i hi
    have hn := (hT (by unfold mx_trm; rw [hi])).2
    unfold mx_sAload at hs
    repeat' split at hs
    all_goals first
      | (cases hs; done)
      | (cases mx_go_eq hs; exact hn)
  · rename_i hi
    have hn := (hT (by unfold mx_trm; rw [hi])).2
    unfold mx_sAload at hs
    repeat' split at hs
    all_goals first
      | (cases hs; done)
      | (cases mx_go_eq hs; exact hn)
  · rename_i hi
    have hn := (hT (by unfold mx_trm; rw [hi])).2
    unfold mx_sIstore at hs
    repeat' split at hs
    all_goals first
      | (cases hs; done)
      | (cases mx_go_eq hs; exact hn)
  · rename_i hi
    have hn := (hT (by unfold mx_trm; rw [hi])).2
    unfold mx_sIstore at hs
    repeat' split at hs
    all_goals first
      | (cases hs; done)
      | (cases mx_go_eq hs; exact hn)
  · rename_i hi
    have hn := (hT (by unfold mx_trm; rw [hi])).2
    unfold mx_sAstore at hs
    repeat' split at hs
    all_goals first
      | (cases hs; done)
      | (cases mx_go_eq hs; exact hn)
  · rename_i hi
    have hn := (hT (by unfold mx_trm; rw [hi])).2
    unfold mx_sAstore at hs
    repeat' split at hs
    all_goals first
      | (cases hs; done)
      | (cases mx_go_eq hs; exact hn)
  · rename_i hi
    have hn := (hT (by unfold mx_trm; rw [hi])).2
    unfold mx_sLstore at hs
    repeat' split at hs
    all_goals first
      | (cases hs; done)
      | (cases mx_go_eq hs; exact hn)
  · rename_i hi
    have hn := (hT (by unfold mx_trm; rw [hi])).2
    unfold mx_sLstore at hs
    repeat' split at hs
    all_goals first
      | (cases hs; done)
      | (cases mx_go_eq hs; exact hn)
  · rename_i hi
    have hn := (hT (by unfold mx_trm; rw [hi])).2
    unfold mx_sIinc at hs
    repeat' split at hs
    all_goals first
      | (cases hs; done)
      | (cases mx_go_eq hs; exact hn)
  · rename_i hi
    have hn := (hT (by unfold mx_trm; rw [hi])).2
    unfold mx_sB at hs
    repeat' split at hs
    all_goals first
      | (cases hs; done)
      | (cases mx_go_eq hs; exact hn)
  · rename_i hi
    have hn := (hT (by unfold mx_trm; rw [hi])).2
    unfold mx_sB at hs
    repeat' split at hs
    all_goals first
      | (cases hs; done)
      | (cases mx_go_eq hs; exact hn)
  · rename_i hi
    have hn := (hT (by unfold mx_trm; rw [hi])).2
    unfold mx_sB at hs
    repeat' split at hs
    all_goals first
      | (cases hs; done)
      | (cases mx_go_eq hs; exact hn)
  · rename_i hi
    have hn := (hT (by unfold mx_trm; rw [hi])).2
    unfold mx_sB at hs
    repeat' split at hs
    all_goals first
      | (cases hs; done)
      | (cases mx_go_eq hs; exact hn)
  · rename_i hi
    have hn := (hT (by unfold mx_trm; rw [hi])).2
    unfold mx_sB at hs
    repeat' split at hs
    all_goals first
      | (cases hs; done)
      | (cases mx_go_eq hs; exact hn)
  · rename_i hi
    have hn := (hT (by unfold mx_trm; rw [hi])).2
    unfold mx_sB at hs
    repeat' split at hs
    all_goals first
      | (cases hs; done)
      | (cases mx_go_eq hs; exact hn)
  · rename_i hi
    have hn := (hT (by unfold mx_trm; rw [hi])).2
    unfold mx_sB at hs
    repeat' split at hs
    all_goals first
      | (cases hs; done)
      | (cases mx_go_eq hs; exact hn)
  · rename_i hi
    have hn := (hT (by unfold mx_trm; rw [hi])).2
    unfold mx_sB at hs
    repeat' split at hs
    all_goals first
      | (cases hs; done)
      | (cases mx_go_eq hs; exact hn)
  · rename_i hi
    have hn := (hT (by unfold mx_trm; rw [hi])).2
    unfold mx_sBd at hs
    repeat' split at hs
    all_goals first
      | (cases hs; done)
      | (cases mx_go_eq hs; exact hn)
  · rename_i hi
    have hn := (hT (by unfold mx_trm; rw [hi])).2
    unfold mx_sBd at hs
    repeat' split at hs
    all_goals first
      | (cases hs; done)
      | (cases mx_go_eq hs; exact hn)
  · rename_i hi
    have hn := (hT (by unfold mx_trm; rw [hi])).2
    unfold mx_sL at hs
    repeat' split at hs
    all_goals first
      | (cases hs; done)
      | (cases mx_go_eq hs; exact hn)
  · rename_i hi
    have hn := (hT (by unfold mx_trm; rw [hi])).2
    unfold mx_sL at hs
    repeat' split at hs
    all_goals first
      | (cases hs; done)
      | (cases mx_go_eq hs; exact hn)
  · rename_i hi
    have hn := (hT (by unfold mx_trm; rw [hi])).2
    unfold mx_sLd at hs
    repeat' split at hs
    all_goals first
      | (cases hs; done)
      | (cases mx_go_eq hs; exact hn)
  · rename_i hi
    have hn := (hT (by unfold mx_trm; rw [hi])).2
    unfold mx_sLd at hs
    repeat' split at hs
    all_goals first
      | (cases hs; done)
      | (cases mx_go_eq hs; exact hn)
  · rename_i hi
    have hn := (hT (by unfold mx_trm; rw [hi])).2
    unfold mx_sI2l at hs
    repeat' split at hs
    all_goals first
      | (cases hs; done)
      | (cases mx_go_eq hs; exact hn)
  · rename_i hi
    have hn := (hT (by unfold mx_trm; rw [hi])).2
    unfold mx_sL2i at hs
    repeat' split at hs
    all_goals first
      | (cases hs; done)
      | (cases mx_go_eq hs; exact hn)
  · rename_i hi
    have hn := (hT (by unfold mx_trm; rw [hi])).2
    have hok := (mx_okI_of hI (by rw [hi]; exact fun q => by cases q)).2
    unfold mx_okO mx_okJ at hok
    rw [hi] at hok
    simp only [Bool.and_eq_true, decide_eq_true_eq] at hok
    unfold mx_sIcmp at hs
    repeat' split at hs
    all_goals first
      | (cases hs; done)
      | (cases mx_go_eq hs; exact hn)
      | (cases mx_jp_eq hs; exact (mx_tgt hB hok.2.2).1)
  · rename_i hi
    have hn := (hT (by unfold mx_trm; rw [hi])).2
    have hok := (mx_okI_of hI (by rw [hi]; exact fun q => by cases q)).2
    unfold mx_okO mx_okJ at hok
    rw [hi] at hok
    simp only [Bool.and_eq_true, decide_eq_true_eq] at hok
    unfold mx_sIf at hs
    repeat' split at hs
    all_goals first
      | (cases hs; done)
      | (cases mx_go_eq hs; exact hn)
      | (cases mx_jp_eq hs; exact (mx_tgt hB hok.2.2).1)
  · rename_i hi
    have hok := (mx_okI_of hI (by rw [hi]; exact fun q => by cases q)).2
    unfold mx_okO mx_okJ at hok
    rw [hi] at hok
    simp only [Bool.and_eq_true, decide_eq_true_eq] at hok
    cases mx_jp_eq hs
    exact (mx_tgt hB hok.2.2).1
  · rename_i hi
    unfold mx_okI at hI
    rw [hi] at hI
    simp only [Bool.and_eq_true, decide_eq_true_eq] at hI
    cases mx_jp_eq hs
    exact (mx_tgt hB hI.2).1
  · rename_i hi
    have hok := (mx_okI_of hI (by rw [hi]; exact fun q => by cases q)).2
    unfold mx_okO mx_okJ at hok
    rw [hi] at hok
    simp only [Bool.and_eq_true, decide_eq_true_eq] at hok
    unfold mx_sSw at hs
    split at hs
    · cases mx_jp_eq hs
      exact (mx_tgt hB (mx_sw_tg hok.2 hok.1.1.1.2)).1
    · cases hs
  · rename_i hi
    have hok := (mx_okI_of hI (by rw [hi]; exact fun q => by cases q)).2
    unfold mx_okO mx_okJ at hok
    rw [hi] at hok
    simp only [Bool.and_eq_true, decide_eq_true_eq] at hok
    unfold mx_sSw at hs
    split at hs
    · cases mx_jp_eq hs
      exact (mx_tgt hB (mx_sw_tg hok.2 hok.1.1.1.2)).1
    · cases hs
  · rename_i hi
    have hn := (hT (by unfold mx_trm; rw [hi])).2
    have hok := (mx_okI_of hI (by rw [hi]; exact fun q => by cases q)).2
    unfold mx_okO mx_okJ at hok
    rw [hi] at hok
    simp only [Bool.and_eq_true, decide_eq_true_eq] at hok
    unfold mx_sIfnull at hs
    repeat' split at hs
    all_goals first
      | (cases hs; done)
      | (cases mx_go_eq hs; exact hn)
      | (cases mx_jp_eq hs; exact (mx_tgt hB hok.2.2).1)
  · rename_i hi
    have hn := (hT (by unfold mx_trm; rw [hi])).2
    have hok := (mx_okI_of hI (by rw [hi]; exact fun q => by cases q)).2
    unfold mx_okO mx_okJ at hok
    rw [hi] at hok
    simp only [Bool.and_eq_true, decide_eq_true_eq] at hok
    unfold mx_sIfnn at hs
    repeat' split at hs
    all_goals first
      | (cases hs; done)
      | (cases mx_go_eq hs; exact hn)
      | (cases mx_jp_eq hs; exact (mx_tgt hB hok.2.2).1)
  · rename_i hi
    have hn := (hT (by unfold mx_trm; rw [hi])).2
    unfold mx_sDup at hs
    repeat' split at hs
    all_goals first
      | (cases hs; done)
      | (cases mx_go_eq hs; exact hn)
  · rename_i hi
    have hn := (hT (by unfold mx_trm; rw [hi])).2
    unfold mx_sDup2 at hs
    repeat' split at hs
    all_goals first
      | (cases hs; done)
      | (cases mx_go_eq hs; exact hn)
  · rename_i hi
    have hn := (hT (by unfold mx_trm; rw [hi])).2
    unfold mx_sPop at hs
    repeat' split at hs
    all_goals first
      | (cases hs; done)
      | (cases mx_go_eq hs; exact hn)
  · rename_i hi
    have hn := (hT (by unfold mx_trm; rw [hi])).2
    unfold mx_sGet at hs
    repeat' split at hs
    all_goals first
      | (cases hs; done)
      | (cases mx_go_eq hs; exact hn)
  · rename_i hi
    have hn := (hT (by unfold mx_trm; rw [hi])).2
    unfold mx_sPut at hs
    repeat' split at hs
    all_goals first
      | (cases hs; done)
      | (cases mx_go_eq hs; exact hn)
  · rename_i hi
    have hn := (hT (by unfold mx_trm; rw [hi])).2
    unfold mx_sIald at hs
    repeat' split at hs
    all_goals first
      | (cases hs; done)
      | (cases mx_go_eq hs; exact hn)
  · rename_i hi
    have hn := (hT (by unfold mx_trm; rw [hi])).2
    unfold mx_sIast at hs
    repeat' split at hs
    all_goals first
      | (cases hs; done)
      | (cases mx_go_eq hs; exact hn)
  · rename_i hi
    have hn := (hT (by unfold mx_trm; rw [hi])).2
    unfold mx_sAald at hs
    repeat' split at hs
    all_goals first
      | (cases hs; done)
      | (cases mx_go_eq hs; exact hn)
  · rename_i hi
    have hn := (hT (by unfold mx_trm; rw [hi])).2
    unfold mx_sAast at hs
    repeat' split at hs
    all_goals first
      | (cases hs; done)
      | (cases mx_go_eq hs; exact hn)
  · rename_i hi
    have hn := (hT (by unfold mx_trm; rw [hi])).2
    unfold mx_sAlen at hs
    repeat' split at hs
    all_goals first
      | (cases hs; done)
      | (cases mx_go_eq hs; exact hn)
  · rename_i hi
    have hn := (hT (by unfold mx_trm; rw [hi])).2
    unfold mx_sNew at hs
    repeat' split at hs
    all_goals first
      | (cases hs; done)
      | (cases mx_go_eq hs; exact hn)
  · rename_i hi
    have hn := (hT (by unfold mx_trm; rw [hi])).2
    unfold mx_sNewa at hs
    repeat' split at hs
    all_goals first
      | (cases hs; done)
      | (cases mx_go_eq hs; exact hn)
  · rename_i hi
    have hn := (hT (by unfold mx_trm; rw [hi])).2
    unfold mx_sNewq at hs
    repeat' split at hs
    all_goals first
      | (cases hs; done)
      | (cases mx_go_eq hs; exact hn)
  · rename_i hi
    have hn := (hT (by unfold mx_trm; rw [hi])).2
    unfold mx_sMna at hs
    repeat' split at hs
    all_goals first
      | (cases hs; done)
      | (cases mx_go_eq hs; exact hn)
  · rename_i hi
    have hn := (hT (by unfold mx_trm; rw [hi])).2
    unfold mx_sVirt at hs
    repeat' split at hs
    all_goals first
      | exact (mx_call_no hs).elim
      | (cases hs; done)
      | (cases mx_go_eq hs; exact hn)
  · rename_i hi
    have hn := (hT (by unfold mx_trm; rw [hi])).2
    unfold mx_sSpec at hs
    repeat' split at hs
    all_goals first
      | exact (mx_call_no hs).elim
      | (cases hs; done)
      | (cases mx_go_eq hs; exact hn)
  · rename_i hi
    have hn := (hT (by unfold mx_trm; rw [hi])).2
    unfold mx_sStat at hs
    repeat' split at hs
    all_goals first
      | exact (mx_call_no hs).elim
      | (cases hs; done)
      | (cases mx_go_eq hs; exact hn)
  · unfold mx_sIret mx_ret at hs
    repeat' split at hs
    all_goals cases hs
  · unfold mx_sAret mx_ret at hs
    repeat' split at hs
    all_goals cases hs
  · unfold mx_sVret mx_ret at hs
    repeat' split at hs
    all_goals cases hs
  · cases hs
theorem mx_one (J : mx_Jdk l D B ρ cs) (C : mx_Cx p s m args meth c R D B ρ cs M sc) (ho : mx_okL M (i :: r) = true) (hB : mx_okB M = true) (hs : mx_step1 M sc i r loc st h k z = some (.inl c')) (K : mx_Sim p l e R s m args below meth c Q D B ρ cs M c') : mx_Sim p l e R s m args below meth c Q D B ρ cs M (i :: r, loc, st, h, k, z) := by
  obtain ⟨hI, hT⟩ := mx_okL_of ho
  unfold mx_step1 at hs
  split at hs
  · rename_i hi
    have hn := (hT (by unfold mx_trm; rw [hi])).1
    have hok := mx_okI_of hI (by rw [hi]; exact fun q => by cases q)
    exact mx_s_iconst C hi hok.1 hok.2 hn hs K
  · rename_i hi
    have hn := (hT (by unfold mx_trm; rw [hi])).1
    have hok := mx_okI_of hI (by rw [hi]; exact fun q => by cases q)
    exact mx_s_bipush C hi hok.1 hok.2 hn hs K
  · rename_i hi
    have hn := (hT (by unfold mx_trm; rw [hi])).1
    have hok := mx_okI_of hI (by rw [hi]; exact fun q => by cases q)
    exact mx_s_sipush C hi hok.1 hok.2 hn hs K
  · rename_i hi
    have hn := (hT (by unfold mx_trm; rw [hi])).1
    have hok := mx_okI_of hI (by rw [hi]; exact fun q => by cases q)
    exact mx_s_lconst C hi hok.1 hok.2 hn hs K
  · rename_i hi
    have hn := (hT (by unfold mx_trm; rw [hi])).1
    have hok := mx_okI_of hI (by rw [hi]; exact fun q => by cases q)
    exact mx_s_ldc2 C hi hok.1 hok.2 hn hs K
  · rename_i hi
    have hn := (hT (by unfold mx_trm; rw [hi])).1
    have hok := mx_okI_of hI (by rw [hi]; exact fun q => by cases q)
    exact mx_s_null C hi hok.1 hok.2 hn hs K
  · rename_i hi
    have hn := (hT (by unfold mx_trm; rw [hi])).1
    have hok := mx_okI_of hI (by rw [hi]; exact fun q => by cases q)
    exact mx_s_ldc C hi hok.1 hok.2 hn hs K
  · rename_i hi
    have hn := (hT (by unfold mx_trm; rw [hi])).1
    have hok := mx_okI_of hI (by rw [hi]; exact fun q => by cases q)
    exact mx_s_iload_n C hi hok.1 hok.2 hn hs K
  · rename_i hi
    have hn := (hT (by unfold mx_trm; rw [hi])).1
    have hok := mx_okI_of hI (by rw [hi]; exact fun q => by cases q)
    exact mx_s_iload C hi hok.1 hok.2 hn hs K
  · rename_i hi
    have hn := (hT (by unfold mx_trm; rw [hi])).1
    have hok := mx_okI_of hI (by rw [hi]; exact fun q => by cases q)
    exact mx_s_lload_n C hi hok.1 hok.2 hn hs K
  · rename_i hi
    have hn := (hT (by unfold mx_trm; rw [hi])).1
    have hok := mx_okI_of hI (by rw [hi]; exact fun q => by cases q)
    exact mx_s_lload C hi hok.1 hok.2 hn hs K
  · rename_i hi
    have hn := (hT (by unfold mx_trm; rw [hi])).1
    have hok := mx_okI_of hI (by rw [hi]; exact fun q => by cases q)
    exact mx_s_aload_n C hi hok.1 hok.2 hn hs K
  · rename_i hi
    have hn := (hT (by unfold mx_trm; rw [hi])).1
    have hok := mx_okI_of hI (by rw [hi]; exact fun q => by cases q)
    exact mx_s_aload C hi hok.1 hok.2 hn hs K
  · rename_i hi
    have hn := (hT (by unfold mx_trm; rw [hi])).1
    have hok := mx_okI_of hI (by rw [hi]; exact fun q => by cases q)
    exact mx_s_istore_n C hi hok.1 hok.2 hn hs K
  · rename_i hi
    have hn := (hT (by unfold mx_trm; rw [hi])).1
    have hok := mx_okI_of hI (by rw [hi]; exact fun q => by cases q)
    exact mx_s_istore C hi hok.1 hok.2 hn hs K
  · rename_i hi
    have hn := (hT (by unfold mx_trm; rw [hi])).1
    have hok := mx_okI_of hI (by rw [hi]; exact fun q => by cases q)
    exact mx_s_astore_n C hi hok.1 hok.2 hn hs K
  · rename_i hi
    have hn := (hT (by unfold mx_trm; rw [hi])).1
    have hok := mx_okI_of hI (by rw [hi]; exact fun q => by cases q)
    exact mx_s_astore C hi hok.1 hok.2 hn hs K
  · rename_i hi
    have hn := (hT (by unfold mx_trm; rw [hi])).1
    have hok := mx_okI_of hI (by rw [hi]; exact fun q => by cases q)
    exact mx_s_lstore_n C hi hok.1 hok.2 hn hs K
  · rename_i hi
    have hn := (hT (by unfold mx_trm; rw [hi])).1
    have hok := mx_okI_of hI (by rw [hi]; exact fun q => by cases q)
    exact mx_s_lstore C hi hok.1 hok.2 hn hs K
  · rename_i hi
    have hn := (hT (by unfold mx_trm; rw [hi])).1
    have hok := mx_okI_of hI (by rw [hi]; exact fun q => by cases q)
    exact mx_s_iinc C hi hok.1 hok.2 hn hs K
  · rename_i hi
    have hn := (hT (by unfold mx_trm; rw [hi])).1
    have hok := mx_okI_of hI (by rw [hi]; exact fun q => by cases q)
    exact mx_s_iadd C hi hok.1 hok.2 hn hs K
  · rename_i hi
    have hn := (hT (by unfold mx_trm; rw [hi])).1
    have hok := mx_okI_of hI (by rw [hi]; exact fun q => by cases q)
    exact mx_s_isub C hi hok.1 hok.2 hn hs K
  · rename_i hi
    have hn := (hT (by unfold mx_trm; rw [hi])).1
    have hok := mx_okI_of hI (by rw [hi]; exact fun q => by cases q)
    exact mx_s_imul C hi hok.1 hok.2 hn hs K
  · rename_i hi
    have hn := (hT (by unfold mx_trm; rw [hi])).1
    have hok := mx_okI_of hI (by rw [hi]; exact fun q => by cases q)
    exact mx_s_iand C hi hok.1 hok.2 hn hs K
  · rename_i hi
    have hn := (hT (by unfold mx_trm; rw [hi])).1
    have hok := mx_okI_of hI (by rw [hi]; exact fun q => by cases q)
    exact mx_s_ior C hi hok.1 hok.2 hn hs K
  · rename_i hi
    have hn := (hT (by unfold mx_trm; rw [hi])).1
    have hok := mx_okI_of hI (by rw [hi]; exact fun q => by cases q)
    exact mx_s_ixor C hi hok.1 hok.2 hn hs K
  · rename_i hi
    have hn := (hT (by unfold mx_trm; rw [hi])).1
    have hok := mx_okI_of hI (by rw [hi]; exact fun q => by cases q)
    exact mx_s_ishl C hi hok.1 hok.2 hn hs K
  · rename_i hi
    have hn := (hT (by unfold mx_trm; rw [hi])).1
    have hok := mx_okI_of hI (by rw [hi]; exact fun q => by cases q)
    exact mx_s_ishr C hi hok.1 hok.2 hn hs K
  · rename_i hi
    have hn := (hT (by unfold mx_trm; rw [hi])).1
    have hok := mx_okI_of hI (by rw [hi]; exact fun q => by cases q)
    exact mx_s_idiv C hi hok.1 hok.2 hn hs K
  · rename_i hi
    have hn := (hT (by unfold mx_trm; rw [hi])).1
    have hok := mx_okI_of hI (by rw [hi]; exact fun q => by cases q)
    exact mx_s_irem C hi hok.1 hok.2 hn hs K
  · rename_i hi
    have hn := (hT (by unfold mx_trm; rw [hi])).1
    have hok := mx_okI_of hI (by rw [hi]; exact fun q => by cases q)
    exact mx_s_ladd C hi hok.1 hok.2 hn hs K
  · rename_i hi
    have hn := (hT (by unfold mx_trm; rw [hi])).1
    have hok := mx_okI_of hI (by rw [hi]; exact fun q => by cases q)
    exact mx_s_lmul C hi hok.1 hok.2 hn hs K
  · rename_i hi
    have hn := (hT (by unfold mx_trm; rw [hi])).1
    have hok := mx_okI_of hI (by rw [hi]; exact fun q => by cases q)
    exact mx_s_ldiv C hi hok.1 hok.2 hn hs K
  · rename_i hi
    have hn := (hT (by unfold mx_trm; rw [hi])).1
    have hok := mx_okI_of hI (by rw [hi]; exact fun q => by cases q)
    exact mx_s_lrem C hi hok.1 hok.2 hn hs K
  · rename_i hi
    have hn := (hT (by unfold mx_trm; rw [hi])).1
    have hok := mx_okI_of hI (by rw [hi]; exact fun q => by cases q)
    exact mx_s_i2l C hi hok.1 hok.2 hn hs K
  · rename_i hi
    have hn := (hT (by unfold mx_trm; rw [hi])).1
    have hok := mx_okI_of hI (by rw [hi]; exact fun q => by cases q)
    exact mx_s_l2i C hi hok.1 hok.2 hn hs K
  · rename_i hi
    have hn := (hT (by unfold mx_trm; rw [hi])).1
    have hok := mx_okI_of hI (by rw [hi]; exact fun q => by cases q)
    exact mx_s_icmp C hB hi hok.1 hok.2 hn hs K
  · rename_i hi
    have hn := (hT (by unfold mx_trm; rw [hi])).1
    have hok := mx_okI_of hI (by rw [hi]; exact fun q => by cases q)
    exact mx_s_ifc C hB hi hok.1 hok.2 hn hs K
  · rename_i hi
    have hok := mx_okI_of hI (by rw [hi]; exact fun q => by cases q)
    exact mx_s_goto C hB hi hok.1 hok.2 hs K
  · rename_i hi
    unfold mx_okI at hI
    rw [hi] at hI
    simp only [Bool.and_eq_true, decide_eq_true_eq] at hI
    cases mx_jp_eq hs
    refine fun H locs ls hR hS hL => ?_
    have hw := mx_jx hB hI.2 K hR hS hL
    rw [← hI.1.2] at hw
    exact hw
  · rename_i hi
    have hok := mx_okI_of hI (by rw [hi]; exact fun q => by cases q)
    exact mx_s_table C hB hi hok.1 hok.2 hs K
  · rename_i hi
    have hok := mx_okI_of hI (by rw [hi]; exact fun q => by cases q)
    exact mx_s_lookup C hB hi hok.1 hok.2 hs K
  · rename_i hi
    have hn := (hT (by unfold mx_trm; rw [hi])).1
    have hok := mx_okI_of hI (by rw [hi]; exact fun q => by cases q)
    exact mx_s_ifnull C hB hi hok.1 hok.2 hn hs K
  · rename_i hi
    have hn := (hT (by unfold mx_trm; rw [hi])).1
    have hok := mx_okI_of hI (by rw [hi]; exact fun q => by cases q)
    exact mx_s_ifnonnull C hB hi hok.1 hok.2 hn hs K
  · rename_i hi
    have hn := (hT (by unfold mx_trm; rw [hi])).1
    have hok := mx_okI_of hI (by rw [hi]; exact fun q => by cases q)
    exact mx_s_dup C hi hok.1 hok.2 hn hs K
  · rename_i hi
    have hn := (hT (by unfold mx_trm; rw [hi])).1
    have hok := mx_okI_of hI (by rw [hi]; exact fun q => by cases q)
    exact mx_s_dup2 C hi hok.1 hok.2 hn hs K
  · rename_i hi
    have hn := (hT (by unfold mx_trm; rw [hi])).1
    have hok := mx_okI_of hI (by rw [hi]; exact fun q => by cases q)
    exact mx_s_pop C hi hok.1 hok.2 hn hs K
  · rename_i hi
    have hn := (hT (by unfold mx_trm; rw [hi])).1
    have hok := mx_okI_of hI (by rw [hi]; exact fun q => by cases q)
    exact mx_s_get C hi hok.1 hok.2 hn hs K
  · rename_i hi
    have hn := (hT (by unfold mx_trm; rw [hi])).1
    have hok := mx_okI_of hI (by rw [hi]; exact fun q => by cases q)
    exact mx_s_put C hi hok.1 hok.2 hn hs K
  · rename_i hi
    have hn := (hT (by unfold mx_trm; rw [hi])).1
    have hok := mx_okI_of hI (by rw [hi]; exact fun q => by cases q)
    exact mx_s_iald C hi hok.1 hok.2 hn hs K
  · rename_i hi
    have hn := (hT (by unfold mx_trm; rw [hi])).1
    have hok := mx_okI_of hI (by rw [hi]; exact fun q => by cases q)
    exact mx_s_iast C hi hok.1 hok.2 hn hs K
  · rename_i hi
    have hn := (hT (by unfold mx_trm; rw [hi])).1
    have hok := mx_okI_of hI (by rw [hi]; exact fun q => by cases q)
    exact mx_s_aald C hi hok.1 hok.2 hn hs K
  · rename_i hi
    have hn := (hT (by unfold mx_trm; rw [hi])).1
    have hok := mx_okI_of hI (by rw [hi]; exact fun q => by cases q)
    exact mx_s_aast C hi hok.1 hok.2 hn hs K
  · rename_i hi
    have hn := (hT (by unfold mx_trm; rw [hi])).1
    have hok := mx_okI_of hI (by rw [hi]; exact fun q => by cases q)
    exact mx_s_alen C hi hok.1 hok.2 hn hs K
  · rename_i hi
    have hn := (hT (by unfold mx_trm; rw [hi])).1
    have hok := mx_okI_of hI (by rw [hi]; exact fun q => by cases q)
    exact mx_s_new C hi hok.1 hok.2 hn hs K
  · rename_i hi
    have hn := (hT (by unfold mx_trm; rw [hi])).1
    have hok := mx_okI_of hI (by rw [hi]; exact fun q => by cases q)
    exact mx_s_newa C hi hok.1 hok.2 hn hs K
  · rename_i hi
    have hn := (hT (by unfold mx_trm; rw [hi])).1
    have hok := mx_okI_of hI (by rw [hi]; exact fun q => by cases q)
    exact mx_s_newq C hi hok.1 hok.2 hn hs K
  · rename_i hi
    have hn := (hT (by unfold mx_trm; rw [hi])).1
    have hok := mx_okI_of hI (by rw [hi]; exact fun q => by cases q)
    exact mx_s_mna C hi hok.1 hok.2 hn hs K
  · rename_i hi
    have hn := (hT (by unfold mx_trm; rw [hi])).1
    have hok := mx_okI_of hI (by rw [hi]; exact fun q => by cases q)
    by_cases hk : i.2.2.2.1 = 1002 ∨ i.2.2.2.1 = 1003
    · exact J C hi hk hok.1 hok.2 hn hs K
    · unfold mx_sVirt at hs
      rw [if_neg (fun q => hk (Or.inl q)), if_neg (fun q => hk (Or.inr q))] at hs
      exact (mx_call_no hs).elim
  · rename_i hi
    have hn := (hT (by unfold mx_trm; rw [hi])).1
    have hok := mx_okI_of hI (by rw [hi]; exact fun q => by cases q)
    by_cases hk : i.2.2.2.1 = 1000
    · exact mx_s_oinit C hi hk hok.1 hok.2 hn hs K
    · unfold mx_sSpec at hs
      rw [if_neg hk] at hs
      exact (mx_call_no hs).elim
  · rename_i hi
    have hn := (hT (by unfold mx_trm; rw [hi])).1
    have hok := mx_okI_of hI (by rw [hi]; exact fun q => by cases q)
    by_cases hk : i.2.2.2.1 = 1001
    · exact mx_s_mmax C hi hk hok.1 hok.2 hn hs K
    · unfold mx_sStat at hs
      rw [if_neg hk] at hs
      exact (mx_call_no hs).elim
  · unfold mx_sIret mx_ret at hs
    repeat' split at hs
    all_goals cases hs
  · unfold mx_sAret mx_ret at hs
    repeat' split at hs
    all_goals cases hs
  · unfold mx_sVret mx_ret at hs
    repeat' split at hs
    all_goals cases hs
  · cases hs
end Sim
