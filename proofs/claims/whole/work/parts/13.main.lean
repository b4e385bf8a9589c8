/-! the whole run of a method, by its fuel -/
section Sim
variable {p : Program} {l : Launch} {e : Env} {R : Room} {s : State} {m : MethodId} {args : Array Value} {below : List Frame} {meth : Method} {c : Code} {Q : State → Prop} {D : va_G} {B : Nat} {ρ : Nat → Nat} {cs : mx_Cs} {M : mx_Mt} {sc : mx_Sc}
variable {i : mx_In} {r : List mx_In} {loc : mx_Lc} {st : List Value} {h : mx_Hp} {k z : Nat} {c' : mx_Cf}
theorem mx_cone (hok : ∀ y, y < mx_law → mx_okM (mx_tab y) = true ∧ mx_okW (mx_tab y) = true) (C : mx_Cx p s m args meth c R D B ρ cs M sc) (ho : mx_okL M (i :: r) = true) {y : Nat} {as : List Value} (hs : mx_step1 M sc i r loc st h k z = some (.inr (.inl (y, as, c')))) {q : mx_Rs} (hM : mx_Met l D B ρ cs (mx_tab y) as c'.2.2.2.1 q) (K : mx_Sim p l e R s m args below meth c Q D B ρ cs M (mx_beh c' q)) : mx_Sim p l e R s m args below meth c Q D B ρ cs M (i :: r, loc, st, h, k, z) := by
  obtain ⟨hI, hT⟩ := mx_okL_of ho
  have hcls : ∀ y, y < mx_law → (mx_tab y).2.1.cls ≠ "" := by
    intro y hy
    have h1 := (hok y hy).1
    unfold mx_okM at h1
    simp only [Bool.and_eq_true, decide_eq_true_eq] at h1
    exact h1.2
  unfold mx_step1 at hs
  split at hs
  · cases hs
  · cases hs
  · cases hs
  · cases hs
  · cases hs
  · cases hs
  · cases hs
  · unfold mx_sIload at hs
    repeat' split at hs
    all_goals cases hs
  · unfold mx_sIload at hs
    repeat' split at hs
    all_goals cases hs
  · unfold mx_sLload at hs
    repeat' split at hs
    all_goals cases hs
  · unfold mx_sLload at hs
    repeat' split at hs
    all_goals cases hs
  · unfold mx_sAload at hs
    repeat' split at hs
    all_goals cases hs
  · unfold mx_sAload at hs
    repeat' split at hs
    all_goals cases hs
  · unfold mx_sIstore at hs
    repeat' split at hs
    all_goals cases hs
  · unfold mx_sIstore at hs
    repeat' split at hs
    all_goals cases hs
  · unfold mx_sAstore at hs
    repeat' split at hs
    all_goals cases hs
  · unfold mx_sAstore at hs
    repeat' split at hs
    all_goals cases hs
  · unfold mx_sLstore at hs
    repeat' split at hs
    all_goals cases hs
  · unfold mx_sLstore at hs
    repeat' split at hs
    all_goals cases hs
  · unfold mx_sIinc at hs
    repeat' split at hs
    all_goals cases hs
  · unfold mx_sB at hs
    repeat' split at hs
    all_goals cases hs
  · unfold mx_sB at hs
    repeat' split at hs
    all_goals cases hs
  · unfold mx_sB at hs
    repeat' split at hs
    all_goals cases hs
  · unfold mx_sB at hs
    repeat' split at hs
    all_goals cases hs
  · unfold mx_sB at hs
    repeat' split at hs
    all_goals cases hs
  · unfold mx_sB at hs
    repeat' split at hs
    all_goals cases hs
  · unfold mx_sB at hs
    repeat' split at hs
    all_goals cases hs
  · unfold mx_sB at hs
    repeat' split at hs
    all_goals cases hs
  · unfold mx_sBd at hs
    repeat' split at hs
    all_goals cases hs
  · unfold mx_sBd at hs
    repeat' split at hs
    all_goals cases hs
  · unfold mx_sL at hs
    repeat' split at hs
    all_goals cases hs
  · unfold mx_sL at hs
    repeat' split at hs
    all_goals cases hs
  · unfold mx_sLd at hs
    repeat' split at hs
    all_goals cases hs
  · unfold mx_sLd at hs
    repeat' split at hs
    all_goals cases hs
  · unfold mx_sI2l at hs
    repeat' split at hs
    all_goals cases hs
  · unfold mx_sL2i at hs
    repeat' split at hs
    all_goals cases hs
  · unfold mx_sIcmp at hs
    repeat' split at hs
    all_goals cases hs
  · unfold mx_sIf at hs
    repeat' split at hs
    all_goals cases hs
  · cases hs
  · cases hs
  · unfold mx_sSw at hs
    repeat' split at hs
    all_goals cases hs
  · unfold mx_sSw at hs
    repeat' split at hs
    all_goals cases hs
  · unfold mx_sIfnull at hs
    repeat' split at hs
    all_goals cases hs
  · unfold mx_sIfnn at hs
    repeat' split at hs
    all_goals cases hs
  · unfold mx_sDup at hs
    repeat' split at hs
    all_goals cases hs
  · unfold mx_sDup2 at hs
    repeat' split at hs
    all_goals cases hs
  · unfold mx_sPop at hs
    repeat' split at hs
    all_goals cases hs
  · unfold mx_sGet at hs
    repeat' split at hs
    all_goals cases hs
  · unfold mx_sPut at hs
    repeat' split at hs
    all_goals cases hs
  · unfold mx_sIald at hs
    repeat' split at hs
    all_goals cases hs
  · unfold mx_sIast at hs
    repeat' split at hs
    all_goals cases hs
  · unfold mx_sAald at hs
    repeat' split at hs
    all_goals cases hs
  · unfold mx_sAast at hs
    repeat' split at hs
    all_goals cases hs
  · unfold mx_sAlen at hs
    repeat' split at hs
    all_goals cases hs
  · unfold mx_sNew at hs
    repeat' split at hs
    all_goals cases hs
  · unfold mx_sNewa at hs
    repeat' split at hs
    all_goals cases hs
  · unfold mx_sNewq at hs
    repeat' split at hs
    all_goals cases hs
  · unfold mx_sMna at hs
    repeat' split at hs
    all_goals cases hs
  · rename_i hi
    have hn := (hT (by unfold mx_trm; rw [hi])).1
    have hok2 := mx_okI_of hI (by rw [hi]; exact fun q => by cases q)
    unfold mx_sVirt at hs
    split at hs
    · repeat' split at hs
      all_goals cases hs
    · rename_i hk1
      split at hs
      · repeat' split at hs
        all_goals cases hs
      · rename_i hk2
        obtain ⟨hd, ok⟩ := hok2
        unfold mx_okO at ok
        rw [hi] at ok hd
        simp only [Bool.and_eq_true, decide_eq_true_eq] at ok
        rw [if_neg (fun q => q.elim hk1 hk2)] at ok
        simp only [Bool.and_eq_true, decide_eq_true_eq] at ok
        rw [ok.1] at hd hn
        have hlt := (mx_okC_of ok.2.1).1
        exact mx_c_virt C hd ok.2.1 ok.2.2 hn (hcls _ hlt) (hok _ hlt).2 hs hM K
  · rename_i hi
    have hn := (hT (by unfold mx_trm; rw [hi])).1
    have hok2 := mx_okI_of hI (by rw [hi]; exact fun q => by cases q)
    unfold mx_sSpec at hs
    split at hs
    · repeat' split at hs
      all_goals cases hs
    · rename_i hk1
      obtain ⟨hd, ok⟩ := hok2
      unfold mx_okO at ok
      rw [hi] at ok hd
      simp only [Bool.and_eq_true, decide_eq_true_eq] at ok
      rw [if_neg hk1] at ok
      simp only [Bool.and_eq_true, decide_eq_true_eq] at ok
      rw [ok.1] at hd hn
      have hlt := (mx_okC_of ok.2.1).1
      exact mx_c_spec C hd ok.2.1 ok.2.2 hn (hcls _ hlt) (hok _ hlt).2 hs hM K
  · rename_i hi
    have hn := (hT (by unfold mx_trm; rw [hi])).1
    have hok2 := mx_okI_of hI (by rw [hi]; exact fun q => by cases q)
    unfold mx_sStat at hs
    split at hs
    · repeat' split at hs
      all_goals cases hs
    · rename_i hk1
      obtain ⟨hd, ok⟩ := hok2
      unfold mx_okO at ok
      rw [hi] at ok hd
      simp only [Bool.and_eq_true, decide_eq_true_eq] at ok
      rw [if_neg hk1] at ok
      rw [ok.1] at hd hn
      have hlt := (mx_okC_of ok.2).1
      exact mx_c_stat C hd ok.2 hn (hcls _ hlt) (hok _ hlt).2 hs hM K
  · unfold mx_sIret mx_ret at hs
    repeat' split at hs
    all_goals cases hs
  · unfold mx_sAret mx_ret at hs
    repeat' split at hs
    all_goals cases hs
  · unfold mx_sVret mx_ret at hs
    repeat' split at hs
    all_goals cases hs
  · cases hs
/-- which method a call names, and that its arguments fit -/
theorem mx_cfit (ho : mx_okL M (i :: r) = true) {y : Nat} {as : List Value} (hs : mx_step1 M sc i r loc st h k z = some (.inr (.inl (y, as, c')))) : y < mx_law ∧ as.all mx_c1 = true ∧ as.length ≤ (mx_tab y).2.2.2.1 ∧ mx_trm i = false ∧ c'.1 = r := by
  obtain ⟨hI, hT⟩ := mx_okL_of ho
  have key : ∀ v, mx_call M i r loc st h k z v = some (.inr (.inl (y, as, c'))) → i.2.2.2.1 < mx_law → y < mx_law ∧ as.all mx_c1 = true ∧ as.length ≤ (mx_tab y).2.2.2.1 ∧ c'.1 = r := by
    intro v hv hlt
    obtain ⟨rfl, rfl, rfl, b1, b2, b3, -⟩ := mx_call_of hv
    refine ⟨hlt, by rw [List.all_reverse]; exact b2, ?_, rfl⟩
    simp
    omega
  unfold mx_step1 at hs
  split at hs
  · cases hs
  · cases hs
  · cases hs
  · cases hs
  · cases hs
  · cases hs
  · cases hs
  · unfold mx_sIload at hs
    repeat' split at hs
    all_goals cases hs
  · unfold mx_sIload at hs
    repeat' split at hs
    all_goals cases hs
  · unfold mx_sLload at hs
    repeat' split at hs
    all_goals cases hs
  · unfold mx_sLload at hs
    repeat' split at hs
    all_goals cases hs
  · unfold mx_sAload at hs
    repeat' split at hs
    all_goals cases hs
  · unfold mx_sAload at hs
    repeat' split at hs
    all_goals cases hs
  · unfold mx_sIstore at hs
    repeat' split at hs
    all_goals cases hs
  · unfold mx_sIstore at hs
    repeat' split at hs
    all_goals cases hs
  · unfold mx_sAstore at hs
    repeat' split at hs
    all_goals cases hs
  · unfold mx_sAstore at hs
    repeat' split at hs
    all_goals cases hs
  · unfold mx_sLstore at hs
    repeat' split at hs
    all_goals cases hs
  · unfold mx_sLstore at hs
    repeat' split at hs
    all_goals cases hs
  · unfold mx_sIinc at hs
    repeat' split at hs
    all_goals cases hs
  · unfold mx_sB at hs
    repeat' split at hs
    all_goals cases hs
  · unfold mx_sB at hs
    repeat' split at hs
    all_goals cases hs
  · unfold mx_sB at hs
    repeat' split at hs
    all_goals cases hs
  · unfold mx_sB at hs
    repeat' split at hs
    all_goals cases hs
  · unfold mx_sB at hs
    repeat' split at hs
    all_goals cases hs
  · unfold mx_sB at hs
    repeat' split at hs
    all_goals cases hs
  · unfold mx_sB at hs
    repeat' split at hs
    all_goals cases hs
  · unfold mx_sB at hs
    repeat' split at hs
    all_goals cases hs
  · unfold mx_sBd at hs
    repeat' split at hs
    all_goals cases hs
  · unfold mx_sBd at hs
    repeat' split at hs
    all_goals cases hs
  · unfold mx_sL at hs
    repeat' split at hs
    all_goals cases hs
  · unfold mx_sL at hs
    repeat' split at hs
    all_goals cases hs
  · unfold mx_sLd at hs
    repeat' split at hs
    all_goals cases hs
  · unfold mx_sLd at hs
    repeat' split at hs
    all_goals cases hs
  · unfold mx_sI2l at hs
    repeat' split at hs
    all_goals cases hs
  · unfold mx_sL2i at hs
    repeat' split at hs
    all_goals cases hs
  · unfold mx_sIcmp at hs
    repeat' split at hs
    all_goals cases hs
  · unfold mx_sIf at hs
    repeat' split at hs
    all_goals cases hs
  · cases hs
  · cases hs
  · unfold mx_sSw at hs
    repeat' split at hs
    all_goals cases hs
  · unfold mx_sSw at hs
    repeat' split at hs
    all_goals cases hs
  · unfold mx_sIfnull at hs
    repeat' split at hs
    all_goals cases hs
  · unfold mx_sIfnn at hs
    repeat' split at hs
    all_goals cases hs
  · unfold mx_sDup at hs
    repeat' split at hs
    all_goals cases hs
  · unfold mx_sDup2 at hs
    repeat' split at hs
    all_goals cases hs
  · unfold mx_sPop at hs
    repeat' split at hs
    all_goals cases hs
  · unfold mx_sGet at hs
    repeat' split at hs
    all_goals cases hs
  · unfold mx_sPut at hs
    repeat' split at hs
    all_goals cases hs
  · unfold mx_sIald at hs
    repeat' split at hs
    all_goals cases hs
  · unfold mx_sIast at hs
    repeat' split at hs
    all_goals cases hs
  · unfold mx_sAald at hs
    repeat' split at hs
    all_goals cases hs
  · unfold mx_sAast at hs
    repeat' split at hs
    all_goals cases hs
  · unfold mx_sAlen at hs
    repeat' split at hs
    all_goals cases hs
  · unfold mx_sNew at hs
    repeat' split at hs
    all_goals cases hs
  · unfold mx_sNewa at hs
    repeat' split at hs
    all_goals cases hs
  · unfold mx_sNewq at hs
    repeat' split at hs
    all_goals cases hs
  · unfold mx_sMna at hs
    repeat' split at hs
    all_goals cases hs
  · rename_i hi
    have hok2 := mx_okI_of hI (by rw [hi]; exact fun q => by cases q)
    unfold mx_sVirt at hs
    split at hs
    · repeat' split at hs
      all_goals cases hs
    · rename_i hk1
      split at hs
      · repeat' split at hs
        all_goals cases hs
      · rename_i hk2
        obtain ⟨hd, ok⟩ := hok2
        unfold mx_okO at ok
        rw [hi] at ok
        simp only [Bool.and_eq_true, decide_eq_true_eq] at ok
        rw [if_neg (fun q => q.elim hk1 hk2)] at ok
        simp only [Bool.and_eq_true, decide_eq_true_eq] at ok
        have hlt := (mx_okC_of ok.2.1).1
        obtain ⟨a1, a2, a3, a4⟩ := key _ hs hlt
        exact ⟨a1, a2, a3, by unfold mx_trm; rw [hi], a4⟩
  · rename_i hi
    have hok2 := mx_okI_of hI (by rw [hi]; exact fun q => by cases q)
    unfold mx_sSpec at hs
    split at hs
    · repeat' split at hs
      all_goals cases hs
    · rename_i hk1
      obtain ⟨hd, ok⟩ := hok2
      unfold mx_okO at ok
      rw [hi] at ok
      simp only [Bool.and_eq_true, decide_eq_true_eq] at ok
      rw [if_neg hk1] at ok
      simp only [Bool.and_eq_true, decide_eq_true_eq] at ok
      have hlt := (mx_okC_of ok.2.1).1
      obtain ⟨a1, a2, a3, a4⟩ := key _ hs hlt
      exact ⟨a1, a2, a3, by unfold mx_trm; rw [hi], a4⟩
  · rename_i hi
    have hok2 := mx_okI_of hI (by rw [hi]; exact fun q => by cases q)
    unfold mx_sStat at hs
    split at hs
    · repeat' split at hs
      all_goals cases hs
    · rename_i hk1
      obtain ⟨hd, ok⟩ := hok2
      unfold mx_okO at ok
      rw [hi] at ok
      simp only [Bool.and_eq_true, decide_eq_true_eq] at ok
      rw [if_neg hk1] at ok
      have hlt := (mx_okC_of ok.2).1
      obtain ⟨a1, a2, a3, a4⟩ := key _ hs hlt
      exact ⟨a1, a2, a3, by unfold mx_trm; rw [hi], a4⟩
  · unfold mx_sIret mx_ret at hs
    repeat' split at hs
    all_goals cases hs
  · unfold mx_sAret mx_ret at hs
    repeat' split at hs
    all_goals cases hs
  · unfold mx_sVret mx_ret at hs
    repeat' split at hs
    all_goals cases hs
  · cases hs
/-- a return -/
theorem mx_rone (C : mx_Cx p s m args meth c R D B ρ cs M sc) (hr : meth.sig.returnType = M.2.2.2.2.1) (hlk : meth.locks = false) (hI : mx_okI M i = true) {q : mx_Rs} (hs : mx_step1 M sc i r loc st h k z = some (.inr (.inr q))) : mx_Sim p l e R s m args below meth c (MQ below (mx_Post D B ρ cs q) args s (mx_rm M).cells (mx_rm M).slots (mx_A B)) D B ρ cs M (i :: r, loc, st, h, k, z) := by
  obtain ⟨hx, hb, hml, hown, hts, hK, hnm, hRm, hρ, hBs, hsc, hsx⟩ := C
  have hret : ∀ v, mx_ret M h k z v = some (.inr (.inr q)) → q = (v, h) ∧ k ≤ (mx_rm M).cells ∧ z ≤ (mx_rm M).slots := by
    intro v hv
    unfold mx_ret at hv
    split at hv
    · rename_i hc
      exact ⟨(Sum.inr.inj (Sum.inr.inj (Option.some.inj hv))).symm, hc⟩
    · cases hv
  unfold mx_step1 at hs
  split at hs
  · cases hs
  · cases hs
  · cases hs
  · cases hs
  · cases hs
  · cases hs
  · cases hs
  · unfold mx_sIload at hs
    repeat' split at hs
    all_goals cases hs
  · unfold mx_sIload at hs
    repeat' split at hs
    all_goals cases hs
  · unfold mx_sLload at hs
    repeat' split at hs
    all_goals cases hs
  · unfold mx_sLload at hs
    repeat' split at hs
    all_goals cases hs
  · unfold mx_sAload at hs
    repeat' split at hs
    all_goals cases hs
  · unfold mx_sAload at hs
    repeat' split at hs
    all_goals cases hs
  · unfold mx_sIstore at hs
    repeat' split at hs
    all_goals cases hs
  · unfold mx_sIstore at hs
    repeat' split at hs
    all_goals cases hs
  · unfold mx_sAstore at hs
    repeat' split at hs
    all_goals cases hs
  · unfold mx_sAstore at hs
    repeat' split at hs
    all_goals cases hs
  · unfold mx_sLstore at hs
    repeat' split at hs
    all_goals cases hs
  · unfold mx_sLstore at hs
    repeat' split at hs
    all_goals cases hs
  · unfold mx_sIinc at hs
    repeat' split at hs
    all_goals cases hs
  · unfold mx_sB at hs
    repeat' split at hs
    all_goals cases hs
  · unfold mx_sB at hs
    repeat' split at hs
    all_goals cases hs
  · unfold mx_sB at hs
    repeat' split at hs
    all_goals cases hs
  · unfold mx_sB at hs
    repeat' split at hs
    all_goals cases hs
  · unfold mx_sB at hs
    repeat' split at hs
    all_goals cases hs
  · unfold mx_sB at hs
    repeat' split at hs
    all_goals cases hs
  · unfold mx_sB at hs
    repeat' split at hs
    all_goals cases hs
  · unfold mx_sB at hs
    repeat' split at hs
    all_goals cases hs
  · unfold mx_sBd at hs
    repeat' split at hs
    all_goals cases hs
  · unfold mx_sBd at hs
    repeat' split at hs
    all_goals cases hs
  · unfold mx_sL at hs
    repeat' split at hs
    all_goals cases hs
  · unfold mx_sL at hs
    repeat' split at hs
    all_goals cases hs
  · unfold mx_sLd at hs
    repeat' split at hs
    all_goals cases hs
  · unfold mx_sLd at hs
    repeat' split at hs
    all_goals cases hs
  · unfold mx_sI2l at hs
    repeat' split at hs
    all_goals cases hs
  · unfold mx_sL2i at hs
    repeat' split at hs
    all_goals cases hs
  · unfold mx_sIcmp at hs
    repeat' split at hs
    all_goals cases hs
  · unfold mx_sIf at hs
    repeat' split at hs
    all_goals cases hs
  · cases hs
  · cases hs
  · unfold mx_sSw at hs
    repeat' split at hs
    all_goals cases hs
  · unfold mx_sSw at hs
    repeat' split at hs
    all_goals cases hs
  · unfold mx_sIfnull at hs
    repeat' split at hs
    all_goals cases hs
  · unfold mx_sIfnn at hs
    repeat' split at hs
    all_goals cases hs
  · unfold mx_sDup at hs
    repeat' split at hs
    all_goals cases hs
  · unfold mx_sDup2 at hs
    repeat' split at hs
    all_goals cases hs
  · unfold mx_sPop at hs
    repeat' split at hs
    all_goals cases hs
  · unfold mx_sGet at hs
    repeat' split at hs
    all_goals cases hs
  · unfold mx_sPut at hs
    repeat' split at hs
    all_goals cases hs
  · unfold mx_sIald at hs
    repeat' split at hs
    all_goals cases hs
  · unfold mx_sIast at hs
    repeat' split at hs
    all_goals cases hs
  · unfold mx_sAald at hs
    repeat' split at hs
    all_goals cases hs
  · unfold mx_sAast at hs
    repeat' split at hs
    all_goals cases hs
  · unfold mx_sAlen at hs
    repeat' split at hs
    all_goals cases hs
  · unfold mx_sNew at hs
    repeat' split at hs
    all_goals cases hs
  · unfold mx_sNewa at hs
    repeat' split at hs
    all_goals cases hs
  · unfold mx_sNewq at hs
    repeat' split at hs
    all_goals cases hs
  · unfold mx_sMna at hs
    repeat' split at hs
    all_goals cases hs
  · unfold mx_sVirt at hs
    repeat' split at hs
    all_goals first
      | exact (mx_call_nor hs).elim
      | (cases hs; done)
  · unfold mx_sSpec at hs
    repeat' split at hs
    all_goals first
      | exact (mx_call_nor hs).elim
      | (cases hs; done)
  · unfold mx_sStat at hs
    repeat' split at hs
    all_goals first
      | exact (mx_call_nor hs).elim
      | (cases hs; done)
  · rename_i hi
    obtain ⟨hd, ok⟩ := mx_okI_of hI (by rw [hi]; exact fun q => by cases q)
    unfold mx_okO at ok
    rw [hi] at ok hd
    simp only [decide_eq_true_eq] at ok
    rw [ok] at hd
    unfold mx_sIret at hs
    split at hs
    · rename_i v
      split at hs
      · rename_i hc
        obtain ⟨rfl, hk, hz⟩ := hret _ hs
        refine fun H locs ls hR hS hL => W.widen hk hz ?_
        rcases hc with hc | ⟨hc, hv⟩
        · exact W.zret (ty := .int) hx hb (by rw [hr]; exact hc) rfl (fun t ht hw => ⟨rfl, by rw [ht]; exact hR, hS.F ht⟩) hS.2.2 hd
        · exact W.zret (ty := .boolean) hx hb (by rw [hr]; exact hc) (by rcases hv with rfl | rfl <;> rfl) (fun t ht hw => ⟨rfl, by rw [ht]; exact hR, hS.F ht⟩) hS.2.2 hd
      · cases hs
    · cases hs
  · rename_i hi
    obtain ⟨hd, ok⟩ := mx_okI_of hI (by rw [hi]; exact fun q => by cases q)
    unfold mx_okO at ok
    rw [hi] at ok hd
    simp only [Bool.and_eq_true, decide_eq_true_eq] at ok
    rw [ok.1] at hd
    have hrt : ∃ n, M.2.2.2.2.1 = some (.object n) := by
      have h2 := ok.2
      split at h2
      · rename_i n hn
        exact ⟨n, hn⟩
      · cases h2
    obtain ⟨n, hn⟩ := hrt
    unfold mx_sAret at hs
    split at hs
    · obtain ⟨rfl, hk, hz⟩ := hret _ hs
      exact fun H locs ls hR hS hL => W.widen hk hz (W.aret (rt := .object n) hx hb (by rw [hr]; exact hn) (Or.inl ⟨n, rfl⟩) (Or.inr ⟨_, rfl⟩) (fun t ht hw => ⟨rfl, by rw [ht]; exact hR, hS.F ht⟩) hS.2.2 hd)
    · obtain ⟨rfl, hk, hz⟩ := hret _ hs
      exact fun H locs ls hR hS hL => W.widen hk hz (W.aret (rt := .object n) hx hb (by rw [hr]; exact hn) (Or.inl ⟨n, rfl⟩) (Or.inl rfl) (fun t ht hw => ⟨rfl, by rw [ht]; exact hR, hS.F ht⟩) hS.2.2 hd)
    · cases hs
  · rename_i hi
    obtain ⟨hd, ok⟩ := mx_okI_of hI (by rw [hi]; exact fun q => by cases q)
    unfold mx_okO at ok
    rw [hi] at ok hd
    simp only [Bool.and_eq_true, decide_eq_true_eq] at ok
    rw [ok.1] at hd
    unfold mx_sVret at hs
    split at hs
    · obtain ⟨rfl, hk, hz⟩ := hret _ hs
      exact fun H locs ls hR hS hL => W.widen hk hz (W.vret hx hb (by rw [hr]; exact ok.2) (fun t ht hw => ⟨rfl, by rw [ht]; exact hR, hS.F ht⟩) hS.2.2 hd)
    · cases hs
  · cases hs
end Sim
/-- a method's entry: its arguments are its first locals -/
theorem mx_sl {ρ : Nat → Nat} : ∀ as : List Value, as.all mx_c1 = true → (lg_sl (as.map (mx_rv ρ))).length = as.length ∧ ∀ (b j : Nat) (v : Value), as[j]? = some v → (b + j, mx_rv ρ v) ∈ lv_args b (as.map (mx_rv ρ)) := by
  intro as
  induction as with
  | nil => exact fun _ => ⟨rfl, fun b j v hj => by simp at hj⟩
  | cons a as ih =>
    intro ha
    simp only [List.all_cons, Bool.and_eq_true] at ha
    have hcat : (mx_rv ρ a).category = 1 := mx_c1_cat ha.1
    obtain ⟨h1, h2⟩ := ih ha.2
    refine ⟨?_, fun b j v hj => ?_⟩
    · have e : lg_sl ((a :: as).map (mx_rv ρ)) = [.val (mx_rv ρ a)] ++ lg_sl (as.map (mx_rv ρ)) := by simp [lg_sl, hcat]
      rw [e, List.length_append, h1, List.length_cons]
      simp
      omega
    · cases j with
      | zero =>
        simp at hj
        subst hj
        simp [lv_args]
      | succ j =>
        simp at hj
        have := h2 (b + 1) j v hj
        simp only [List.map_cons, lv_args, hcat]
        rw [show b + (j + 1) = b + 1 + j by omega]
        exact List.mem_cons_of_mem _ this
theorem mx_HL_entry {ρ : Nat → Nat} {as : List Value} {n : Nat} (hc : as.all mx_c1 = true) (hn : as.length ≤ n) (m : MethodId) : ∃ ls : Array Slot, entryFrame m (as.map (mx_rv ρ)).toArray n = F0 m 0 ls [] ∧ mx_HL ρ ls n (as.map some ++ List.replicate (n - as.length) none) := by
  obtain ⟨h1, h2⟩ := mx_sl (ρ := ρ) as hc
  have hl := lv_entry (as.map (mx_rv ρ)) (n := n) (by omega)
  rw [lg_entry_eq]
  refine ⟨_, rfl, hl.1, by simp; omega, hl.2.1, fun j v hj => ?_⟩
  have hj' : as[j]? = some v := by
    unfold mx_ld at hj
    split at hj
    · rename_i w hw
      cases hj
      by_cases hlt : j < as.length
      · rw [List.getElem?_append_left (by simpa using hlt), List.getElem?_map] at hw
        cases ha : as[j]? with
        | none => rw [ha] at hw; cases hw
        | some u => rw [ha] at hw; simp at hw; rw [hw]
      · rw [List.getElem?_append_right (by simp; omega), List.getElem?_replicate] at hw
        split at hw <;> simp at hw
    · cases hj
  have := h2 0 j v hj'
  rw [Nat.zero_add] at this
  exact hl.2.2 _ this
theorem mx_okM_of {M : mx_Mt} (h : mx_okM M = true) : mx_okB M = true ∧ 0 ∈ mx_tg M ∧ plainName M.2.1.cls = true ∧ mx_own M = M.2.1.cls := by
  unfold mx_okM at h
  simp only [Bool.and_eq_true, decide_eq_true_eq] at h
  exact ⟨h.1.1.1.1, h.1.1.1.2, h.1.1.2, h.1.2⟩
/-- THE WHOLE RUN: what the light machine comes to, the machine comes to -/
theorem mx_main {l : Launch} {D : va_G} {B : Nat} {ρ : Nat → Nat} {cs : mx_Cs} (hρ : ∀ i, i < 1000 → ρ i = B + i) (J : mx_Jdk l D B ρ cs) (hok : ∀ y, y < mx_law → mx_okM (mx_tab y) = true ∧ mx_okW (mx_tab y) = true) :
    ∀ (n : Nat) {p : Program} {e : Env} {R : Room} {s : State} {m : MethodId} {args : Array Value} {below : List Frame} {meth : Method} {c : Code} {Q : State → Prop} {M : mx_Mt} {sc : mx_Sc} {cf : mx_Cf} {q : mx_Rs}, mx_run n M sc cf = some q → mx_okB M = true → mx_okL M cf.1 = true → mx_Cx p s m args meth c R D B ρ cs M sc →
      (∀ (i : mx_In) (r : List mx_In) (loc : mx_Lc) (st : List Value) (h : mx_Hp) (k z : Nat), mx_okI M i = true → mx_step1 M sc i r loc st h k z = some (.inr (.inr q)) → mx_Sim p l e R s m args below meth c Q D B ρ cs M (i :: r, loc, st, h, k, z)) → mx_Sim p l e R s m args below meth c Q D B ρ cs M cf := by
  intro n
  induction n with
  | zero =>
    intro p e R s m args below meth c Q M sc cf q hrun
    cases hrun
  | succ n ih =>
    intro p e R s m args below meth c Q M sc cf q hrun hB hL C HR
    obtain ⟨is, loc, st, h, k, z⟩ := cf
    cases is with
    | nil => cases hL
    | cons i r =>
      unfold mx_run at hrun
      cases hst : mx_step M sc (i :: r, loc, st, h, k, z) with
      | none => rw [hst] at hrun; cases hrun
      | some act =>
        rw [hst] at hrun
        have hst1 : mx_step1 M sc i r loc st h k z = some act := hst
        cases act with
        | inl c' => exact mx_one J C hL hB hst1 (ih hrun hB (mx_next hL hB hst1) C HR)
        | inr act =>
          cases act with
          | inr q' =>
            have : q' = q := Option.some.inj hrun
            subst this
            exact HR i r loc st h k z (mx_okL_of hL).1 hst1
          | inl call =>
            obtain ⟨y, as, c'⟩ := call
            obtain ⟨hy, ha, hal, htr, hc'⟩ := mx_cfit hL hst1
            dsimp only at hrun
            cases hcal : mx_run n (mx_tab y) mx_noS (mx_ent (mx_tab y) as c'.2.2.2.1) with
            | none => rw [hcal] at hrun; cases hrun
            | some q2 =>
              rw [hcal] at hrun
              dsimp only at hrun
              obtain ⟨m1, m2⟩ := hok y hy
              obtain ⟨b1, b2, b3, b4⟩ := mx_okM_of m1
              have hM : mx_Met l D B ρ cs (mx_tab y) as c'.2.2.2.1 q2 := by
                refine Met.ofW (cc := (mx_tab y).2.2.1) (maxL := (mx_tab y).2.2.2.1) (ret := (mx_tab y).2.2.2.2.1) b3 rfl ?_
                intro p e s m args below meth c s₁ Bd hml hv
                obtain ⟨rfl, v1, v2, v3, v4⟩ := hv
                obtain ⟨ls, he, hHL⟩ := mx_HL_entry (ρ := ρ) ha hal m
                rw [he]
                have hCx : mx_Cx p s m (as.map (mx_rv ρ)).toArray meth c (headSpec [mx_cd (mx_tab y)] (mx_rm (mx_tab y))).room D B ρ cs (mx_tab y) mx_noS := by
                  refine ⟨Bd.exec, Bd.bytes, hml, by rw [b4]; exact findClass_of_methodNamed Bd.named, fun w hw => mx_wride (State.WarmedH.refl s) hw (v3 w hw), v2, (fun q => (name_of_methodNamed Bd.named Bd.method).1.trans q), rfl, hρ, by rw [v1.2.1]; exact Nat.le_add_right _ _, (fun q => by cases q), v4⟩
                have hS0 := ih (e := e) (Q := MQ below (mx_Post D B ρ cs q2) (as.map (mx_rv ρ)).toArray s (mx_rm (mx_tab y)).cells (mx_rm (mx_tab y)).slots (mx_A B)) (below := below) hcal b1 (mx_tgt b1 b2).1 hCx (fun i r loc st h k z hI hs => mx_rone hCx Bd.returns Bd.notSynchronized hI hs)
                have hw := hS0 s.heap [] ls v1 va_S.rf hHL
                dsimp only [mx_ent] at hw
                rw [(mx_tgt b1 b2).2] at hw
                exact hw
              exact mx_cone hok C hL hst1 hM (ih hrun hB (by show mx_okL M c'.1 = true; rw [hc']; exact ((mx_okL_of hL).2 htr).2) C HR)
