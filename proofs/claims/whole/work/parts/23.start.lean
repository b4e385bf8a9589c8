/-! the law out of its light run -/
theorem st_K {s : State} {args : Array Value} (hts : ∀ w ∈ lw_tbl, w.before args s = true) : ∃ (D : va_G) (cs : mx_Cs), va_K D mx_cl (mx_tys cs) s := by
  have hin : ∀ k, k < 13 → Cond.instantiable (mx_Cn k) (mx_nf k) ∈ lw_tbl := by decide +kernel
  have h0 : ∀ k : Nat, ∃ q : ClassId × (Nat → Nat), k < 13 → u_Kn s (mx_Cn k) (mx_Tn k) (mx_nf k) q.1 q.2 := by
    intro k
    by_cases hk : k < 13
    · obtain ⟨cC, iS, h⟩ := u_known (C := mx_Cn k) (T := mx_Tn k) (N := mx_nf k) (n := mx_nf k) hts (fun w hw => (List.mem_filter.mp (mx_u k hk w hw)).1) (hts _ (hin k hk))
      exact ⟨(cC, iS), fun _ => h⟩
    · exact ⟨(0, fun _ => 0), fun h => absurd h hk⟩
  obtain ⟨d, hd⟩ := Classical.axiomOfChoice h0
  obtain ⟨cI, kI, compI, i1, i2, i3⟩ := Cond.arrayClass_spec (hts (.arrayClass .int) (by decide +kernel))
  obtain ⟨compS, cS, kS, j1, j2, j3, j4, j5⟩ := Cond.arrayOver_spec (hts (.arrayOver (.object mx_R9)) (by decide +kernel))
  obtain ⟨compJ, cJ, kJ, l1, l2, l3, l4, l5⟩ := Jvm.Stand.arrayOver_specB (hts (.arrayOver (.array .int)) (by decide +kernel))
  refine ⟨(fun k => (d k).1, fun k => (d k).2), (cI, cS, cJ), fun c q hq => ?_, fun k q hq => ?_⟩
  · have hc : c < 13 := (List.getElem?_eq_some_iff.mp hq).1
    rw [mx_cl_get hc] at hq
    cases hq
    exact hd c hc
  · match k, hq with
    | 0, hq => cases hq; exact ⟨fun n z => ⟨fun k h => (by cases h), kI, i2, compI, i3⟩, i1⟩
    | 1, hq => cases hq; exact ⟨fun n z => ⟨fun k h => (by cases h), kS, j3, compS, j4⟩, kS, compS, j3, j4, j1, j5⟩
    | 2, hq => cases hq; exact ⟨fun n z => ⟨fun k h => (by cases h), kJ, l3, compJ, l4⟩, l5⟩
    | k + 3, hq => simp [mx_tys] at hq
theorem st_S {s : State} {args : Array Value} (hts : ∀ w ∈ lw_tbl, w.before args s = true) (hg : (Jvm.Cond.and given_1 narrow_1).before args s = true) : ∃ sA : Nat, vk_R "TwoMayors" 75 mx_text sA s ∧ (∃ v : Nat, vk_S 1 [111] [mx_str] (fun _ => sA) (fun _ => v) (mx_A s.heap.size) s s.heap) ∧ va_Z "java/lang/String" "COMPACT_STRINGS" "Z" (.int 1) (mx_A s.heap.size) s s.heap ∧ va_Zq "jdk/internal/util/Preconditions" "SIOOBE_FORMATTER" "Ljava/util/function/BiFunction;" (mx_A s.heap.size) s s.heap := by
  have hf := flat_of_before _ hg
  have hA : ∀ a : Nat, a < s.heap.size → ¬ mx_A s.heap.size a := fun a ha h => absurd h (Nat.not_le.mpr ha)
  have hel : ∀ j : Nat, j < 111 → Cond.eq (.elem (.field (.string "TwoMayors" 75) "java/lang/String" "value" "[B") (.int (Int32.ofNat j))) (.int (mx_str.getD j 0)) ∈ flatC (Jvm.Cond.and given_1 narrow_1) := by decide +kernel
  obtain ⟨adK, adV, hE, hev⟩ := vk_Sof (args := args) (s := s) (N := 1) (tm := fun _ => Term.string "TwoMayors" 75) (len := [111]) (byt := [mx_str]) (A := mx_A s.heap.size) (by decide) (fun i _ => hf _ (by decide +kernel)) (fun i _ => hf _ (by decide +kernel)) (fun i _ => hf _ (by decide +kernel)) (fun i hi => by
      have : i = 0 := by omega
      subst this
      exact hf _ (by decide +kernel)) (fun i hi j hj => by
      have : i = 0 := by omega
      subst this
      exact hf _ (hel j hj)) (fun i j hi hj hne => absurd (show i = j by omega) hne) hA
  refine ⟨adK 0, vk_R.of (hts (.stringRef "TwoMayors" 75 mx_text) (by decide +kernel)) (hev 0 (by decide)), ⟨adV 0, fun i hi => ?_, fun i j hi hj _ => by omega⟩, va_Zof (hts (.laysStatic "java/lang/String" "COMPACT_STRINGS" "Z") (by decide +kernel)) (hts (.initialized "java/lang/String") (by decide +kernel)) (va_eqt (hf (.eq (.static "java/lang/String" "COMPACT_STRINGS" "Z") (.int 1)) (by decide +kernel))) hA, va_Zqof (hts (.laysStatic "jdk/internal/util/Preconditions" "SIOOBE_FORMATTER" "Ljava/util/function/BiFunction;") (by decide +kernel)) (hts (.initialized "jdk/internal/util/Preconditions") (by decide +kernel)) (hf (.isRef (.static "jdk/internal/util/Preconditions" "SIOOBE_FORMATTER" "Ljava/util/function/BiFunction;")) (by decide +kernel)) hA⟩
  have : i = 0 := by omega
  subst this
  exact hE.1 0 hi
