/-! the text constant's own methods -/
theorem jw {w : Cond} (h : (decide (w ∈ lw_tbl) && mx_wk w) = true) : w ∈ mx_tb := by
  simp only [Bool.and_eq_true, decide_eq_true_eq] at h
  exact List.mem_filter.mpr h
def jS : String := "java/lang/String"
def jPre (B : Nat) (ρ : Nat → Nat) (as : List Value) : Array Value → State → Prop := va_Pc as (fun U => (∀ w ∈ mx_tb, w.before #[] U = true) ∧ mx_Sx B ρ U)
def jPost (v : Option Value) : Array Value → State → Outcome → State → Prop := fun _ st oc t => oc = .returned v ∧ t.heap = st.heap
theorem jblind {B : Nat} {ρ : Nat → Nat} {as : List Value} : FrameBlind (jPre B ρ as) := by
  intro a U g mk q
  obtain ⟨q1, q4, q5⟩ := q
  refine ⟨q1, fun w hw => mx_wride (s := U) (U := U.calling g mk a) (State.WarmedH.refl U) hw (q4 w hw), ?_⟩
  obtain ⟨h1, ⟨v, h2⟩, h3, h4⟩ := q5
  exact ⟨vk_R.same rfl h1, ⟨v, vk_S.moved (u := U) (U := U.calling g mk a) (Vm.Alike.refl U.vm) h2⟩, va_Z.moved (u := U) (U := U.calling g mk a) (Vm.Alike.refl U.vm) h3, va_Zq.moved (u := U) (U := U.calling g mk a) (Vm.Alike.refl U.vm) h4⟩
section J
variable {p : Program} {l : Launch} {e : Env} {R : Room} {s : State} {m : MethodId} {args : Array Value} {below : List Frame} {meth : Method} {c : Code} {Q : State → Prop} {B : Nat} {ρ : Nat → Nat} {H : Heap} {locs : List Loc} {k z pc : Nat} {ls : Array Slot} {st0 rest : List Value}
theorem jpre (hts : ∀ w ∈ mx_tb, w.before args s = true) (hsx : mx_Sx B ρ s) (hS : va_S (mx_A B) s.heap H locs) {as : List Value} : ∀ U : State, U.heap = H → s.WarmedH U.vm → jPre B ρ as as.toArray U := by
  intro U hU hW
  refine ⟨rfl, fun w hw => mx_wride hW hw (hts w hw), mx_Sx_moved hW (fun a ha hA => ?_) hsx⟩
  rw [hU]
  exact hS.2.1 a ha hA
theorem jgo {v : Option Value} {a : Array Value} (hr : va_Run p l e R s m args below meth c H locs k z 0 0 (F0 m pc ls st0) rest (jPost v a) (fun _ => False)) (K : W p l e R s m args below meth c H locs k z Q (F0 m (pc + 3) ls (v.toList ++ rest))) : W p l e R s m args below meth c H locs k z Q (F0 m pc ls st0) := by
  intro T hT X
  obtain ⟨v', st₀, t, T', L, h0, X', hL, e1, e2, ⟨hv, hh⟩, stp⟩ := hr T hT X
  have hv' : v' = v := by injection hv
  obtain ⟨t2, a1, b1⟩ := K T' (by rw [e1, hh, h0]) (Stand.forget X' (fun q h => (hL q h).elim))
  exact ⟨t2, stp t2 (by rw [hv']; exact a1), b1⟩
end J
theorem jgood {w : Cond} (h : w ∈ mx_tb) (hg : (w.onTables && w.keeps) = true) : GoodIn mx_tb [w] := by
  intro q hq
  rw [List.mem_singleton.mp hq]
  exact ⟨h, Or.inl hg⟩
def jy_coder : MethodName := ⟨"java/lang/String", "coder", "()B"⟩
def jc_coder : Cond := .code jy_coder prog_16_method_152_code 1 (some .byte)
def jr_coder : Room := { frames := 0, cells := 0, slots := 0, locals := 0 }
theorem jk_coder : jc_coder ∈ mx_tb := jw (by decide +kernel)
def jy_length : MethodName := ⟨"java/lang/String", "length", "()I"⟩
def jc_length : Cond := .code jy_length prog_16_method_54_code 1 (some .int)
def jr_length : Room := { frames := 1, cells := 0, slots := 0, locals := 20 }
theorem jk_length : jc_length ∈ mx_tb := jw (by decide +kernel)
def jy_latin : MethodName := ⟨"java/lang/String", "isLatin1", "()Z"⟩
def jc_latin : Cond := .code jy_latin prog_16_method_154_code 1 (some .boolean)
def jr_latin : Room := { frames := 0, cells := 0, slots := 0, locals := 0 }
theorem jk_latin : jc_latin ∈ mx_tb := jw (by decide +kernel)
def jy_pre : MethodName := ⟨"jdk/internal/util/Preconditions", "checkIndex", "(IILjava/util/function/BiFunction;)I"⟩
def jc_pre : Cond := .code jy_pre prog_19_method_11_code 3 (some .int)
def jr_pre : Room := { frames := 0, cells := 0, slots := 0, locals := 0 }
theorem jk_pre : jc_pre ∈ mx_tb := jw (by decide +kernel)
def jy_chk : MethodName := ⟨"java/lang/String", "checkIndex", "(II)V"⟩
def jc_chk : Cond := .code jy_chk prog_16_method_155_code 2 (none)
def jr_chk : Room := { frames := 1, cells := 0, slots := 0, locals := 22 }
theorem jk_chk : jc_chk ∈ mx_tb := jw (by decide +kernel)
def jy_l1at : MethodName := ⟨"java/lang/StringLatin1", "charAt", "([BI)C"⟩
def jc_l1at : Cond := .code jy_l1at prog_17_method_2_code 2 (some .char)
def jr_l1at : Room := { frames := 2, cells := 0, slots := 0, locals := 43 }
theorem jk_l1at : jc_l1at ∈ mx_tb := jw (by decide +kernel)
def jy_charAt : MethodName := ⟨"java/lang/String", "charAt", "(I)C"⟩
def jc_charAt : Cond := .code jy_charAt prog_16_method_56_code 2 (some .char)
def jr_charAt : Room := { frames := 3, cells := 0, slots := 0, locals := 64 }
theorem jk_charAt : jc_charAt ∈ mx_tb := jw (by decide +kernel)
theorem jd_coder_0 : decode prog_16_method_152_code 0 = .ok (.getstatic 38, 3) := by decide +kernel
theorem jd_coder_3 : decode prog_16_method_152_code 3 = .ok (.ifCond .eq 10, 3) := by decide +kernel
theorem jd_coder_6 : decode prog_16_method_152_code 6 = .ok (.aload_n 0, 1) := by decide +kernel
theorem jd_coder_7 : decode prog_16_method_152_code 7 = .ok (.getfield 15, 3) := by decide +kernel
theorem jd_coder_10 : decode prog_16_method_152_code 10 = .ok (.goto 4, 3) := by decide +kernel
theorem jd_coder_14 : decode prog_16_method_152_code 14 = .ok (.ireturn, 1) := by decide +kernel
theorem jd_length_0 : decode prog_16_method_54_code 0 = .ok (.aload_n 0, 1) := by decide +kernel
theorem jd_length_1 : decode prog_16_method_54_code 1 = .ok (.getfield 9, 3) := by decide +kernel
theorem jd_length_4 : decode prog_16_method_54_code 4 = .ok (.arraylength, 1) := by decide +kernel
theorem jd_length_5 : decode prog_16_method_54_code 5 = .ok (.aload_n 0, 1) := by decide +kernel
theorem jd_length_6 : decode prog_16_method_54_code 6 = .ok (.invokevirtual 335, 3) := by decide +kernel
theorem jd_length_9 : decode prog_16_method_54_code 9 = .ok (.ishr, 1) := by decide +kernel
theorem jd_length_10 : decode prog_16_method_54_code 10 = .ok (.ireturn, 1) := by decide +kernel
theorem jd_latin_0 : decode prog_16_method_154_code 0 = .ok (.getstatic 38, 3) := by decide +kernel
theorem jd_latin_3 : decode prog_16_method_154_code 3 = .ok (.ifCond .eq 14, 3) := by decide +kernel
theorem jd_latin_6 : decode prog_16_method_154_code 6 = .ok (.aload_n 0, 1) := by decide +kernel
theorem jd_latin_7 : decode prog_16_method_154_code 7 = .ok (.getfield 15, 3) := by decide +kernel
theorem jd_latin_10 : decode prog_16_method_154_code 10 = .ok (.ifCond .ne 7, 3) := by decide +kernel
theorem jd_latin_13 : decode prog_16_method_154_code 13 = .ok (.iconst 1, 1) := by decide +kernel
theorem jd_latin_14 : decode prog_16_method_154_code 14 = .ok (.goto 4, 3) := by decide +kernel
theorem jd_latin_18 : decode prog_16_method_154_code 18 = .ok (.ireturn, 1) := by decide +kernel
theorem jd_pre_0 : decode prog_19_method_11_code 0 = .ok (.iload_n 0, 1) := by decide +kernel
theorem jd_pre_1 : decode prog_19_method_11_code 1 = .ok (.ifCond .lt 8, 3) := by decide +kernel
theorem jd_pre_4 : decode prog_19_method_11_code 4 = .ok (.iload_n 0, 1) := by decide +kernel
theorem jd_pre_5 : decode prog_19_method_11_code 5 = .ok (.iload_n 1, 1) := by decide +kernel
theorem jd_pre_6 : decode prog_19_method_11_code 6 = .ok (.if_icmp .lt 10, 3) := by decide +kernel
theorem jd_pre_16 : decode prog_19_method_11_code 16 = .ok (.iload_n 0, 1) := by decide +kernel
theorem jd_pre_17 : decode prog_19_method_11_code 17 = .ok (.ireturn, 1) := by decide +kernel
theorem jd_chk_0 : decode prog_16_method_155_code 0 = .ok (.iload_n 0, 1) := by decide +kernel
theorem jd_chk_1 : decode prog_16_method_155_code 1 = .ok (.iload_n 1, 1) := by decide +kernel
theorem jd_chk_2 : decode prog_16_method_155_code 2 = .ok (.getstatic 1053, 3) := by decide +kernel
theorem jd_chk_5 : decode prog_16_method_155_code 5 = .ok (.invokestatic 1059, 3) := by decide +kernel
theorem jd_chk_8 : decode prog_16_method_155_code 8 = .ok (.pop, 1) := by decide +kernel
theorem jd_chk_9 : decode prog_16_method_155_code 9 = .ok (.return_, 1) := by decide +kernel
theorem jd_l1at_0 : decode prog_17_method_2_code 0 = .ok (.iload_n 1, 1) := by decide +kernel
theorem jd_l1at_1 : decode prog_17_method_2_code 1 = .ok (.aload_n 0, 1) := by decide +kernel
theorem jd_l1at_2 : decode prog_17_method_2_code 2 = .ok (.arraylength, 1) := by decide +kernel
theorem jd_l1at_3 : decode prog_17_method_2_code 3 = .ok (.invokestatic 9, 3) := by decide +kernel
theorem jd_l1at_6 : decode prog_17_method_2_code 6 = .ok (.aload_n 0, 1) := by decide +kernel
theorem jd_l1at_7 : decode prog_17_method_2_code 7 = .ok (.iload_n 1, 1) := by decide +kernel
theorem jd_l1at_8 : decode prog_17_method_2_code 8 = .ok (.baload, 1) := by decide +kernel
theorem jd_l1at_9 : decode prog_17_method_2_code 9 = .ok (.sipush 255, 3) := by decide +kernel
theorem jd_l1at_12 : decode prog_17_method_2_code 12 = .ok (.iand, 1) := by decide +kernel
theorem jd_l1at_13 : decode prog_17_method_2_code 13 = .ok (.i2c, 1) := by decide +kernel
theorem jd_l1at_14 : decode prog_17_method_2_code 14 = .ok (.ireturn, 1) := by decide +kernel
theorem jd_charAt_0 : decode prog_16_method_56_code 0 = .ok (.aload_n 0, 1) := by decide +kernel
theorem jd_charAt_1 : decode prog_16_method_56_code 1 = .ok (.invokevirtual 492, 3) := by decide +kernel
theorem jd_charAt_4 : decode prog_16_method_56_code 4 = .ok (.ifCond .eq 12, 3) := by decide +kernel
theorem jd_charAt_7 : decode prog_16_method_56_code 7 = .ok (.aload_n 0, 1) := by decide +kernel
theorem jd_charAt_8 : decode prog_16_method_56_code 8 = .ok (.getfield 9, 3) := by decide +kernel
theorem jd_charAt_11 : decode prog_16_method_56_code 11 = .ok (.iload_n 1, 1) := by decide +kernel
theorem jd_charAt_12 : decode prog_16_method_56_code 12 = .ok (.invokestatic 495, 3) := by decide +kernel
theorem jd_charAt_15 : decode prog_16_method_56_code 15 = .ok (.ireturn, 1) := by decide +kernel
set_option maxRecDepth 20000 in
set_option maxHeartbeats 1000000 in
theorem j_coder {l : Launch} {B : Nat} {ρ : Nat → Nat}  : Met l jy_coder [jc_coder] jr_coder (jPre B ρ [.ref (ρ mx_STR)]) (jPost (some (.int 0))) 0 0 (fun _ => False) := by
  refine Met.ofW (cc := prog_16_method_152_code) (maxL := 1) (ret := some .byte) (by decide) rfl ?_
  intro p e s m args below meth c s₁ Bd hml hv
  obtain ⟨rfl, hts0, hsx⟩ := hv
  have hx := Bd.exec
  have hb := Bd.bytes
  have hr := Bd.returns
  have hlocks := Bd.notSynchronized
  have hts : ∀ w ∈ mx_tb, w.before ([.ref (ρ mx_STR)] : List Value).toArray s = true := fun w hw => mx_wride (State.WarmedH.refl s) hw (hts0 w hw)
  have hown : s.vm.findClass "java/lang/String" = some m.cls := findClass_of_methodNamed Bd.named
  have hS : va_S (mx_A B) s.heap s.heap [] := va_S.rf
  have hl := lv_entry ([.ref (ρ mx_STR)]) (n := 1) (Nat.le_of_ble_eq_true rfl)
  rw [lg_entry_eq]
  generalize (lg_sl ([.ref (ρ mx_STR)]) ++ List.replicate (1 - (lg_sl ([.ref (ρ mx_STR)])).length) Slot.unset).toArray = ls at hl ⊢
  obtain ⟨hR, ⟨v, hE⟩, hZ, hZq⟩ := hsx
  have hE0 := hE.1 0 (by decide)
  refine va_gets (v := .int 1) hx hb hZ hS hown (hts (.fieldLink "java/lang/String" 38 "java/lang/String" "COMPACT_STRINGS" "Z") (jw (by decide +kernel))) (fun _ h => h) jd_coder_0 ?_
  refine lv_if_eq (tgt := 13) hx hb jd_coder_3 (by decide) (fun hc => absurd hc (by decide)) (fun _ => ?_)
  refine lv_aload_n hx hb jd_coder_6 rfl (lv_at hl 0 rfl) ?_
  refine vk_getf (v := .int 0) hx hb hE0.2.1 hS hown (hts (.fieldLink "java/lang/String" 15 "java/lang/String" "coder" "B") (jw (by decide +kernel))) (fun _ h => h) jd_coder_7 ?_
  refine lv_goto (tgt := 14) hx hb jd_coder_10 (by decide) ?_
  exact W.zret (ty := .byte) hx hb hr rfl (fun t ht _ => ⟨rfl, ht⟩) (fun q h => by cases h) jd_coder_14
set_option maxRecDepth 20000 in
set_option maxHeartbeats 1000000 in
theorem j_latin {l : Launch} {B : Nat} {ρ : Nat → Nat}  : Met l jy_latin [jc_latin] jr_latin (jPre B ρ [.ref (ρ mx_STR)]) (jPost (some (.int 1))) 0 0 (fun _ => False) := by
  refine Met.ofW (cc := prog_16_method_154_code) (maxL := 1) (ret := some .boolean) (by decide) rfl ?_
  intro p e s m args below meth c s₁ Bd hml hv
  obtain ⟨rfl, hts0, hsx⟩ := hv
  have hx := Bd.exec
  have hb := Bd.bytes
  have hr := Bd.returns
  have hlocks := Bd.notSynchronized
  have hts : ∀ w ∈ mx_tb, w.before ([.ref (ρ mx_STR)] : List Value).toArray s = true := fun w hw => mx_wride (State.WarmedH.refl s) hw (hts0 w hw)
  have hown : s.vm.findClass "java/lang/String" = some m.cls := findClass_of_methodNamed Bd.named
  have hS : va_S (mx_A B) s.heap s.heap [] := va_S.rf
  have hl := lv_entry ([.ref (ρ mx_STR)]) (n := 1) (Nat.le_of_ble_eq_true rfl)
  rw [lg_entry_eq]
  generalize (lg_sl ([.ref (ρ mx_STR)]) ++ List.replicate (1 - (lg_sl ([.ref (ρ mx_STR)])).length) Slot.unset).toArray = ls at hl ⊢
  obtain ⟨hR, ⟨v, hE⟩, hZ, hZq⟩ := hsx
  have hE0 := hE.1 0 (by decide)
  refine va_gets (v := .int 1) hx hb hZ hS hown (hts (.fieldLink "java/lang/String" 38 "java/lang/String" "COMPACT_STRINGS" "Z") (jw (by decide +kernel))) (fun _ h => h) jd_latin_0 ?_
  refine lv_if_eq (tgt := 17) hx hb jd_latin_3 (by decide) (fun hc => absurd hc (by decide)) (fun _ => ?_)
  refine lv_aload_n hx hb jd_latin_6 rfl (lv_at hl 0 rfl) ?_
  refine vk_getf (v := .int 0) hx hb hE0.2.1 hS hown (hts (.fieldLink "java/lang/String" 15 "java/lang/String" "coder" "B") (jw (by decide +kernel))) (fun _ h => h) jd_latin_7 ?_
  refine lv_if_ne (tgt := 17) hx hb jd_latin_10 (by decide) (fun hc => absurd rfl hc) (fun _ => ?_)
  refine lv_iconst (v := 1) hx hb jd_latin_13 (by decide) ?_
  refine lv_goto (tgt := 18) hx hb jd_latin_14 (by decide) ?_
  exact W.zret (ty := .boolean) hx hb hr rfl (fun t ht _ => ⟨rfl, ht⟩) (fun q h => by cases h) jd_latin_18
set_option maxRecDepth 20000 in
set_option maxHeartbeats 1000000 in
theorem j_length {l : Launch} {B : Nat} {ρ : Nat → Nat}  : Met l jy_length [jc_length] jr_length (jPre B ρ [.ref (ρ mx_STR)]) (jPost (some (.int (Int32.ofNat 111)))) 0 0 (fun _ => False) := by
  refine Met.ofW (cc := prog_16_method_54_code) (maxL := 1) (ret := some .int) (by decide) rfl ?_
  intro p e s m args below meth c s₁ Bd hml hv
  obtain ⟨rfl, hts0, hsx⟩ := hv
  have hx := Bd.exec
  have hb := Bd.bytes
  have hr := Bd.returns
  have hlocks := Bd.notSynchronized
  have hts : ∀ w ∈ mx_tb, w.before ([.ref (ρ mx_STR)] : List Value).toArray s = true := fun w hw => mx_wride (State.WarmedH.refl s) hw (hts0 w hw)
  have hown : s.vm.findClass "java/lang/String" = some m.cls := findClass_of_methodNamed Bd.named
  have hS : va_S (mx_A B) s.heap s.heap [] := va_S.rf
  have hl := lv_entry ([.ref (ρ mx_STR)]) (n := 1) (Nat.le_of_ble_eq_true rfl)
  rw [lg_entry_eq]
  generalize (lg_sl ([.ref (ρ mx_STR)]) ++ List.replicate (1 - (lg_sl ([.ref (ρ mx_STR)])).length) Slot.unset).toArray = ls at hl ⊢
  have hsx0 := hsx
  obtain ⟨hR, ⟨v, hE⟩, hZ, hZq⟩ := hsx
  have hE0 := hE.1 0 (by decide)
  refine lv_aload_n hx hb jd_length_0 rfl (lv_at hl 0 rfl) ?_
  refine vk_getf (v := .ref v) hx hb hE0.2.2.1 hS hown (hts (.fieldLink "java/lang/String" 9 "java/lang/String" "value" "[B") (jw (by decide +kernel))) (fun _ h => h) jd_length_1 ?_
  refine va_tlen (v := Int32.ofNat 111) hx hb hE0.2.2.2 hS rfl jd_length_4 ?_
  refine lv_aload_n hx hb jd_length_5 rfl (lv_at hl 0 rfl) ?_
  refine jgo (va_runV (C := "java/lang/String") (As := []) (rest := [.int (Int32.ofNat 111)]) (n := 0) ⟨hx, hb, hml, hown, hts⟩ (j_coder (l := l) (B := B) (ρ := ρ)) ⟨callB_of 0 hts (jgood jk_coder rfl) rfl rfl rfl (hts _ (jw (by decide +kernel))) (hts (.methodLink "java/lang/String" 335 jy_coder) (jw (by decide +kernel))) ⟨by decide, by decide, by decide +kernel⟩ ⟨Nat.le_of_ble_eq_true rfl, Nat.le_of_ble_eq_true rfl⟩, hts _ (jw (by decide +kernel)), hts _ (jw (by decide +kernel))⟩ ⟨jblind, vk_recv (i := 0) hE (by decide) hS, jpre hts hsx0 hS⟩ rfl rfl hl.1 rfl (lv_room (Nat.le_of_ble_eq_true rfl)) jd_length_6 ⟨Nat.le_of_ble_eq_true rfl, Nat.le_of_ble_eq_true rfl⟩) ?_
  refine lv_ishr hx hb jd_length_9 ?_
  have e : Int32.ofNat 111 >>> ((0 : Int32) &&& 31) = Int32.ofNat 111 := by decide
  rw [e]
  exact W.iret hx hb hr (fun t ht _ => ⟨rfl, ht⟩) (fun q h => by cases h) jd_length_10
set_option maxRecDepth 20000 in
set_option maxHeartbeats 1000000 in
theorem j_pre {l : Launch} {B : Nat} {ρ : Nat → Nat} {x y : Int32} {f : Value} (hf : f.category = 1) (h0 : ¬ x < 0) (h1 : x < y) : Met l jy_pre [jc_pre] jr_pre (jPre B ρ [.int x, .int y, f]) (jPost (some (.int x))) 0 0 (fun _ => False) := by
  refine Met.ofW (cc := prog_19_method_11_code) (maxL := 3) (ret := some .int) (by decide) rfl ?_
  intro p e s m args below meth c s₁ Bd hml hv
  obtain ⟨rfl, hts0, hsx⟩ := hv
  have hx := Bd.exec
  have hb := Bd.bytes
  have hr := Bd.returns
  have hlocks := Bd.notSynchronized
  have hts : ∀ w ∈ mx_tb, w.before ([.int x, .int y, f] : List Value).toArray s = true := fun w hw => mx_wride (State.WarmedH.refl s) hw (hts0 w hw)
  have hown : s.vm.findClass "jdk/internal/util/Preconditions" = some m.cls := findClass_of_methodNamed Bd.named
  have hS : va_S (mx_A B) s.heap s.heap [] := va_S.rf
  have e3 : (lg_sl ([.int x, .int y, f])).length ≤ 3 := by
    cases f <;> first | exact Nat.le_of_ble_eq_true rfl | cases hf
  have hl := lv_entry ([.int x, .int y, f]) (n := 3) e3
  rw [lg_entry_eq]
  generalize (lg_sl ([.int x, .int y, f]) ++ List.replicate (3 - (lg_sl ([.int x, .int y, f])).length) Slot.unset).toArray = ls at hl ⊢
  refine lv_iload_n hx hb jd_pre_0 rfl (lv_at hl 0 rfl) ?_
  refine lv_if_lt (tgt := 9) hx hb jd_pre_1 (by decide) (fun hc => absurd hc h0) (fun _ => ?_)
  refine lv_iload_n hx hb jd_pre_4 rfl (lv_at hl 0 rfl) ?_
  refine lv_iload_n hx hb jd_pre_5 rfl (lv_at hl 1 rfl) ?_
  refine lv_icmp_lt (tgt := 16) hx hb jd_pre_6 (by decide) (fun _ => ?_) (fun hc => absurd h1 hc)
  refine lv_iload_n hx hb jd_pre_16 rfl (lv_at hl 0 rfl) ?_
  exact W.iret hx hb hr (fun t ht _ => ⟨rfl, ht⟩) (fun q h => by cases h) jd_pre_17
set_option maxRecDepth 20000 in
set_option maxHeartbeats 1000000 in
theorem j_chk {l : Launch} {B : Nat} {ρ : Nat → Nat} {x y : Int32} (h0 : ¬ x < 0) (h1 : x < y) : Met l jy_chk [jc_chk] jr_chk (jPre B ρ [.int x, .int y]) (jPost none) 0 0 (fun _ => False) := by
  refine Met.ofW (cc := prog_16_method_155_code) (maxL := 2) (ret := none) (by decide) rfl ?_
  intro p e s m args below meth c s₁ Bd hml hv
  obtain ⟨rfl, hts0, hsx⟩ := hv
  have hx := Bd.exec
  have hb := Bd.bytes
  have hr := Bd.returns
  have hlocks := Bd.notSynchronized
  have hts : ∀ w ∈ mx_tb, w.before ([.int x, .int y] : List Value).toArray s = true := fun w hw => mx_wride (State.WarmedH.refl s) hw (hts0 w hw)
  have hown : s.vm.findClass "java/lang/String" = some m.cls := findClass_of_methodNamed Bd.named
  have hS : va_S (mx_A B) s.heap s.heap [] := va_S.rf
  have hl := lv_entry ([.int x, .int y]) (n := 2) (Nat.le_of_ble_eq_true rfl)
  rw [lg_entry_eq]
  generalize (lg_sl ([.int x, .int y]) ++ List.replicate (2 - (lg_sl ([.int x, .int y])).length) Slot.unset).toArray = ls at hl ⊢
  have hsx0 := hsx
  obtain ⟨hR, ⟨v, hE⟩, hZ, hZq⟩ := hsx
  refine lv_iload_n hx hb jd_chk_0 rfl (lv_at hl 0 rfl) ?_
  refine lv_iload_n hx hb jd_chk_1 rfl (lv_at hl 1 rfl) ?_
  have key : ∀ f : Value, f.category = 1 → W p l e (headSpec [jc_chk] jr_chk).room s m ([.int x, .int y] : List Value).toArray below meth c s.heap [] 0 0 (MQ below (jPost none) ([.int x, .int y] : List Value).toArray s 0 0 (fun _ => False)) (F0 m 5 ls [f, .int y, .int x]) := by
    intro f hf
    refine jgo (va_runS (As := [.int x, .int y, f]) (rest := []) (n := 3) ⟨hx, hb, hml, hown, hts⟩ (j_pre (l := l) (B := B) (ρ := ρ) hf h0 h1) ⟨callB_of 3 hts (jgood jk_pre rfl) rfl rfl rfl (hts _ (jw (by decide +kernel))) (hts (.methodLink "java/lang/String" 1059 jy_pre) (jw (by decide +kernel))) ⟨by decide, by decide, by decide +kernel⟩ ⟨Nat.le_of_ble_eq_true rfl, Nat.le_of_ble_eq_true rfl⟩, hts _ (jw (by decide +kernel))⟩ ⟨jblind, jpre hts hsx0 hS⟩ rfl rfl hl.1 rfl (lv_room (Nat.le_of_ble_eq_true rfl)) jd_chk_5 ⟨Nat.le_of_ble_eq_true rfl, Nat.le_of_ble_eq_true rfl⟩) ?_
    refine lv_pop hx hb jd_chk_8 rfl ?_
    exact W.vret hx hb hr (fun t ht _ => ⟨rfl, ht⟩) (fun q h => by cases h) jd_chk_9
  rcases hZq with hz | ⟨t, hz⟩
  · exact va_gets (v := .null) hx hb hz hS hown (hts (.fieldLink "java/lang/String" 1053 "jdk/internal/util/Preconditions" "SIOOBE_FORMATTER" "Ljava/util/function/BiFunction;") (jw (by decide +kernel))) (fun _ h => h) jd_chk_2 (key .null rfl)
  · exact va_gets (v := .ref t) hx hb hz hS hown (hts (.fieldLink "java/lang/String" 1053 "jdk/internal/util/Preconditions" "SIOOBE_FORMATTER" "Ljava/util/function/BiFunction;") (jw (by decide +kernel))) (fun _ h => h) jd_chk_2 (key (.ref t) rfl)
def jPre2 (B : Nat) (ρ : Nat → Nat) (v : Nat) (as : List Value) : Array Value → State → Prop := va_Pc as (fun U => (∀ w ∈ mx_tb, w.before #[] U = true) ∧ mx_Sx B ρ U ∧ va_T .byte v 111 (fun j => .int (mx_str.getD j 0)) (mx_A B) U U.heap)
theorem jblind2 {B : Nat} {ρ : Nat → Nat} {v : Nat} {as : List Value} : FrameBlind (jPre2 B ρ v as) := by
  intro a U g mk q
  obtain ⟨q1, q4, q5, q6⟩ := q
  obtain ⟨-, h2, h3⟩ := jblind (B := B) (ρ := ρ) (as := as) a U g mk ⟨q1, q4, q5⟩
  exact ⟨q1, h2, h3, va_T.moved (u := U) (U := U.calling g mk a) (Vm.Alike.refl U.vm) q6⟩
theorem j_ch : ∀ j, j < 111 → (((mx_str.getD j 0) &&& 255).toUInt32 % 65536).toInt32 = mx_str.getD j 0 ∧ narrow .char (.int (mx_str.getD j 0)) = .int (mx_str.getD j 0) := by decide +kernel
set_option maxRecDepth 20000 in
set_option maxHeartbeats 1000000 in
theorem j_l1at {l : Launch} {B : Nat} {ρ : Nat → Nat} {v : Nat} {x : Int32} (h0 : ¬ x < 0) (h1 : x.toNatClampNeg < 111) : Met l jy_l1at [jc_l1at] jr_l1at (jPre2 B ρ v [.ref v, .int x]) (jPost (some (.int (mx_str.getD x.toNatClampNeg 0)))) 0 0 (fun _ => False) := by
  refine Met.ofW (cc := prog_17_method_2_code) (maxL := 2) (ret := some .char) (by decide) rfl ?_
  intro p e s m args below meth c s₁ Bd hml hv
  obtain ⟨rfl, hts0, hsx, hT⟩ := hv
  have hx := Bd.exec
  have hb := Bd.bytes
  have hr := Bd.returns
  have hlocks := Bd.notSynchronized
  have hts : ∀ w ∈ mx_tb, w.before ([.ref v, .int x] : List Value).toArray s = true := fun w hw => mx_wride (State.WarmedH.refl s) hw (hts0 w hw)
  have hown : s.vm.findClass "java/lang/StringLatin1" = some m.cls := findClass_of_methodNamed Bd.named
  have hS : va_S (mx_A B) s.heap s.heap [] := va_S.rf
  have hl := lv_entry ([.ref v, .int x]) (n := 2) (Nat.le_of_ble_eq_true rfl)
  rw [lg_entry_eq]
  generalize (lg_sl ([.ref v, .int x]) ++ List.replicate (2 - (lg_sl ([.ref v, .int x])).length) Slot.unset).toArray = ls at hl ⊢
  have hlt : x < Int32.ofNat 111 := by
    rcases nI_of h0 with ⟨j, hj, rfl⟩
    rw [nI_clamp hj] at h1
    exact nI_lt h1 (by decide)
  refine lv_iload_n hx hb jd_l1at_0 rfl (lv_at hl 1 rfl) ?_
  refine lv_aload_n hx hb jd_l1at_1 rfl (lv_at hl 0 rfl) ?_
  refine va_tlen (v := Int32.ofNat 111) hx hb hT hS rfl jd_l1at_2 ?_
  refine jgo (va_runS (As := [.int x, .int (Int32.ofNat 111)]) (rest := []) (n := 2) ⟨hx, hb, hml, hown, hts⟩ (j_chk (l := l) (B := B) (ρ := ρ) h0 hlt) ⟨callB_of 2 hts (jgood jk_chk rfl) rfl rfl rfl (hts _ (jw (by decide +kernel))) (hts (.methodLink "java/lang/StringLatin1" 9 jy_chk) (jw (by decide +kernel))) ⟨by decide, by decide, by decide +kernel⟩ ⟨Nat.le_of_ble_eq_true rfl, Nat.le_of_ble_eq_true rfl⟩, hts _ (jw (by decide +kernel))⟩ ⟨jblind, jpre hts hsx hS⟩ rfl rfl hl.1 rfl (lv_room (Nat.le_of_ble_eq_true rfl)) jd_l1at_3 ⟨Nat.le_of_ble_eq_true rfl, Nat.le_of_ble_eq_true rfl⟩) ?_
  refine lv_aload_n hx hb jd_l1at_6 rfl (lv_at hl 0 rfl) ?_
  refine lv_iload_n hx hb jd_l1at_7 rfl (lv_at hl 1 rfl) ?_
  refine va_tb hx hb hT hS (fun q => by rcases q with q | q; exact h0 q; omega) rfl jd_l1at_8 ?_
  refine lv_sipush (v := 255) hx hb jd_l1at_9 (by decide) ?_
  refine lv_iand hx hb jd_l1at_12 ?_
  refine lv_i2c hx hb jd_l1at_13 (j_ch _ h1).1 ?_
  exact W.zret (ty := .char) hx hb hr (j_ch _ h1).2 (fun t ht _ => ⟨rfl, ht⟩) (fun q h => by cases h) jd_l1at_14
set_option maxRecDepth 20000 in
set_option maxHeartbeats 1000000 in
theorem j_charAt {l : Launch} {B : Nat} {ρ : Nat → Nat} {x : Int32} (h0 : ¬ x < 0) (h1 : x.toNatClampNeg < 111) : Met l jy_charAt [jc_charAt] jr_charAt (jPre B ρ [.ref (ρ mx_STR), .int x]) (jPost (some (.int (mx_str.getD x.toNatClampNeg 0)))) 0 0 (fun _ => False) := by
  refine Met.ofW (cc := prog_16_method_56_code) (maxL := 2) (ret := some .char) (by decide) rfl ?_
  intro p e s m args below meth c s₁ Bd hml hv
  obtain ⟨rfl, hts0, hsx⟩ := hv
  have hx := Bd.exec
  have hb := Bd.bytes
  have hr := Bd.returns
  have hlocks := Bd.notSynchronized
  have hts : ∀ w ∈ mx_tb, w.before ([.ref (ρ mx_STR), .int x] : List Value).toArray s = true := fun w hw => mx_wride (State.WarmedH.refl s) hw (hts0 w hw)
  have hown : s.vm.findClass "java/lang/String" = some m.cls := findClass_of_methodNamed Bd.named
  have hS : va_S (mx_A B) s.heap s.heap [] := va_S.rf
  have hl := lv_entry ([.ref (ρ mx_STR), .int x]) (n := 2) (Nat.le_of_ble_eq_true rfl)
  rw [lg_entry_eq]
  generalize (lg_sl ([.ref (ρ mx_STR), .int x]) ++ List.replicate (2 - (lg_sl ([.ref (ρ mx_STR), .int x])).length) Slot.unset).toArray = ls at hl ⊢
  have hsx0 := hsx
  obtain ⟨hR, ⟨v, hE⟩, hZ, hZq⟩ := hsx
  have hE0 := hE.1 0 (by decide)
  refine lv_aload_n hx hb jd_charAt_0 rfl (lv_at hl 0 rfl) ?_
  refine jgo (va_runV (C := "java/lang/String") (As := []) (rest := []) (n := 0) ⟨hx, hb, hml, hown, hts⟩ (j_latin (l := l) (B := B) (ρ := ρ)) ⟨callB_of 0 hts (jgood jk_latin rfl) rfl rfl rfl (hts _ (jw (by decide +kernel))) (hts (.methodLink "java/lang/String" 492 jy_latin) (jw (by decide +kernel))) ⟨by decide, by decide, by decide +kernel⟩ ⟨Nat.le_of_ble_eq_true rfl, Nat.le_of_ble_eq_true rfl⟩, hts _ (jw (by decide +kernel)), hts _ (jw (by decide +kernel))⟩ ⟨jblind, vk_recv (i := 0) hE (by decide) hS, jpre hts hsx0 hS⟩ rfl rfl hl.1 rfl (lv_room (Nat.le_of_ble_eq_true rfl)) jd_charAt_1 ⟨Nat.le_of_ble_eq_true rfl, Nat.le_of_ble_eq_true rfl⟩) ?_
  refine lv_if_eq (tgt := 16) hx hb jd_charAt_4 (by decide) (fun hc => absurd hc (by decide)) (fun _ => ?_)
  refine lv_aload_n hx hb jd_charAt_7 rfl (lv_at hl 0 rfl) ?_
  refine vk_getf (v := .ref v) hx hb hE0.2.2.1 hS hown (hts (.fieldLink "java/lang/String" 9 "java/lang/String" "value" "[B") (jw (by decide +kernel))) (fun _ h => h) jd_charAt_8 ?_
  refine lv_iload_n hx hb jd_charAt_11 rfl (lv_at hl 1 rfl) ?_
  have hpre2 : ∀ U : State, U.heap = s.heap → s.WarmedH U.vm → jPre2 B ρ v [.ref v, .int x] ([.ref v, .int x] : List Value).toArray U := by
    intro U hU hW
    obtain ⟨-, q1, q2⟩ := jpre (as := []) hts hsx0 hS U hU hW
    exact ⟨rfl, q1, q2, by rw [hU]; exact va_T.moved hW.alike hE0.2.2.2⟩
  refine jgo (va_runS (As := [.ref v, .int x]) (rest := []) (n := 2) ⟨hx, hb, hml, hown, hts⟩ (j_l1at (l := l) (B := B) (ρ := ρ) (v := v) h0 h1) ⟨callB_of 2 hts (jgood jk_l1at rfl) rfl rfl rfl (hts _ (jw (by decide +kernel))) (hts (.methodLink "java/lang/String" 495 jy_l1at) (jw (by decide +kernel))) ⟨by decide, by decide, by decide +kernel⟩ ⟨Nat.le_of_ble_eq_true rfl, Nat.le_of_ble_eq_true rfl⟩, hts _ (jw (by decide +kernel))⟩ ⟨jblind2, hpre2⟩ rfl rfl hl.1 rfl (lv_room (Nat.le_of_ble_eq_true rfl)) jd_charAt_12 ⟨Nat.le_of_ble_eq_true rfl, Nat.le_of_ble_eq_true rfl⟩) ?_
  exact W.zret (ty := .char) hx hb hr (j_ch _ h1).2 (fun t ht _ => ⟨rfl, ht⟩) (fun q h => by cases h) jd_charAt_15
set_option maxRecDepth 20000 in
set_option maxHeartbeats 1000000 in
/-- the text's two calls, in the light machine's words -/
theorem mx_jdk {l : Launch} {D : va_G} {B : Nat} {ρ : Nat → Nat} {cs : mx_Cs} : mx_Jdk l D B ρ cs := by
  intro p e R s m args below meth c Q M sc i r loc st h k z c' n C hi hk hd ok hp hs K
  obtain ⟨hx, hb, hml, hown, hts, hK, hnm, hRm, hρ, hBs, hsc, hsx⟩ := C
  unfold mx_okO at ok
  rw [hi] at ok hd
  simp only [Bool.and_eq_true, decide_eq_true_eq] at ok
  rw [if_pos hk] at ok
  simp only [Bool.and_eq_true, decide_eq_true_eq] at ok
  obtain ⟨ok1, ⟨ok2, ok3⟩, ok4⟩ := ok
  rw [ok1] at hd hp
  rw [ok2] at hown
  have hsx0 := hsx
  obtain ⟨hR, ⟨v, hE⟩, hZ, hZq⟩ := hsx
  rw [ok3] at hRm
  have key : ∀ {s' : List Value} {vv : Int32} {As : List Value} {y : MethodName} {bytes : ByteArray} {maxL n2 : Nat} {ret : Option FieldType} {rm : Room} {H : Heap} {locs : List Loc} {ls : Array Slot}, c' = (r, loc, .int vv :: s', h, k, z) → mx_cat s' ≤ 8 → Met l y [.code y bytes maxL ret] rm (jPre B ρ (.ref (ρ mx_STR) :: As)) (jPost (some (.int vv))) 0 0 (fun _ => False) → rm.cells = 0 → rm.slots = 0 → Cond.code y bytes maxL ret ∈ mx_tb → y.cls = "java/lang/String" → Cond.methodLink "TwoMayors" n y ∈ mx_tb → Cond.instanceMethod y ∈ mx_tb → Cond.selects "java/lang/String" y y ∈ mx_tb → (parseMethodDescriptor y.desc).map (fun d => d.parameters.length) = some n2 → As.length = n2 → rm.frames + 1 ≤ (mx_rm mx_k_X11_init).frames ∧ 8 + (maxL + 11) + rm.locals ≤ (mx_rm mx_k_X11_init).locals → st.map (mx_rv ρ) = As.reverse ++ .ref (ρ mx_STR) :: s'.map (mx_rv ρ) → k ≤ (mx_rm mx_k_X11_init).cells → z ≤ (mx_rm mx_k_X11_init).slots → mx_Rep D B ρ cs h H → va_S (mx_A B) s.heap H locs → mx_HL ρ ls M.2.2.2.1 loc → W p l e R s m args below meth c H locs k z Q (F0 m i.1 ls (st.map (mx_rv ρ))) := by
    intro s' vv As y bytes maxL n2 ret rm H locs ls hc' hcat hM hrc hrs hcd hyc hlk hin hsel hpd hal hrm hst hkc hzc hRp hS hL
    subst hc'
    have hrun := va_runV (p := p) (l := l) (e := e) (R := R) (below := below) (meth := meth) (locs := locs) (cells := k) (slots := z) (C := "java/lang/String") (As := As) (rest := s'.map (mx_rv ρ)) (n := n2) (g := F0 m i.1 ls (st.map (mx_rv ρ))) ⟨hx, hb, hml, hown, hts⟩ hM ⟨callB_of n2 hts (jgood hcd rfl) rfl hrc hrs (by rw [hyc]; exact hts _ (jw (by decide +kernel))) (hts _ hlk) ⟨by rw [hyc]; decide, by rw [hyc]; decide, hpd⟩ (by rw [hRm]; exact hrm), hts _ hin, hts _ hsel⟩ ⟨jblind, vk_recv (i := 0) hE (by decide) hS, jpre hts hsx0 hS⟩ rfl hal hL.1 hst (mx_cat_map hcat) hd (by rw [hRm]; exact ⟨hkc, hzc⟩)
    exact jgo hrun (mx_nx hp K hRp hS hL)
  unfold mx_sVirt at hs
  rcases hk with hk | hk
  · rw [if_pos hk] at hs
    have hn : n = 77 := by rw [ok4, if_pos hk]
    subst hn
    split at hs
    · rename_i o s'
      split at hs
      · rename_i hc
        obtain ⟨rfl, hc2, hc3, hc4⟩ := hc
        have hc3 : k ≤ (mx_rm mx_k_X11_init).cells := by rw [← ok3]; exact hc3
        have hc4 : z ≤ (mx_rm mx_k_X11_init).slots := by rw [← ok3]; exact hc4
        exact fun H locs ls hRp hS hL => key (As := []) (n2 := 0) (rm := jr_length) (mx_go_eq hs) hc2 j_length rfl rfl jk_length rfl (jw (by decide +kernel)) (jw (by decide +kernel)) (jw (by decide +kernel)) (by decide +kernel) rfl (by decide) rfl hc3 hc4 hRp hS hL
      · cases hs
    · cases hs
  · rw [if_neg (by omega), if_pos hk] at hs
    have hn : n = 83 := by rw [ok4, if_neg (by omega)]
    subst hn
    split at hs
    · rename_i j o s'
      split at hs
      · rename_i hc
        obtain ⟨rfl, hc2, hc3, hc4, hc5, hc6⟩ := hc
        have hc3 : k ≤ (mx_rm mx_k_X11_init).cells := by rw [← ok3]; exact hc3
        have hc4 : z ≤ (mx_rm mx_k_X11_init).slots := by rw [← ok3]; exact hc4
        exact fun H locs ls hRp hS hL => key (As := [.int j]) (n2 := 1) (rm := jr_charAt) (mx_go_eq hs) hc2 (j_charAt (Int32.not_lt.mpr hc5) hc6) rfl rfl jk_charAt rfl (jw (by decide +kernel)) (jw (by decide +kernel)) (jw (by decide +kernel)) (by decide +kernel) rfl (by decide) rfl hc3 hc4 hRp hS hL
      · cases hs
    · cases hs
