/-! each step of the light machine is one of the machine's: plain instructions -/
def mx_tys (cs : mx_Cs) : List (ClassId × FieldType) := [(cs.1, .int), (cs.2.1, .object mx_R9), (cs.2.2, .array .int)]
def mx_text : String := "w0,3;w0,1;w1,5;w2,2;w2,4;w3,1;w0,2;g0,1;g0,2;g1,3;g1,6;g2,3;g2,4;g5,3;g6,4;g6,0;g3,2;k0,3;k0,4;k1,3;k1,1;l2;c0;"
/-- what is known of the text's own cells, which lie below B -/
def mx_Sx (B : Nat) (ρ : Nat → Nat) (U : State) : Prop := vk_R "TwoMayors" 75 mx_text (ρ mx_STR) U ∧ (∃ v : Nat, vk_S 1 [111] [mx_str] (fun _ => ρ mx_STR) (fun _ => v) (mx_A B) U U.heap) ∧ va_Z "java/lang/String" "COMPACT_STRINGS" "Z" (.int 1) (mx_A B) U U.heap ∧ va_Zq "jdk/internal/util/Preconditions" "SIOOBE_FORMATTER" "Ljava/util/function/BiFunction;" (mx_A B) U U.heap
def mx_Cx (p : Program) (s : State) (m : MethodId) (args : Array Value) (meth : Method) (c : Code) (R : Room) (D : va_G) (B : Nat) (ρ : Nat → Nat) (cs : mx_Cs) (M : mx_Mt) (sc : mx_Sc) : Prop :=
  p.tables.exec = Jvm.exec ∧ c.code = M.2.2.1 ∧ c.maxLocals = M.2.2.2.1 ∧ s.vm.findClass (mx_own M) = some m.cls ∧ (∀ w ∈ mx_tb, w.before args s = true) ∧ va_K D mx_cl (mx_tys cs) s ∧ (M.2.1.name = "<init>" → meth.name = "<init>") ∧ R = mx_rm M ∧ (∀ i, i < 1000 → ρ i = B + i) ∧ B ≤ s.heap.size ∧ (sc.1 = true → va_X (ρ mx_SCR) sc.2.1 sc.2.2 s s.heap ∧ ρ mx_SCR < s.heap.size ∧ ρ mx_SCR < B) ∧ mx_Sx B ρ s
def mx_Sim (p : Program) (l : Launch) (e : Env) (R : Room) (s : State) (m : MethodId) (args : Array Value) (below : List Frame) (meth : Method) (c : Code) (Q : State → Prop) (D : va_G) (B : Nat) (ρ : Nat → Nat) (cs : mx_Cs) (M : mx_Mt) (cf : mx_Cf) : Prop :=
  ∀ (H : Heap) (locs : List Loc) (ls : Array Slot), mx_Rep D B ρ cs cf.2.2.2.1 H → va_S (mx_A B) s.heap H locs → mx_HL ρ ls M.2.2.2.1 cf.2.1 → W p l e R s m args below meth c H locs cf.2.2.2.2.1 cf.2.2.2.2.2 Q (F0 m (mx_pc cf.1) ls (cf.2.2.1.map (mx_rv ρ)))
theorem mx_go_eq {r : List mx_In} {loc : mx_Lc} {st : List Value} {h : mx_Hp} {k z : Nat} {c' : mx_Cf} (q : mx_go r loc st h k z = some (.inl c')) : c' = (r, loc, st, h, k, z) := (Sum.inl.inj (Option.some.inj q)).symm
theorem mx_jp_eq {M : mx_Mt} {loc : mx_Lc} {st : List Value} {h : mx_Hp} {k z t : Nat} {c' : mx_Cf} (q : mx_jp M loc st h k z t = some (.inl c')) : c' = (M.1 t, loc, st, h, k, z) := (Sum.inl.inj (Option.some.inj q)).symm
theorem mx_at_in {w : Cond} {j : Nat} (h : mx_at w j = true) : w ∈ mx_tb := by
  unfold mx_at at h
  simp only [Bool.and_eq_true, decide_eq_true_eq] at h
  exact List.mem_filter.mpr ⟨List.mem_of_getElem? h.1, h.2⟩
section Sim
variable {p : Program} {l : Launch} {e : Env} {R : Room} {s : State} {m : MethodId} {args : Array Value} {below : List Frame} {meth : Method} {c : Code} {Q : State → Prop} {D : va_G} {B : Nat} {ρ : Nat → Nat} {cs : mx_Cs} {M : mx_Mt} {sc : mx_Sc}
variable {i : mx_In} {r : List mx_In} {loc : mx_Lc} {st : List Value} {h : mx_Hp} {k z : Nat} {c' : mx_Cf}
/-- what comes behind an instruction of n bytes -/
theorem mx_nx {n : Nat} (hp : mx_pc r = i.1 + n) (K : mx_Sim p l e R s m args below meth c Q D B ρ cs M (r, loc, st, h, k, z)) {H : Heap} {locs : List Loc} {ls : Array Slot} (hR : mx_Rep D B ρ cs h H) (hS : va_S (mx_A B) s.heap H locs) (hL : mx_HL ρ ls M.2.2.2.1 loc) : W p l e R s m args below meth c H locs k z Q (F0 m (i.1 + n) ls (st.map (mx_rv ρ))) := by
  have h1 := K H locs ls hR hS hL
  dsimp only at h1
  rw [hp] at h1
  exact h1
theorem mx_tgt (ho : mx_okB M = true) {t : Nat} (ht : t ∈ mx_tg M) : mx_okL M (M.1 t) = true ∧ mx_pc (M.1 t) = t := by
  have h1 := List.all_eq_true.mp ho t ht
  simp only [Bool.and_eq_true, decide_eq_true_eq] at h1
  exact h1
theorem mx_jx (ho : mx_okB M = true) {t : Nat} (ht : t ∈ mx_tg M) (K : mx_Sim p l e R s m args below meth c Q D B ρ cs M (M.1 t, loc, st, h, k, z)) {H : Heap} {locs : List Loc} {ls : Array Slot} (hR : mx_Rep D B ρ cs h H) (hS : va_S (mx_A B) s.heap H locs) (hL : mx_HL ρ ls M.2.2.2.1 loc) : W p l e R s m args below meth c H locs k z Q (F0 m t ls (st.map (mx_rv ρ))) := by
  have h1 := K H locs ls hR hS hL
  dsimp only at h1
  rw [(mx_tgt ho ht).2] at h1
  exact h1

theorem mx_s_iconst (C : mx_Cx p s m args meth c R D B ρ cs M sc) {n : Int} (hi : i.2.1 = .iconst n) (hd : decode M.2.2.1 i.1 = .ok (i.2.1, i.2.2.1)) (ok : mx_okO M i = true) (hp : mx_pc r = i.1 + i.2.2.1) (hs : mx_go r loc (.int i.2.2.2.2.2.1 :: st) h k z = some (.inl c')) (K : mx_Sim p l e R s m args below meth c Q D B ρ cs M c') : mx_Sim p l e R s m args below meth c Q D B ρ cs M (i :: r, loc, st, h, k, z) := by
  obtain ⟨hx, hb, hml, hown, hts, hK, hnm, hRm, hρ, hBs, hsc, hsx⟩ := C
  unfold mx_okO at ok
  rw [hi] at ok hd
  simp only [Bool.and_eq_true, decide_eq_true_eq] at ok
  rw [ok.1] at hd hp
  cases mx_go_eq hs
  exact fun H locs ls hR hS hL => lv_iconst hx hb hd ok.2 (mx_nx hp K hR hS hL)
theorem mx_s_bipush (C : mx_Cx p s m args meth c R D B ρ cs M sc) {n : Int} (hi : i.2.1 = .bipush n) (hd : decode M.2.2.1 i.1 = .ok (i.2.1, i.2.2.1)) (ok : mx_okO M i = true) (hp : mx_pc r = i.1 + i.2.2.1) (hs : mx_go r loc (.int i.2.2.2.2.2.1 :: st) h k z = some (.inl c')) (K : mx_Sim p l e R s m args below meth c Q D B ρ cs M c') : mx_Sim p l e R s m args below meth c Q D B ρ cs M (i :: r, loc, st, h, k, z) := by
  obtain ⟨hx, hb, hml, hown, hts, hK, hnm, hRm, hρ, hBs, hsc, hsx⟩ := C
  unfold mx_okO at ok
  rw [hi] at ok hd
  simp only [Bool.and_eq_true, decide_eq_true_eq] at ok
  rw [ok.1] at hd hp
  cases mx_go_eq hs
  exact fun H locs ls hR hS hL => lv_bipush hx hb hd ok.2 (mx_nx hp K hR hS hL)
theorem mx_s_sipush (C : mx_Cx p s m args meth c R D B ρ cs M sc) {n : Int} (hi : i.2.1 = .sipush n) (hd : decode M.2.2.1 i.1 = .ok (i.2.1, i.2.2.1)) (ok : mx_okO M i = true) (hp : mx_pc r = i.1 + i.2.2.1) (hs : mx_go r loc (.int i.2.2.2.2.2.1 :: st) h k z = some (.inl c')) (K : mx_Sim p l e R s m args below meth c Q D B ρ cs M c') : mx_Sim p l e R s m args below meth c Q D B ρ cs M (i :: r, loc, st, h, k, z) := by
  obtain ⟨hx, hb, hml, hown, hts, hK, hnm, hRm, hρ, hBs, hsc, hsx⟩ := C
  unfold mx_okO at ok
  rw [hi] at ok hd
  simp only [Bool.and_eq_true, decide_eq_true_eq] at ok
  rw [ok.1] at hd hp
  cases mx_go_eq hs
  exact fun H locs ls hR hS hL => lv_sipush hx hb hd ok.2 (mx_nx hp K hR hS hL)
theorem mx_s_lconst (C : mx_Cx p s m args meth c R D B ρ cs M sc) {n : Fin 2} (hi : i.2.1 = .lconst n) (hd : decode M.2.2.1 i.1 = .ok (i.2.1, i.2.2.1)) (ok : mx_okO M i = true) (hp : mx_pc r = i.1 + i.2.2.1) (hs : mx_go r loc (.long i.2.2.2.2.2.1.toInt64 :: st) h k z = some (.inl c')) (K : mx_Sim p l e R s m args below meth c Q D B ρ cs M c') : mx_Sim p l e R s m args below meth c Q D B ρ cs M (i :: r, loc, st, h, k, z) := by
  obtain ⟨hx, hb, hml, hown, hts, hK, hnm, hRm, hρ, hBs, hsc, hsx⟩ := C
  unfold mx_okO at ok
  rw [hi] at ok hd
  simp only [Bool.and_eq_true, decide_eq_true_eq] at ok
  rw [ok.1] at hd hp
  cases mx_go_eq hs
  exact fun H locs ls hR hS hL => lv_lconst hx hb hd ok.2 (mx_nx hp K hR hS hL)
theorem mx_s_ldc2 (C : mx_Cx p s m args meth c R D B ρ cs M sc) {n : Nat} (hi : i.2.1 = .ldc2_w n) (hd : decode M.2.2.1 i.1 = .ok (i.2.1, i.2.2.1)) (ok : mx_okO M i = true) (hp : mx_pc r = i.1 + i.2.2.1) (hs : mx_go r loc (.long i.2.2.2.2.2.1.toInt64 :: st) h k z = some (.inl c')) (K : mx_Sim p l e R s m args below meth c Q D B ρ cs M c') : mx_Sim p l e R s m args below meth c Q D B ρ cs M (i :: r, loc, st, h, k, z) := by
  obtain ⟨hx, hb, hml, hown, hts, hK, hnm, hRm, hρ, hBs, hsc, hsx⟩ := C
  unfold mx_okO at ok
  rw [hi] at ok hd
  simp only [Bool.and_eq_true, decide_eq_true_eq] at ok
  rw [ok.1] at hd hp
  cases mx_go_eq hs
  exact fun H locs ls hR hS hL => lv_ldc2 hx hb hown (hts _ (mx_at_in ok.2)) hd (mx_nx hp K hR hS hL)
theorem mx_s_null (C : mx_Cx p s m args meth c R D B ρ cs M sc) (hi : i.2.1 = .aconst_null) (hd : decode M.2.2.1 i.1 = .ok (i.2.1, i.2.2.1)) (ok : mx_okO M i = true) (hp : mx_pc r = i.1 + i.2.2.1) (hs : mx_go r loc (.null :: st) h k z = some (.inl c')) (K : mx_Sim p l e R s m args below meth c Q D B ρ cs M c') : mx_Sim p l e R s m args below meth c Q D B ρ cs M (i :: r, loc, st, h, k, z) := by
  obtain ⟨hx, hb, hml, hown, hts, hK, hnm, hRm, hρ, hBs, hsc, hsx⟩ := C
  unfold mx_okO at ok
  rw [hi] at ok hd
  simp only [Bool.and_eq_true, decide_eq_true_eq] at ok
  rw [ok] at hd hp
  cases mx_go_eq hs
  exact fun H locs ls hR hS hL => lv_null hx hb hd (mx_nx hp K hR hS hL)
theorem mx_s_ldc (C : mx_Cx p s m args meth c R D B ρ cs M sc) {n : Nat} (hi : i.2.1 = .ldc n) (hd : decode M.2.2.1 i.1 = .ok (i.2.1, i.2.2.1)) (ok : mx_okO M i = true) (hp : mx_pc r = i.1 + i.2.2.1) (hs : mx_go r loc (.ref mx_STR :: st) h k z = some (.inl c')) (K : mx_Sim p l e R s m args below meth c Q D B ρ cs M c') : mx_Sim p l e R s m args below meth c Q D B ρ cs M (i :: r, loc, st, h, k, z) := by
  obtain ⟨hx, hb, hml, hown, hts, hK, hnm, hRm, hρ, hBs, hsc, hsx⟩ := C
  unfold mx_okO at ok
  rw [hi] at ok hd
  simp only [Bool.and_eq_true, decide_eq_true_eq] at ok
  obtain ⟨⟨ok1, ok2⟩, ok3⟩ := ok
  rw [ok1] at hd hp
  subst ok3
  rw [ok2] at hown
  cases mx_go_eq hs
  exact fun H locs ls hR hS hL => va_ldcS hx hb hown hsx.1 hd (mx_nx hp K hR hS hL)
theorem mx_s_iload_n (C : mx_Cx p s m args meth c R D B ρ cs M sc) {n : Fin 4} (hi : i.2.1 = .iload_n n) (hd : decode M.2.2.1 i.1 = .ok (i.2.1, i.2.2.1)) (ok : mx_okO M i = true) (hp : mx_pc r = i.1 + i.2.2.1) (hs : mx_sIload i r loc st h k z = some (.inl c')) (K : mx_Sim p l e R s m args below meth c Q D B ρ cs M c') : mx_Sim p l e R s m args below meth c Q D B ρ cs M (i :: r, loc, st, h, k, z) := by
  obtain ⟨hx, hb, hml, hown, hts, hK, hnm, hRm, hρ, hBs, hsc, hsx⟩ := C
  unfold mx_okO at ok
  rw [hi] at ok hd
  simp only [Bool.and_eq_true, decide_eq_true_eq] at ok
  rw [ok.1] at hd hp
  unfold mx_sIload at hs
  split at hs
  · rename_i x hv
    cases mx_go_eq hs
    exact fun H locs ls hR hS hL => lv_iload_n hx hb hd ok.2 (hL.2.2.2 _ _ hv) (mx_nx hp K hR hS hL)
  · cases hs
theorem mx_s_iload (C : mx_Cx p s m args meth c R D B ρ cs M sc) {n : Nat} (hi : i.2.1 = .iload n) (hd : decode M.2.2.1 i.1 = .ok (i.2.1, i.2.2.1)) (ok : mx_okO M i = true) (hp : mx_pc r = i.1 + i.2.2.1) (hs : mx_sIload i r loc st h k z = some (.inl c')) (K : mx_Sim p l e R s m args below meth c Q D B ρ cs M c') : mx_Sim p l e R s m args below meth c Q D B ρ cs M (i :: r, loc, st, h, k, z) := by
  obtain ⟨hx, hb, hml, hown, hts, hK, hnm, hRm, hρ, hBs, hsc, hsx⟩ := C
  unfold mx_okO at ok
  rw [hi] at ok hd
  simp only [Bool.and_eq_true, decide_eq_true_eq] at ok
  rw [ok.1] at hd hp
  rw [ok.2] at hd
  unfold mx_sIload at hs
  split at hs
  · rename_i x hv
    cases mx_go_eq hs
    exact fun H locs ls hR hS hL => lv_iload hx hb hd (hL.2.2.2 _ _ hv) (mx_nx hp K hR hS hL)
  · cases hs
theorem mx_s_lload_n (C : mx_Cx p s m args meth c R D B ρ cs M sc) {n : Fin 4} (hi : i.2.1 = .lload_n n) (hd : decode M.2.2.1 i.1 = .ok (i.2.1, i.2.2.1)) (ok : mx_okO M i = true) (hp : mx_pc r = i.1 + i.2.2.1) (hs : mx_sLload i r loc st h k z = some (.inl c')) (K : mx_Sim p l e R s m args below meth c Q D B ρ cs M c') : mx_Sim p l e R s m args below meth c Q D B ρ cs M (i :: r, loc, st, h, k, z) := by
  obtain ⟨hx, hb, hml, hown, hts, hK, hnm, hRm, hρ, hBs, hsc, hsx⟩ := C
  unfold mx_okO at ok
  rw [hi] at ok hd
  simp only [Bool.and_eq_true, decide_eq_true_eq] at ok
  rw [ok.1] at hd hp
  unfold mx_sLload at hs
  split at hs
  · rename_i x hv
    cases mx_go_eq hs
    exact fun H locs ls hR hS hL => lv_lload_n hx hb hd ok.2 (hL.2.2.2 _ _ hv) (mx_nx hp K hR hS hL)
  · cases hs
theorem mx_s_lload (C : mx_Cx p s m args meth c R D B ρ cs M sc) {n : Nat} (hi : i.2.1 = .lload n) (hd : decode M.2.2.1 i.1 = .ok (i.2.1, i.2.2.1)) (ok : mx_okO M i = true) (hp : mx_pc r = i.1 + i.2.2.1) (hs : mx_sLload i r loc st h k z = some (.inl c')) (K : mx_Sim p l e R s m args below meth c Q D B ρ cs M c') : mx_Sim p l e R s m args below meth c Q D B ρ cs M (i :: r, loc, st, h, k, z) := by
  obtain ⟨hx, hb, hml, hown, hts, hK, hnm, hRm, hρ, hBs, hsc, hsx⟩ := C
  unfold mx_okO at ok
  rw [hi] at ok hd
  simp only [Bool.and_eq_true, decide_eq_true_eq] at ok
  rw [ok.1] at hd hp
  rw [ok.2] at hd
  unfold mx_sLload at hs
  split at hs
  · rename_i x hv
    cases mx_go_eq hs
    exact fun H locs ls hR hS hL => lv_lload hx hb hd (hL.2.2.2 _ _ hv) (mx_nx hp K hR hS hL)
  · cases hs
theorem mx_s_aload_n (C : mx_Cx p s m args meth c R D B ρ cs M sc) {n : Fin 4} (hi : i.2.1 = .aload_n n) (hd : decode M.2.2.1 i.1 = .ok (i.2.1, i.2.2.1)) (ok : mx_okO M i = true) (hp : mx_pc r = i.1 + i.2.2.1) (hs : mx_sAload i r loc st h k z = some (.inl c')) (K : mx_Sim p l e R s m args below meth c Q D B ρ cs M c') : mx_Sim p l e R s m args below meth c Q D B ρ cs M (i :: r, loc, st, h, k, z) := by
  obtain ⟨hx, hb, hml, hown, hts, hK, hnm, hRm, hρ, hBs, hsc, hsx⟩ := C
  unfold mx_okO at ok
  rw [hi] at ok hd
  simp only [Bool.and_eq_true, decide_eq_true_eq] at ok
  rw [ok.1] at hd hp
  unfold mx_sAload at hs
  split at hs
  · rename_i x hv
    cases mx_go_eq hs
    exact fun H locs ls hR hS hL => lv_aload_n hx hb hd ok.2 (hL.2.2.2 _ _ hv) (mx_nx hp K hR hS hL)
  · rename_i hv
    cases mx_go_eq hs
    exact fun H locs ls hR hS hL => lv_aload_nN hx hb hd ok.2 (hL.2.2.2 _ _ hv) (mx_nx hp K hR hS hL)
  · cases hs
theorem mx_s_aload (C : mx_Cx p s m args meth c R D B ρ cs M sc) {n : Nat} (hi : i.2.1 = .aload n) (hd : decode M.2.2.1 i.1 = .ok (i.2.1, i.2.2.1)) (ok : mx_okO M i = true) (hp : mx_pc r = i.1 + i.2.2.1) (hs : mx_sAload i r loc st h k z = some (.inl c')) (K : mx_Sim p l e R s m args below meth c Q D B ρ cs M c') : mx_Sim p l e R s m args below meth c Q D B ρ cs M (i :: r, loc, st, h, k, z) := by
  obtain ⟨hx, hb, hml, hown, hts, hK, hnm, hRm, hρ, hBs, hsc, hsx⟩ := C
  unfold mx_okO at ok
  rw [hi] at ok hd
  simp only [Bool.and_eq_true, decide_eq_true_eq] at ok
  rw [ok.1] at hd hp
  rw [ok.2] at hd
  unfold mx_sAload at hs
  split at hs
  · rename_i x hv
    cases mx_go_eq hs
    exact fun H locs ls hR hS hL => lv_aload hx hb hd (hL.2.2.2 _ _ hv) (mx_nx hp K hR hS hL)
  · rename_i hv
    cases mx_go_eq hs
    exact fun H locs ls hR hS hL => lv_aloadN hx hb hd (hL.2.2.2 _ _ hv) (mx_nx hp K hR hS hL)
  · cases hs
theorem mx_s_istore_n (C : mx_Cx p s m args meth c R D B ρ cs M sc) {n : Fin 4} (hi : i.2.1 = .istore_n n) (hd : decode M.2.2.1 i.1 = .ok (i.2.1, i.2.2.1)) (ok : mx_okO M i = true) (hp : mx_pc r = i.1 + i.2.2.1) (hs : mx_sIstore i r loc st h k z = some (.inl c')) (K : mx_Sim p l e R s m args below meth c Q D B ρ cs M c') : mx_Sim p l e R s m args below meth c Q D B ρ cs M (i :: r, loc, st, h, k, z) := by
  obtain ⟨hx, hb, hml, hown, hts, hK, hnm, hRm, hρ, hBs, hsc, hsx⟩ := C
  unfold mx_okO at ok
  rw [hi] at ok hd
  simp only [Bool.and_eq_true, decide_eq_true_eq] at ok
  rw [ok.1] at hd hp
  unfold mx_sIstore at hs
  split at hs
  · rename_i x s'
    split at hs
    · rename_i loc' hv
      cases mx_go_eq hs
      exact fun H locs ls hR hS hL => lv_istore_n hx hb hd ok.2 hL.lv (by rw [← hL.2.1]; exact mx_sv_lt hv) rfl (fun ls' hl' => mx_nx hp K hR hS (hL.st hv hl'))
    · cases hs
  · cases hs
theorem mx_s_istore (C : mx_Cx p s m args meth c R D B ρ cs M sc) {n : Nat} (hi : i.2.1 = .istore n) (hd : decode M.2.2.1 i.1 = .ok (i.2.1, i.2.2.1)) (ok : mx_okO M i = true) (hp : mx_pc r = i.1 + i.2.2.1) (hs : mx_sIstore i r loc st h k z = some (.inl c')) (K : mx_Sim p l e R s m args below meth c Q D B ρ cs M c') : mx_Sim p l e R s m args below meth c Q D B ρ cs M (i :: r, loc, st, h, k, z) := by
  obtain ⟨hx, hb, hml, hown, hts, hK, hnm, hRm, hρ, hBs, hsc, hsx⟩ := C
  unfold mx_okO at ok
  rw [hi] at ok hd
  simp only [Bool.and_eq_true, decide_eq_true_eq] at ok
  rw [ok.1] at hd hp
  rw [ok.2] at hd
  unfold mx_sIstore at hs
  split at hs
  · rename_i x s'
    split at hs
    · rename_i loc' hv
      cases mx_go_eq hs
      exact fun H locs ls hR hS hL => lv_istore hx hb hd hL.lv (by rw [← hL.2.1]; exact mx_sv_lt hv) rfl (fun ls' hl' => mx_nx hp K hR hS (hL.st hv hl'))
    · cases hs
  · cases hs
theorem mx_s_astore_n (C : mx_Cx p s m args meth c R D B ρ cs M sc) {n : Fin 4} (hi : i.2.1 = .astore_n n) (hd : decode M.2.2.1 i.1 = .ok (i.2.1, i.2.2.1)) (ok : mx_okO M i = true) (hp : mx_pc r = i.1 + i.2.2.1) (hs : mx_sAstore i r loc st h k z = some (.inl c')) (K : mx_Sim p l e R s m args below meth c Q D B ρ cs M c') : mx_Sim p l e R s m args below meth c Q D B ρ cs M (i :: r, loc, st, h, k, z) := by
  obtain ⟨hx, hb, hml, hown, hts, hK, hnm, hRm, hρ, hBs, hsc, hsx⟩ := C
  unfold mx_okO at ok
  rw [hi] at ok hd
  simp only [Bool.and_eq_true, decide_eq_true_eq] at ok
  rw [ok.1] at hd hp
  unfold mx_sAstore at hs
  split at hs
  · rename_i x s'
    split at hs
    · rename_i loc' hv
      cases mx_go_eq hs
      exact fun H locs ls hR hS hL => lv_astore_n hx hb hd ok.2 hL.lv (by rw [← hL.2.1]; exact mx_sv_lt hv) rfl (fun ls' hl' => mx_nx hp K hR hS (hL.st hv hl'))
    · cases hs
  · rename_i s'
    split at hs
    · rename_i loc' hv
      cases mx_go_eq hs
      exact fun H locs ls hR hS hL => lv_astore_nN hx hb hd ok.2 hL.lv (by rw [← hL.2.1]; exact mx_sv_lt hv) rfl (fun ls' hl' => mx_nx hp K hR hS (hL.st hv hl'))
    · cases hs
  · cases hs
theorem mx_s_astore (C : mx_Cx p s m args meth c R D B ρ cs M sc) {n : Nat} (hi : i.2.1 = .astore n) (hd : decode M.2.2.1 i.1 = .ok (i.2.1, i.2.2.1)) (ok : mx_okO M i = true) (hp : mx_pc r = i.1 + i.2.2.1) (hs : mx_sAstore i r loc st h k z = some (.inl c')) (K : mx_Sim p l e R s m args below meth c Q D B ρ cs M c') : mx_Sim p l e R s m args below meth c Q D B ρ cs M (i :: r, loc, st, h, k, z) := by
  obtain ⟨hx, hb, hml, hown, hts, hK, hnm, hRm, hρ, hBs, hsc, hsx⟩ := C
  unfold mx_okO at ok
  rw [hi] at ok hd
  simp only [Bool.and_eq_true, decide_eq_true_eq] at ok
  rw [ok.1] at hd hp
  rw [ok.2] at hd
  unfold mx_sAstore at hs
  split at hs
  · rename_i x s'
    split at hs
    · rename_i loc' hv
      cases mx_go_eq hs
      exact fun H locs ls hR hS hL => lv_astore hx hb hd hL.lv (by rw [← hL.2.1]; exact mx_sv_lt hv) rfl (fun ls' hl' => mx_nx hp K hR hS (hL.st hv hl'))
    · cases hs
  · rename_i s'
    split at hs
    · rename_i loc' hv
      cases mx_go_eq hs
      exact fun H locs ls hR hS hL => lv_astoreN hx hb hd hL.lv (by rw [← hL.2.1]; exact mx_sv_lt hv) rfl (fun ls' hl' => mx_nx hp K hR hS (hL.st hv hl'))
    · cases hs
  · cases hs
theorem mx_s_lstore_n (C : mx_Cx p s m args meth c R D B ρ cs M sc) {n : Fin 4} (hi : i.2.1 = .lstore_n n) (hd : decode M.2.2.1 i.1 = .ok (i.2.1, i.2.2.1)) (ok : mx_okO M i = true) (hp : mx_pc r = i.1 + i.2.2.1) (hs : mx_sLstore i r loc st h k z = some (.inl c')) (K : mx_Sim p l e R s m args below meth c Q D B ρ cs M c') : mx_Sim p l e R s m args below meth c Q D B ρ cs M (i :: r, loc, st, h, k, z) := by
  obtain ⟨hx, hb, hml, hown, hts, hK, hnm, hRm, hρ, hBs, hsc, hsx⟩ := C
  unfold mx_okO at ok
  rw [hi] at ok hd
  simp only [Bool.and_eq_true, decide_eq_true_eq] at ok
  rw [ok.1] at hd hp
  unfold mx_sLstore at hs
  split at hs
  · rename_i x s'
    split at hs
    · rename_i loc' hv
      cases mx_go_eq hs
      exact fun H locs ls hR hS hL => lv_lstore_n hx hb hd ok.2 hL.lv (by rw [← hL.2.1]; exact mx_sv2_lt hv) rfl (fun ls' hl' => mx_nx hp K hR hS (hL.st2 hv hl'))
    · cases hs
  · cases hs
theorem mx_s_lstore (C : mx_Cx p s m args meth c R D B ρ cs M sc) {n : Nat} (hi : i.2.1 = .lstore n) (hd : decode M.2.2.1 i.1 = .ok (i.2.1, i.2.2.1)) (ok : mx_okO M i = true) (hp : mx_pc r = i.1 + i.2.2.1) (hs : mx_sLstore i r loc st h k z = some (.inl c')) (K : mx_Sim p l e R s m args below meth c Q D B ρ cs M c') : mx_Sim p l e R s m args below meth c Q D B ρ cs M (i :: r, loc, st, h, k, z) := by
  obtain ⟨hx, hb, hml, hown, hts, hK, hnm, hRm, hρ, hBs, hsc, hsx⟩ := C
  unfold mx_okO at ok
  rw [hi] at ok hd
  simp only [Bool.and_eq_true, decide_eq_true_eq] at ok
  rw [ok.1] at hd hp
  rw [ok.2] at hd
  unfold mx_sLstore at hs
  split at hs
  · rename_i x s'
    split at hs
    · rename_i loc' hv
      cases mx_go_eq hs
      exact fun H locs ls hR hS hL => lv_lstore hx hb hd hL.lv (by rw [← hL.2.1]; exact mx_sv2_lt hv) rfl (fun ls' hl' => mx_nx hp K hR hS (hL.st2 hv hl'))
    · cases hs
  · cases hs
theorem mx_s_iinc (C : mx_Cx p s m args meth c R D B ρ cs M sc) {n : Nat} {d : Int} (hi : i.2.1 = .iinc n d) (hd : decode M.2.2.1 i.1 = .ok (i.2.1, i.2.2.1)) (ok : mx_okO M i = true) (hp : mx_pc r = i.1 + i.2.2.1) (hs : mx_sIinc i r loc st h k z = some (.inl c')) (K : mx_Sim p l e R s m args below meth c Q D B ρ cs M c') : mx_Sim p l e R s m args below meth c Q D B ρ cs M (i :: r, loc, st, h, k, z) := by
  obtain ⟨hx, hb, hml, hown, hts, hK, hnm, hRm, hρ, hBs, hsc, hsx⟩ := C
  unfold mx_okO at ok
  rw [hi] at ok hd
  simp only [Bool.and_eq_true, decide_eq_true_eq] at ok
  obtain ⟨⟨ok1, ok2⟩, ok3⟩ := ok
  rw [ok1] at hd hp
  rw [ok2] at hd
  unfold mx_sIinc at hs
  split at hs
  · rename_i x hv
    split at hs
    · rename_i loc' hv'
      cases mx_go_eq hs
      exact fun H locs ls hR hS hL => lv_iinc (k := 0) hx hb hd (hL.dup hv) rfl (by rw [ok3]) (by rw [← hL.2.1]; exact mx_sv_lt hv') rfl (fun ls' hl' => mx_nx hp K hR hS (hL.st hv' (by rw [← mx_filter_dup (x := mx_rv ρ (.int x))]; exact hl')))
    · cases hs
  · cases hs
theorem mx_s_iadd (C : mx_Cx p s m args meth c R D B ρ cs M sc) (hi : i.2.1 = .iadd) (hd : decode M.2.2.1 i.1 = .ok (i.2.1, i.2.2.1)) (ok : mx_okO M i = true) (hp : mx_pc r = i.1 + i.2.2.1) (hs : mx_sB r loc st h k z (fun x y => x + y) = some (.inl c')) (K : mx_Sim p l e R s m args below meth c Q D B ρ cs M c') : mx_Sim p l e R s m args below meth c Q D B ρ cs M (i :: r, loc, st, h, k, z) := by
  obtain ⟨hx, hb, hml, hown, hts, hK, hnm, hRm, hρ, hBs, hsc, hsx⟩ := C
  unfold mx_okO at ok
  rw [hi] at ok hd
  simp only [Bool.and_eq_true, decide_eq_true_eq] at ok
  rw [ok] at hd hp
  unfold mx_sB at hs
  split at hs
  · cases mx_go_eq hs
    exact fun H locs ls hR hS hL => lv_iadd hx hb hd (mx_nx hp K hR hS hL)
  · cases hs
theorem mx_s_isub (C : mx_Cx p s m args meth c R D B ρ cs M sc) (hi : i.2.1 = .isub) (hd : decode M.2.2.1 i.1 = .ok (i.2.1, i.2.2.1)) (ok : mx_okO M i = true) (hp : mx_pc r = i.1 + i.2.2.1) (hs : mx_sB r loc st h k z (fun x y => x - y) = some (.inl c')) (K : mx_Sim p l e R s m args below meth c Q D B ρ cs M c') : mx_Sim p l e R s m args below meth c Q D B ρ cs M (i :: r, loc, st, h, k, z) := by
  obtain ⟨hx, hb, hml, hown, hts, hK, hnm, hRm, hρ, hBs, hsc, hsx⟩ := C
  unfold mx_okO at ok
  rw [hi] at ok hd
  simp only [Bool.and_eq_true, decide_eq_true_eq] at ok
  rw [ok] at hd hp
  unfold mx_sB at hs
  split at hs
  · cases mx_go_eq hs
    exact fun H locs ls hR hS hL => lv_isub hx hb hd (mx_nx hp K hR hS hL)
  · cases hs
theorem mx_s_imul (C : mx_Cx p s m args meth c R D B ρ cs M sc) (hi : i.2.1 = .imul) (hd : decode M.2.2.1 i.1 = .ok (i.2.1, i.2.2.1)) (ok : mx_okO M i = true) (hp : mx_pc r = i.1 + i.2.2.1) (hs : mx_sB r loc st h k z (fun x y => x * y) = some (.inl c')) (K : mx_Sim p l e R s m args below meth c Q D B ρ cs M c') : mx_Sim p l e R s m args below meth c Q D B ρ cs M (i :: r, loc, st, h, k, z) := by
  obtain ⟨hx, hb, hml, hown, hts, hK, hnm, hRm, hρ, hBs, hsc, hsx⟩ := C
  unfold mx_okO at ok
  rw [hi] at ok hd
  simp only [Bool.and_eq_true, decide_eq_true_eq] at ok
  rw [ok] at hd hp
  unfold mx_sB at hs
  split at hs
  · cases mx_go_eq hs
    exact fun H locs ls hR hS hL => lv_imul hx hb hd (mx_nx hp K hR hS hL)
  · cases hs
theorem mx_s_iand (C : mx_Cx p s m args meth c R D B ρ cs M sc) (hi : i.2.1 = .iand) (hd : decode M.2.2.1 i.1 = .ok (i.2.1, i.2.2.1)) (ok : mx_okO M i = true) (hp : mx_pc r = i.1 + i.2.2.1) (hs : mx_sB r loc st h k z (fun x y => x &&& y) = some (.inl c')) (K : mx_Sim p l e R s m args below meth c Q D B ρ cs M c') : mx_Sim p l e R s m args below meth c Q D B ρ cs M (i :: r, loc, st, h, k, z) := by
  obtain ⟨hx, hb, hml, hown, hts, hK, hnm, hRm, hρ, hBs, hsc, hsx⟩ := C
  unfold mx_okO at ok
  rw [hi] at ok hd
  simp only [Bool.and_eq_true, decide_eq_true_eq] at ok
  rw [ok] at hd hp
  unfold mx_sB at hs
  split at hs
  · cases mx_go_eq hs
    exact fun H locs ls hR hS hL => lv_iand hx hb hd (mx_nx hp K hR hS hL)
  · cases hs
theorem mx_s_ior (C : mx_Cx p s m args meth c R D B ρ cs M sc) (hi : i.2.1 = .ior) (hd : decode M.2.2.1 i.1 = .ok (i.2.1, i.2.2.1)) (ok : mx_okO M i = true) (hp : mx_pc r = i.1 + i.2.2.1) (hs : mx_sB r loc st h k z (fun x y => x ||| y) = some (.inl c')) (K : mx_Sim p l e R s m args below meth c Q D B ρ cs M c') : mx_Sim p l e R s m args below meth c Q D B ρ cs M (i :: r, loc, st, h, k, z) := by
  obtain ⟨hx, hb, hml, hown, hts, hK, hnm, hRm, hρ, hBs, hsc, hsx⟩ := C
  unfold mx_okO at ok
  rw [hi] at ok hd
  simp only [Bool.and_eq_true, decide_eq_true_eq] at ok
  rw [ok] at hd hp
  unfold mx_sB at hs
  split at hs
  · cases mx_go_eq hs
    exact fun H locs ls hR hS hL => lv_ior hx hb hd (mx_nx hp K hR hS hL)
  · cases hs
theorem mx_s_ixor (C : mx_Cx p s m args meth c R D B ρ cs M sc) (hi : i.2.1 = .ixor) (hd : decode M.2.2.1 i.1 = .ok (i.2.1, i.2.2.1)) (ok : mx_okO M i = true) (hp : mx_pc r = i.1 + i.2.2.1) (hs : mx_sB r loc st h k z (fun x y => x ^^^ y) = some (.inl c')) (K : mx_Sim p l e R s m args below meth c Q D B ρ cs M c') : mx_Sim p l e R s m args below meth c Q D B ρ cs M (i :: r, loc, st, h, k, z) := by
  obtain ⟨hx, hb, hml, hown, hts, hK, hnm, hRm, hρ, hBs, hsc, hsx⟩ := C
  unfold mx_okO at ok
  rw [hi] at ok hd
  simp only [Bool.and_eq_true, decide_eq_true_eq] at ok
  rw [ok] at hd hp
  unfold mx_sB at hs
  split at hs
  · cases mx_go_eq hs
    exact fun H locs ls hR hS hL => lv_ixor hx hb hd (mx_nx hp K hR hS hL)
  · cases hs
theorem mx_s_ishl (C : mx_Cx p s m args meth c R D B ρ cs M sc) (hi : i.2.1 = .ishl) (hd : decode M.2.2.1 i.1 = .ok (i.2.1, i.2.2.1)) (ok : mx_okO M i = true) (hp : mx_pc r = i.1 + i.2.2.1) (hs : mx_sB r loc st h k z (fun x y => x <<< (y &&& 31)) = some (.inl c')) (K : mx_Sim p l e R s m args below meth c Q D B ρ cs M c') : mx_Sim p l e R s m args below meth c Q D B ρ cs M (i :: r, loc, st, h, k, z) := by
  obtain ⟨hx, hb, hml, hown, hts, hK, hnm, hRm, hρ, hBs, hsc, hsx⟩ := C
  unfold mx_okO at ok
  rw [hi] at ok hd
  simp only [Bool.and_eq_true, decide_eq_true_eq] at ok
  rw [ok] at hd hp
  unfold mx_sB at hs
  split at hs
  · cases mx_go_eq hs
    exact fun H locs ls hR hS hL => lv_ishl hx hb hd (mx_nx hp K hR hS hL)
  · cases hs
theorem mx_s_ishr (C : mx_Cx p s m args meth c R D B ρ cs M sc) (hi : i.2.1 = .ishr) (hd : decode M.2.2.1 i.1 = .ok (i.2.1, i.2.2.1)) (ok : mx_okO M i = true) (hp : mx_pc r = i.1 + i.2.2.1) (hs : mx_sB r loc st h k z (fun x y => x >>> (y &&& 31)) = some (.inl c')) (K : mx_Sim p l e R s m args below meth c Q D B ρ cs M c') : mx_Sim p l e R s m args below meth c Q D B ρ cs M (i :: r, loc, st, h, k, z) := by
  obtain ⟨hx, hb, hml, hown, hts, hK, hnm, hRm, hρ, hBs, hsc, hsx⟩ := C
  unfold mx_okO at ok
  rw [hi] at ok hd
  simp only [Bool.and_eq_true, decide_eq_true_eq] at ok
  rw [ok] at hd hp
  unfold mx_sB at hs
  split at hs
  · cases mx_go_eq hs
    exact fun H locs ls hR hS hL => lv_ishr hx hb hd (mx_nx hp K hR hS hL)
  · cases hs
theorem mx_s_ladd (C : mx_Cx p s m args meth c R D B ρ cs M sc) (hi : i.2.1 = .ladd) (hd : decode M.2.2.1 i.1 = .ok (i.2.1, i.2.2.1)) (ok : mx_okO M i = true) (hp : mx_pc r = i.1 + i.2.2.1) (hs : mx_sL r loc st h k z (fun x y => x + y) = some (.inl c')) (K : mx_Sim p l e R s m args below meth c Q D B ρ cs M c') : mx_Sim p l e R s m args below meth c Q D B ρ cs M (i :: r, loc, st, h, k, z) := by
  obtain ⟨hx, hb, hml, hown, hts, hK, hnm, hRm, hρ, hBs, hsc, hsx⟩ := C
  unfold mx_okO at ok
  rw [hi] at ok hd
  simp only [Bool.and_eq_true, decide_eq_true_eq] at ok
  rw [ok] at hd hp
  unfold mx_sL at hs
  split at hs
  · cases mx_go_eq hs
    exact fun H locs ls hR hS hL => lv_ladd hx hb hd (mx_nx hp K hR hS hL)
  · cases hs
theorem mx_s_lmul (C : mx_Cx p s m args meth c R D B ρ cs M sc) (hi : i.2.1 = .lmul) (hd : decode M.2.2.1 i.1 = .ok (i.2.1, i.2.2.1)) (ok : mx_okO M i = true) (hp : mx_pc r = i.1 + i.2.2.1) (hs : mx_sL r loc st h k z (fun x y => x * y) = some (.inl c')) (K : mx_Sim p l e R s m args below meth c Q D B ρ cs M c') : mx_Sim p l e R s m args below meth c Q D B ρ cs M (i :: r, loc, st, h, k, z) := by
  obtain ⟨hx, hb, hml, hown, hts, hK, hnm, hRm, hρ, hBs, hsc, hsx⟩ := C
  unfold mx_okO at ok
  rw [hi] at ok hd
  simp only [Bool.and_eq_true, decide_eq_true_eq] at ok
  rw [ok] at hd hp
  unfold mx_sL at hs
  split at hs
  · cases mx_go_eq hs
    exact fun H locs ls hR hS hL => lv_lmul hx hb hd (mx_nx hp K hR hS hL)
  · cases hs
theorem mx_s_idiv (C : mx_Cx p s m args meth c R D B ρ cs M sc) (hi : i.2.1 = .idiv) (hd : decode M.2.2.1 i.1 = .ok (i.2.1, i.2.2.1)) (ok : mx_okO M i = true) (hp : mx_pc r = i.1 + i.2.2.1) (hs : mx_sBd r loc st h k z (fun x y => x / y) = some (.inl c')) (K : mx_Sim p l e R s m args below meth c Q D B ρ cs M c') : mx_Sim p l e R s m args below meth c Q D B ρ cs M (i :: r, loc, st, h, k, z) := by
  obtain ⟨hx, hb, hml, hown, hts, hK, hnm, hRm, hρ, hBs, hsc, hsx⟩ := C
  unfold mx_okO at ok
  rw [hi] at ok hd
  simp only [Bool.and_eq_true, decide_eq_true_eq] at ok
  rw [ok] at hd hp
  unfold mx_sBd at hs
  split at hs
  · split at hs
    · cases hs
    · rename_i hne
      cases mx_go_eq hs
      exact fun H locs ls hR hS hL => lv_idiv hx hb hd hne (mx_nx hp K hR hS hL)
  · cases hs
theorem mx_s_irem (C : mx_Cx p s m args meth c R D B ρ cs M sc) (hi : i.2.1 = .irem) (hd : decode M.2.2.1 i.1 = .ok (i.2.1, i.2.2.1)) (ok : mx_okO M i = true) (hp : mx_pc r = i.1 + i.2.2.1) (hs : mx_sBd r loc st h k z (fun x y => x - x / y * y) = some (.inl c')) (K : mx_Sim p l e R s m args below meth c Q D B ρ cs M c') : mx_Sim p l e R s m args below meth c Q D B ρ cs M (i :: r, loc, st, h, k, z) := by
  obtain ⟨hx, hb, hml, hown, hts, hK, hnm, hRm, hρ, hBs, hsc, hsx⟩ := C
  unfold mx_okO at ok
  rw [hi] at ok hd
  simp only [Bool.and_eq_true, decide_eq_true_eq] at ok
  rw [ok] at hd hp
  unfold mx_sBd at hs
  split at hs
  · split at hs
    · cases hs
    · rename_i hne
      cases mx_go_eq hs
      exact fun H locs ls hR hS hL => lv_irem hx hb hd hne (mx_nx hp K hR hS hL)
  · cases hs
theorem mx_s_ldiv (C : mx_Cx p s m args meth c R D B ρ cs M sc) (hi : i.2.1 = .ldiv) (hd : decode M.2.2.1 i.1 = .ok (i.2.1, i.2.2.1)) (ok : mx_okO M i = true) (hp : mx_pc r = i.1 + i.2.2.1) (hs : mx_sLd r loc st h k z (fun x y => x / y) = some (.inl c')) (K : mx_Sim p l e R s m args below meth c Q D B ρ cs M c') : mx_Sim p l e R s m args below meth c Q D B ρ cs M (i :: r, loc, st, h, k, z) := by
  obtain ⟨hx, hb, hml, hown, hts, hK, hnm, hRm, hρ, hBs, hsc, hsx⟩ := C
  unfold mx_okO at ok
  rw [hi] at ok hd
  simp only [Bool.and_eq_true, decide_eq_true_eq] at ok
  rw [ok] at hd hp
  unfold mx_sLd at hs
  split at hs
  · split at hs
    · cases hs
    · rename_i hne
      cases mx_go_eq hs
      exact fun H locs ls hR hS hL => lv_ldiv hx hb hd hne (mx_nx hp K hR hS hL)
  · cases hs
theorem mx_s_lrem (C : mx_Cx p s m args meth c R D B ρ cs M sc) (hi : i.2.1 = .lrem) (hd : decode M.2.2.1 i.1 = .ok (i.2.1, i.2.2.1)) (ok : mx_okO M i = true) (hp : mx_pc r = i.1 + i.2.2.1) (hs : mx_sLd r loc st h k z (fun x y => x - x / y * y) = some (.inl c')) (K : mx_Sim p l e R s m args below meth c Q D B ρ cs M c') : mx_Sim p l e R s m args below meth c Q D B ρ cs M (i :: r, loc, st, h, k, z) := by
  obtain ⟨hx, hb, hml, hown, hts, hK, hnm, hRm, hρ, hBs, hsc, hsx⟩ := C
  unfold mx_okO at ok
  rw [hi] at ok hd
  simp only [Bool.and_eq_true, decide_eq_true_eq] at ok
  rw [ok] at hd hp
  unfold mx_sLd at hs
  split at hs
  · split at hs
    · cases hs
    · rename_i hne
      cases mx_go_eq hs
      exact fun H locs ls hR hS hL => lv_lrem hx hb hd hne (mx_nx hp K hR hS hL)
  · cases hs
theorem mx_s_i2l (C : mx_Cx p s m args meth c R D B ρ cs M sc) (hi : i.2.1 = .i2l) (hd : decode M.2.2.1 i.1 = .ok (i.2.1, i.2.2.1)) (ok : mx_okO M i = true) (hp : mx_pc r = i.1 + i.2.2.1) (hs : mx_sI2l r loc st h k z = some (.inl c')) (K : mx_Sim p l e R s m args below meth c Q D B ρ cs M c') : mx_Sim p l e R s m args below meth c Q D B ρ cs M (i :: r, loc, st, h, k, z) := by
  obtain ⟨hx, hb, hml, hown, hts, hK, hnm, hRm, hρ, hBs, hsc, hsx⟩ := C
  unfold mx_okO at ok
  rw [hi] at ok hd
  simp only [Bool.and_eq_true, decide_eq_true_eq] at ok
  rw [ok] at hd hp
  unfold mx_sI2l at hs
  split at hs
  · cases mx_go_eq hs
    exact fun H locs ls hR hS hL => lv_i2l hx hb hd rfl (mx_nx hp K hR hS hL)
  · cases hs
theorem mx_s_l2i (C : mx_Cx p s m args meth c R D B ρ cs M sc) (hi : i.2.1 = .l2i) (hd : decode M.2.2.1 i.1 = .ok (i.2.1, i.2.2.1)) (ok : mx_okO M i = true) (hp : mx_pc r = i.1 + i.2.2.1) (hs : mx_sL2i r loc st h k z = some (.inl c')) (K : mx_Sim p l e R s m args below meth c Q D B ρ cs M c') : mx_Sim p l e R s m args below meth c Q D B ρ cs M (i :: r, loc, st, h, k, z) := by
  obtain ⟨hx, hb, hml, hown, hts, hK, hnm, hRm, hρ, hBs, hsc, hsx⟩ := C
  unfold mx_okO at ok
  rw [hi] at ok hd
  simp only [Bool.and_eq_true, decide_eq_true_eq] at ok
  rw [ok] at hd hp
  unfold mx_sL2i at hs
  split at hs
  · cases mx_go_eq hs
    exact fun H locs ls hR hS hL => lv_l2i hx hb hd rfl (mx_nx hp K hR hS hL)
  · cases hs
theorem mx_c1_cat {v : Value} (h : mx_c1 v = true) : (mx_rv ρ v).category = 1 := by
  cases v <;> first | rfl | cases h
theorem mx_s_dup (C : mx_Cx p s m args meth c R D B ρ cs M sc) (hi : i.2.1 = .dup) (hd : decode M.2.2.1 i.1 = .ok (i.2.1, i.2.2.1)) (ok : mx_okO M i = true) (hp : mx_pc r = i.1 + i.2.2.1) (hs : mx_sDup r loc st h k z = some (.inl c')) (K : mx_Sim p l e R s m args below meth c Q D B ρ cs M c') : mx_Sim p l e R s m args below meth c Q D B ρ cs M (i :: r, loc, st, h, k, z) := by
  obtain ⟨hx, hb, hml, hown, hts, hK, hnm, hRm, hρ, hBs, hsc, hsx⟩ := C
  unfold mx_okO at ok
  rw [hi] at ok hd
  simp only [Bool.and_eq_true, decide_eq_true_eq] at ok
  rw [ok] at hd hp
  unfold mx_sDup at hs
  split at hs
  · split at hs
    · rename_i hv
      cases mx_go_eq hs
      exact fun H locs ls hR hS hL => lv_dup hx hb hd (mx_c1_cat hv) (mx_nx hp K hR hS hL)
    · cases hs
  · cases hs
theorem mx_s_dup2 (C : mx_Cx p s m args meth c R D B ρ cs M sc) (hi : i.2.1 = .dup2) (hd : decode M.2.2.1 i.1 = .ok (i.2.1, i.2.2.1)) (ok : mx_okO M i = true) (hp : mx_pc r = i.1 + i.2.2.1) (hs : mx_sDup2 r loc st h k z = some (.inl c')) (K : mx_Sim p l e R s m args below meth c Q D B ρ cs M c') : mx_Sim p l e R s m args below meth c Q D B ρ cs M (i :: r, loc, st, h, k, z) := by
  obtain ⟨hx, hb, hml, hown, hts, hK, hnm, hRm, hρ, hBs, hsc, hsx⟩ := C
  unfold mx_okO at ok
  rw [hi] at ok hd
  simp only [Bool.and_eq_true, decide_eq_true_eq] at ok
  rw [ok] at hd hp
  unfold mx_sDup2 at hs
  split at hs
  · split at hs
    · rename_i hv
      cases mx_go_eq hs
      exact fun H locs ls hR hS hL => lv_dup2_11 hx hb hd (mx_c1_cat hv.1) (mx_c1_cat hv.2) (mx_nx hp K hR hS hL)
    · cases hs
  · cases hs
theorem mx_s_pop (C : mx_Cx p s m args meth c R D B ρ cs M sc) (hi : i.2.1 = .pop) (hd : decode M.2.2.1 i.1 = .ok (i.2.1, i.2.2.1)) (ok : mx_okO M i = true) (hp : mx_pc r = i.1 + i.2.2.1) (hs : mx_sPop r loc st h k z = some (.inl c')) (K : mx_Sim p l e R s m args below meth c Q D B ρ cs M c') : mx_Sim p l e R s m args below meth c Q D B ρ cs M (i :: r, loc, st, h, k, z) := by
  obtain ⟨hx, hb, hml, hown, hts, hK, hnm, hRm, hρ, hBs, hsc, hsx⟩ := C
  unfold mx_okO at ok
  rw [hi] at ok hd
  simp only [Bool.and_eq_true, decide_eq_true_eq] at ok
  rw [ok] at hd hp
  unfold mx_sPop at hs
  split at hs
  · split at hs
    · rename_i hv
      cases mx_go_eq hs
      exact fun H locs ls hR hS hL => lv_pop hx hb hd (mx_c1_cat hv) (mx_nx hp K hR hS hL)
    · cases hs
  · cases hs
theorem mx_s_goto (C : mx_Cx p s m args meth c R D B ρ cs M sc) (hB : mx_okB M = true) {off : Int} (hi : i.2.1 = .goto off) (hd : decode M.2.2.1 i.1 = .ok (i.2.1, i.2.2.1)) (ok : mx_okO M i = true) (hs : mx_jp M loc st h k z i.2.2.2.1 = some (.inl c')) (K : mx_Sim p l e R s m args below meth c Q D B ρ cs M c') : mx_Sim p l e R s m args below meth c Q D B ρ cs M (i :: r, loc, st, h, k, z) := by
  obtain ⟨hx, hb, hml, hown, hts, hK, hnm, hRm, hρ, hBs, hsc, hsx⟩ := C
  unfold mx_okO mx_okJ at ok
  rw [hi] at ok hd
  simp only [Bool.and_eq_true, decide_eq_true_eq] at ok
  rw [ok.1] at hd
  cases mx_jp_eq hs
  exact fun H locs ls hR hS hL => lv_goto hx hb hd ok.2.1 (mx_jx hB ok.2.2 K hR hS hL)
theorem mx_s_icmp (C : mx_Cx p s m args meth c R D B ρ cs M sc) (hB : mx_okB M = true) {q : ClassFile.Cond} {off : Int} (hi : i.2.1 = .if_icmp q off) (hd : decode M.2.2.1 i.1 = .ok (i.2.1, i.2.2.1)) (ok : mx_okO M i = true) (hp : mx_pc r = i.1 + i.2.2.1) (hs : mx_sIcmp M i r loc st h k z q = some (.inl c')) (K : mx_Sim p l e R s m args below meth c Q D B ρ cs M c') : mx_Sim p l e R s m args below meth c Q D B ρ cs M (i :: r, loc, st, h, k, z) := by
  obtain ⟨hx, hb, hml, hown, hts, hK, hnm, hRm, hρ, hBs, hsc, hsx⟩ := C
  unfold mx_okO mx_okJ at ok
  rw [hi] at ok hd
  simp only [Bool.and_eq_true, decide_eq_true_eq] at ok
  rw [ok.1] at hd hp
  unfold mx_sIcmp at hs
  split at hs
  · cases q <;> simp only [mx_cond, decide_eq_true_eq] at hs
    · refine fun H locs ls hR hS hL => lv_icmp_eq hx hb hd ok.2.1 (fun ht => ?_) (fun ht => ?_)
      · rw [if_pos ht] at hs
        cases mx_jp_eq hs
        exact mx_jx hB ok.2.2 K hR hS hL
      · rw [if_neg ht] at hs
        cases mx_go_eq hs
        exact mx_nx hp K hR hS hL
    · refine fun H locs ls hR hS hL => lv_icmp_ne hx hb hd ok.2.1 (fun ht => ?_) (fun ht => ?_)
      · rw [if_pos ht] at hs
        cases mx_jp_eq hs
        exact mx_jx hB ok.2.2 K hR hS hL
      · rw [if_neg (fun z => z ht)] at hs
        cases mx_go_eq hs
        exact mx_nx hp K hR hS hL
    · refine fun H locs ls hR hS hL => lv_icmp_lt hx hb hd ok.2.1 (fun ht => ?_) (fun ht => ?_)
      · rw [if_pos ht] at hs
        cases mx_jp_eq hs
        exact mx_jx hB ok.2.2 K hR hS hL
      · rw [if_neg ht] at hs
        cases mx_go_eq hs
        exact mx_nx hp K hR hS hL
    · refine fun H locs ls hR hS hL => lv_icmp_ge hx hb hd ok.2.1 (fun ht => ?_) (fun ht => ?_)
      · rw [if_pos ht] at hs
        cases mx_jp_eq hs
        exact mx_jx hB ok.2.2 K hR hS hL
      · rw [if_neg ht] at hs
        cases mx_go_eq hs
        exact mx_nx hp K hR hS hL
    · refine fun H locs ls hR hS hL => lv_icmp_gt hx hb hd ok.2.1 (fun ht => ?_) (fun ht => ?_)
      · rw [if_pos ht] at hs
        cases mx_jp_eq hs
        exact mx_jx hB ok.2.2 K hR hS hL
      · rw [if_neg ht] at hs
        cases mx_go_eq hs
        exact mx_nx hp K hR hS hL
    · refine fun H locs ls hR hS hL => lv_icmp_le hx hb hd ok.2.1 (fun ht => ?_) (fun ht => ?_)
      · rw [if_pos ht] at hs
        cases mx_jp_eq hs
        exact mx_jx hB ok.2.2 K hR hS hL
      · rw [if_neg ht] at hs
        cases mx_go_eq hs
        exact mx_nx hp K hR hS hL
  · cases hs
theorem mx_s_ifc (C : mx_Cx p s m args meth c R D B ρ cs M sc) (hB : mx_okB M = true) {q : ClassFile.Cond} {off : Int} (hi : i.2.1 = .ifCond q off) (hd : decode M.2.2.1 i.1 = .ok (i.2.1, i.2.2.1)) (ok : mx_okO M i = true) (hp : mx_pc r = i.1 + i.2.2.1) (hs : mx_sIf M i r loc st h k z q = some (.inl c')) (K : mx_Sim p l e R s m args below meth c Q D B ρ cs M c') : mx_Sim p l e R s m args below meth c Q D B ρ cs M (i :: r, loc, st, h, k, z) := by
  obtain ⟨hx, hb, hml, hown, hts, hK, hnm, hRm, hρ, hBs, hsc, hsx⟩ := C
  unfold mx_okO mx_okJ at ok
  rw [hi] at ok hd
  simp only [Bool.and_eq_true, decide_eq_true_eq] at ok
  rw [ok.1] at hd hp
  unfold mx_sIf at hs
  split at hs
  · cases q <;> simp only [mx_cond, decide_eq_true_eq] at hs
    · refine fun H locs ls hR hS hL => lv_if_eq hx hb hd ok.2.1 (fun ht => ?_) (fun ht => ?_)
      · rw [if_pos ht] at hs
        cases mx_jp_eq hs
        exact mx_jx hB ok.2.2 K hR hS hL
      · rw [if_neg ht] at hs
        cases mx_go_eq hs
        exact mx_nx hp K hR hS hL
    · refine fun H locs ls hR hS hL => lv_if_ne hx hb hd ok.2.1 (fun ht => ?_) (fun ht => ?_)
      · rw [if_pos ht] at hs
        cases mx_jp_eq hs
        exact mx_jx hB ok.2.2 K hR hS hL
      · rw [if_neg (fun z => z ht)] at hs
        cases mx_go_eq hs
        exact mx_nx hp K hR hS hL
    · refine fun H locs ls hR hS hL => lv_if_lt hx hb hd ok.2.1 (fun ht => ?_) (fun ht => ?_)
      · rw [if_pos ht] at hs
        cases mx_jp_eq hs
        exact mx_jx hB ok.2.2 K hR hS hL
      · rw [if_neg ht] at hs
        cases mx_go_eq hs
        exact mx_nx hp K hR hS hL
    · refine fun H locs ls hR hS hL => lv_if_ge hx hb hd ok.2.1 (fun ht => ?_) (fun ht => ?_)
      · rw [if_pos ht] at hs
        cases mx_jp_eq hs
        exact mx_jx hB ok.2.2 K hR hS hL
      · rw [if_neg ht] at hs
        cases mx_go_eq hs
        exact mx_nx hp K hR hS hL
    · refine fun H locs ls hR hS hL => lv_if_gt hx hb hd ok.2.1 (fun ht => ?_) (fun ht => ?_)
      · rw [if_pos ht] at hs
        cases mx_jp_eq hs
        exact mx_jx hB ok.2.2 K hR hS hL
      · rw [if_neg ht] at hs
        cases mx_go_eq hs
        exact mx_nx hp K hR hS hL
    · refine fun H locs ls hR hS hL => lv_if_le hx hb hd ok.2.1 (fun ht => ?_) (fun ht => ?_)
      · rw [if_pos ht] at hs
        cases mx_jp_eq hs
        exact mx_jx hB ok.2.2 K hR hS hL
      · rw [if_neg ht] at hs
        cases mx_go_eq hs
        exact mx_nx hp K hR hS hL
  · cases hs
theorem mx_s_ifnull (C : mx_Cx p s m args meth c R D B ρ cs M sc) (hB : mx_okB M = true) {off : Int} (hi : i.2.1 = .ifnull off) (hd : decode M.2.2.1 i.1 = .ok (i.2.1, i.2.2.1)) (ok : mx_okO M i = true) (hp : mx_pc r = i.1 + i.2.2.1) (hs : mx_sIfnull M i r loc st h k z = some (.inl c')) (K : mx_Sim p l e R s m args below meth c Q D B ρ cs M c') : mx_Sim p l e R s m args below meth c Q D B ρ cs M (i :: r, loc, st, h, k, z) := by
  obtain ⟨hx, hb, hml, hown, hts, hK, hnm, hRm, hρ, hBs, hsc, hsx⟩ := C
  unfold mx_okO mx_okJ at ok
  rw [hi] at ok hd
  simp only [Bool.and_eq_true, decide_eq_true_eq] at ok
  rw [ok.1] at hd hp
  unfold mx_sIfnull at hs
  split at hs
  · skip
    cases mx_jp_eq hs
    exact fun H locs ls hR hS hL => lv_ifnullN hx hb hd ok.2.1 (mx_jx hB ok.2.2 K hR hS hL)
  · skip
    cases mx_go_eq hs
    exact fun H locs ls hR hS hL => lv_ifnull hx hb hd (mx_nx hp K hR hS hL)
  · cases hs
theorem mx_s_ifnonnull (C : mx_Cx p s m args meth c R D B ρ cs M sc) (hB : mx_okB M = true) {off : Int} (hi : i.2.1 = .ifnonnull off) (hd : decode M.2.2.1 i.1 = .ok (i.2.1, i.2.2.1)) (ok : mx_okO M i = true) (hp : mx_pc r = i.1 + i.2.2.1) (hs : mx_sIfnn M i r loc st h k z = some (.inl c')) (K : mx_Sim p l e R s m args below meth c Q D B ρ cs M c') : mx_Sim p l e R s m args below meth c Q D B ρ cs M (i :: r, loc, st, h, k, z) := by
  obtain ⟨hx, hb, hml, hown, hts, hK, hnm, hRm, hρ, hBs, hsc, hsx⟩ := C
  unfold mx_okO mx_okJ at ok
  rw [hi] at ok hd
  simp only [Bool.and_eq_true, decide_eq_true_eq] at ok
  rw [ok.1] at hd hp
  unfold mx_sIfnn at hs
  split at hs
  · skip
    cases mx_jp_eq hs
    exact fun H locs ls hR hS hL => lv_ifnonnull hx hb hd ok.2.1 (mx_jx hB ok.2.2 K hR hS hL)
  · skip
    cases mx_go_eq hs
    exact fun H locs ls hR hS hL => lv_ifnonnullN hx hb hd (mx_nx hp K hR hS hL)
  · cases hs
end Sim
