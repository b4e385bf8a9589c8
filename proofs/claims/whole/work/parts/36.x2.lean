/-! the other side: standings -/
theorem and_bit {a w : Nat} : (a &&& 2 ^ w = 0) ↔ a.testBit w = false := by
  constructor
  · intro h
    have := congrArg (fun z => z.testBit w) h
    simpa [Nat.testBit_and, Nat.testBit_two_pow_self] using this
  · intro h
    apply Nat.eq_of_testBit_eq
    intro i
    by_cases hi : w = i
    · subst hi
      simp [Nat.testBit_and, h]
    · rw [Nat.testBit_and, Nat.testBit_two_pow_of_ne hi]
      simp
theorem nb_bit0 {a w : Nat} (ha : a < 2 ^ 31) : (nI a &&& nI (2 ^ w) = nI 0) ↔ a.testBit w = false := by
  rw [nb_and, nb_eq (by have := @Nat.and_le_left a (2 ^ w); omega) (by decide), and_bit]
section X2
variable {m m' : Nat → Nat → Int32} {r : Nat → Nat → Option Nat} {a c d n B k w i v : Nat} {f g : Nat → Nat} {b : Bo} {s : St} {x : Int32}
def SX (m : Nat → Nat → Int32) (a : Nat) (s : St) : Prop := RW m (a + 1) (sN s) (sW s) ∧ (∀ i, i < 2 → m (a + 3 + i) 0 = sD s i ∧ m (a + 3 + i) 1 = sG s i ∧ m (a + 3 + i) 2 = nI (sY s i)) ∧ m a 3 = nI (sC s) ∧ m a 4 = sT s ∧ m a 5 = sP s
theorem SX.congr (S : SX m a s) (h : ∀ c, a ≤ c → c ≤ a + 4 → m' c = m c) : SX m' a s := by
  refine ⟨S.1.congr (h _ (by omega) (by omega)) (h _ (by omega) (by omega)), fun i hi => ?_, ?_, ?_, ?_⟩
  · rw [h (a + 3 + i) (by omega) (by omega)]; exact S.2.1 i hi
  · rw [h a (by omega) (by omega)]; exact S.2.2.1
  · rw [h a (by omega) (by omega)]; exact S.2.2.2.1
  · rw [h a (by omega) (by omega)]; exact S.2.2.2.2
def isMy (c : Nat) : Prop := c < 130 ∧ (mx_lay c).1 = 7
theorem sgd (h : isSt a) : a < 130 ∧ (mx_lay a).1 = 12 := ⟨by have := st_ly h; omega, (st_ly h).2.1⟩
theorem sg (h : isSt a) (hf : mx_fk 9 k = 0 ∨ mx_fk 9 k = 2) : mx_gi (130, m, r) a 9 k = some (m a k) := hb_gi (sgd h).1 (sgd h).2 hf
theorem sp (h : isSt a) (hf : mx_fk 9 k = 0) (v : Int32) : mx_pi (130, m, r) a 9 k v = some (130, mx_up m a k v, r) := hb_pi (sgd h).1 (sgd h).2 hf v
theorem sr0 (H : XR r) (h : isSt a) : mx_gr (130, m, r) a 9 0 = some (a + 1) := hb_gr (sgd h).1 (sgd h).2 (by decide) (H.2.2.2.1 a h).1
theorem sr1 (H : XR r) (h : isSt a) : mx_gr (130, m, r) a 9 1 = some (a + 3) := hb_gr (sgd h).1 (sgd h).2 (by decide) (H.2.2.2.1 a h).2.2.1
theorem sr2 (H : XR r) (h : isSt a) : mx_gr (130, m, r) a 9 2 = some (a + 4) := hb_gr (sgd h).1 (sgd h).2 (by decide) (H.2.2.2.1 a h).2.2.2
theorem st_rw (H : XR r) (h : isSt a) : isRw r (a + 1) := ⟨by have := st_ly h; omega, (st_ly h).2.2.1, (st_ly h).2.2.2.1, (H.2.2.2.1 a h).2.1⟩
theorem st_my (h : isSt a) (hi : i < 2) : isMy (a + 3 + i) := by
  have q := st_ly h
  refine ⟨by omega, ?_⟩
  have : i = 0 ∨ i = 1 := by omega
  rcases this with rfl | rfl
  · exact q.2.2.2.2.1
  · exact q.2.2.2.2.2
theorem st_my0 (h : isSt a) : isMy (a + 3) := st_my (i := 0) h (by decide)
theorem st_my1 (h : isSt a) : isMy (a + 4) := st_my (i := 1) h (by decide)
theorem myd (h : isMy c) : c < 130 ∧ (mx_lay c).1 = 7 := h
theorem mg (h : isMy c) (hf : mx_fk 4 k = 0 ∨ mx_fk 4 k = 2) : mx_gi (130, m, r) c 4 k = some (m c k) := hb_gi h.1 h.2 hf
theorem mp (h : isMy c) (hf : mx_fk 4 k = 0) (v : Int32) : mx_pi (130, m, r) c 4 k v = some (130, mx_up m c k v, r) := hb_pi h.1 h.2 hf v
theorem st_mo (H : XR r) (h : isSt a) (hi : i < 2) : f_X9_mayorOf a (nI i) (130, m, r) = some (a + 3 + i) := by
  unfold f_X9_mayorOf
  simp only [nb_lit]
  have : i = 0 ∨ i = 1 := by omega
  rcases this with rfl | rfl
  · rw [if_neg (not_not_intro rfl), bnd (sr1 H h)]
    try rfl
  · rw [if_pos (n_ne (by decide) (by decide) (by decide)), bnd (sr2 H h)]
    try rfl
theorem st_om (H : XR r) (h : isSt a) (S : SX m a s) (hc : sC s < 2) : f_X9_otherMayor a (130, m, r) = some (a + 3 + (1 - sC s)) := by
  unfold f_X9_otherMayor
  simp only [nb_lit]
  rw [bnd (sg h (by decide)), S.2.2.1, if_pos (sgd h), nb_sub (by omega), bnd (st_mo H h (by omega))]
theorem my_copy (hc : isMy c) (hd : isMy d) (hn : c ≠ d) : ∃ m', f_X4_copyFrom c d (130, m, r) = some (130, m', r) ∧ (m' c 0 = m d 0 ∧ m' c 1 = m d 1 ∧ m' c 2 = m d 2) ∧ ∀ e, e ≠ c → m' e = m e := by
  refine ⟨mx_up (mx_up (mx_up m c 0 (m d 0)) c 1 (m d 1)) c 2 (m d 2), ?_, ⟨?_, ?_, ?_⟩, fun e he => ?_⟩
  · unfold f_X4_copyFrom
    rw [bnd (mg hd (by decide)), bnd (mp hc (by decide) _), bnd (mg hd (by decide)), bnd (mp hc (by decide) _), bnd (mg hd (by decide)), bnd (mp hc (by decide) _), hb_up_ne (by omega), hb_up_ne (by omega), hb_up_ne (by omega)]
  · rw [hb_up_ne (by omega), hb_up_ne (by omega), hb_up_same]
  · rw [hb_up_ne (by omega), hb_up_same]
  · rw [hb_up_same]
  · rw [up_ne he, up_ne he, up_ne he]
theorem st_copy (H : XR r) (ha : isSt a) (hc : isSt c) (hn : a ≠ c) (S : SX m c s) (hs : sN s ≤ 12) : ∃ m', f_X9_copyFrom a c (130, m, r) = some (130, m', r) ∧ SX m' a s ∧ ∀ d, (d < a ∨ a + 4 < d) → m' d = m d := by
  have hd := st_ne ha hc hn
  obtain ⟨m1, e1, R1, F1⟩ := rw_copy (st_rw H ha) (st_rw H hc) S.1 hs (by omega)
  obtain ⟨m2, e2, ⟨x1, x2, x3⟩, F2⟩ := my_copy (m := m1) (r := r) (st_my0 ha) (st_my0 hc) (by omega)
  obtain ⟨m3, e3, ⟨y1, y2, y3⟩, F3⟩ := my_copy (m := m2) (r := r) (st_my1 ha) (st_my1 hc) (by omega)
  have G3 : m3 c = m c := by rw [F3 c (by omega), F2 c (by omega), F1 c (by omega) (by omega)]
  refine ⟨mx_up (mx_up (mx_up m3 a 3 (m c 3)) a 4 (m c 4)) a 5 (m c 5), ?_, ⟨?_, fun i hi => ?_, ?_, ?_, ?_⟩, fun d hd' => ?_⟩
  · unfold f_X9_copyFrom
    rw [bnd (sr0 H ha), bnd (sr0 H hc), if_pos (rgd (st_rw H ha)), bnd e1, bnd (sr1 H ha), bnd (sr1 H hc), if_pos (myd (st_my0 ha)), bnd e2, bnd (sr2 H ha), bnd (sr2 H hc), if_pos (myd (st_my1 ha)), bnd e3, bnd (sg hc (by decide)), bnd (sp ha (by decide) _), bnd (sg hc (by decide)), bnd (sp ha (by decide) _), bnd (sg hc (by decide)), bnd (sp ha (by decide) _), hb_up_ne (by omega), hb_up_ne (by omega), hb_up_ne (by omega), G3]
  · refine R1.congr ?_ ?_
    · rw [up_ne (by omega), up_ne (by omega), up_ne (by omega), F3 _ (by omega), F2 _ (by omega)]
    · rw [up_ne (by omega), up_ne (by omega), up_ne (by omega), F3 _ (by omega), F2 _ (by omega)]
  · rw [up_ne (by omega), up_ne (by omega), up_ne (by omega)]
    have : i = 0 ∨ i = 1 := by omega
    rcases this with rfl | rfl
    · rw [Nat.add_zero, F3 _ (by omega), x1, x2, x3, F1 _ (by omega) (by omega)]
      exact S.2.1 0 (by decide)
    · rw [show a + 3 + 1 = a + 4 from rfl, y1, y2, y3, F2 _ (by omega), F1 _ (by omega) (by omega)]
      exact S.2.1 1 (by decide)
  · rw [hb_up_ne (by omega), hb_up_ne (by omega), hb_up_same]; exact S.2.2.1
  · rw [hb_up_ne (by omega), hb_up_same]; exact S.2.2.2.1
  · rw [hb_up_same]; exact S.2.2.2.2
  · rw [up_ne (by omega), up_ne (by omega), up_ne (by omega), F3 _ (by omega), F2 _ (by omega), F1 _ (by omega) (by omega)]
theorem st_last (H : XR r) (ha : isSt a) (S : SX m a s) (h0 : 0 < sN s) (hs : sN s ≤ 12) : f_X9_lastWord a (130, m, r) = some (nI (lastW s)) := by
  unfold f_X9_lastWord
  simp only [nb_lit]
  rw [bnd (sr0 H ha), bnd (sr0 H ha), bnd (rg_n (st_rw H ha)), S.1.1, if_pos (rgd (st_rw H ha)), nb_sub (by omega), bnd (rw_at (st_rw H ha) S.1 hs (by omega))]
  try rfl
theorem st_last0 (H : XR r) (ha : isSt a) (S : SX m a s) (h0 : sN s = 0) : f_X9_lastWord a (130, m, r) = some (-nI 4) := by
  unfold f_X9_lastWord
  simp only [nb_lit]
  rw [bnd (sr0 H ha), bnd (sr0 H ha), bnd (rg_n (st_rw H ha)), S.1.1, if_pos (rgd (st_rw H ha)), bnd (rw_out (st_rw H ha) S.1 (Or.inl (by rw [h0]; decide)))]
  try rfl
theorem neg4 {n : Nat} : (-nI 4 : Int32) < 0 ∨ nI n ≤ -nI 4 := Or.inl (by decide)
theorem st_fits (H : XR r) (hB : isB B) (R : BR m B b) (W : WFb b) (ha : isSt a) (S : SX m a s) (F : WFs (bN b) s) (hw : w < bN b) : f_X9_fits a B (nI w) (130, m, r) = some (if fitsW b s w = true then nI 1 else nI 0) := by
  have hn := W.1
  have hs := F.1
  unfold f_X9_fits fitsW
  simp only [nb_lit]
  rw [bnd (sr0 H ha), bnd (rg_n (st_rw H ha)), S.1.1]
  by_cases h0 : sN s = 0
  · rw [if_pos (by rw [h0]), Option.bind_some, if_pos (Or.inr rfl), if_pos (by simp [h0])]
  · have hl := wf_l F (by omega)
    have hE := wf_E2 W hl
    rw [if_neg (n_ne h0 (by omega) (by decide)), if_pos (sgd ha), bnd (st_last H ha S (by omega) hs), if_pos (bgd hB), bnd (bo_behind H hB R W hl), bnd (bo_bit (by omega) _)]
    by_cases hb : (bE b (lastW s)).testBit w = true
    · rw [if_neg (fun q => by rw [nb_bit0 (by omega), hb] at q; cases q), Option.bind_some, if_pos (Or.inr rfl), if_pos (by simp [hb])]
    · rw [if_pos (by rw [nb_bit0 (by omega)]; simpa using hb), Option.bind_some, if_pos (Or.inl rfl), if_neg (by simp [hb, h0])]
theorem st_endable (H : XR r) (hB : isB B) (R : BR m B b) (W : WFb b) (ha : isSt a) (S : SX m a s) (F : WFs (bN b) s) : f_X9_isEndable a B (130, m, r) = some (if mayEnd b s = true then nI 1 else nI 0) := by
  have hn := W.1
  have hs := F.1
  unfold f_X9_isEndable mayEnd
  simp only [nb_lit]
  rw [if_pos (sgd ha)]
  by_cases h0 : sN s = 0
  · rw [bnd (st_last0 H ha S h0), if_pos (bgd hB), bnd (bo_nkind hB R neg4), if_pos (by decide), Option.bind_some, if_pos (Or.inl rfl), if_neg (by simp [h0])]
  · have hl := wf_l F (by omega)
    have hK := wf_K W hl
    rw [bnd (st_last H ha S (by omega) hs), if_pos (bgd hB), bnd (bo_kind H hB R W hl)]
    by_cases hk : bK b (lastW s) = 2
    · rw [if_neg (not_not_intro (by rw [hk])), Option.bind_some, if_pos (Or.inr rfl), if_pos (by simp [hk]; omega)]
    · rw [if_pos (n_ne hk (by omega) (by decide)), Option.bind_some, if_pos (Or.inl rfl), if_neg (by simp [hk])]
/-- the words that the other may say -/
def sayS (b : Bo) (s : St) : Nat := if sN s = 0 then sY s (1 - sC s) else knF b s (sW s 0)
theorem sayS_lt2 (F : WFs (bN b) s) : sayS b s < 2 ^ bN b := by
  unfold sayS
  split
  · exact F.2.2.1 _ (by omega)
  · exact knF_lt2 F
theorem st_sayable (H : XR r) (hB : isB B) (R : BR m B b) (W : WFb b) (ha : isSt a) (S : SX m a s) (F : WFs (bN b) s) : f_X9_sayableByOther a B (130, m, r) = some (nI (sayS b s)) := by
  have hn := W.1
  have hs := F.1
  have hc := F.2.2.2
  unfold f_X9_sayableByOther sayS
  simp only [nb_lit]
  rw [bnd (sr0 H ha), if_pos (rgd (st_rw H ha))]
  by_cases h0 : sN s = 0
  · rw [bnd (rw_out (st_rw H ha) S.1 (Or.inr (by rw [h0]; decide))), if_pos (bgd hB), bnd (bo_nkind hB R neg4), if_pos (by decide), if_pos (sgd ha), bnd (st_om H ha S hc), bnd (mg (st_my ha (by omega)) (by decide)), (S.2.1 _ (by omega)).2.2, if_pos h0]
    try rfl
  · have hl : sW s 0 < bN b := F.2.1 0 (by omega)
    have hK := wf_K W hl
    rw [bnd (rw_at (st_rw H ha) S.1 hs (by omega)), if_pos (bgd hB), bnd (bo_kind H hB R W hl), if_neg h0]
    unfold knF
    by_cases hk : bK b (sW s 0) = 3
    · rw [if_neg (not_not_intro (by rw [hk])), if_pos (bgd hB), bnd (bo_all hB R W), if_pos hk]
      try rfl
    · rw [if_pos (n_ne hk (by omega) (by decide)), if_pos (sgd ha), bnd (st_om H ha S hc), bnd (mg (st_my ha (by omega)) (by decide)), (S.2.1 _ (by omega)).2.2, if_neg hk]
      try rfl
theorem st_speak (H : XR r) (ha : isSt a) (S : SX m a s) (hs : sN s < 12) : ∃ m', f_X9_speak a (nI w) (130, m, r) = some (130, m', r) ∧ SX m' a (saidS s w) ∧ ∀ d, (d < a ∨ a + 4 < d) → m' d = m d := by
  have e4 : m a 4 = sT s := S.2.2.2.1
  refine ⟨mx_up (mx_up (mx_up m (a + 1 + 1) (sN s) (nI w)) (a + 1) 1 (nI (sN s + 1))) a 4 (sT s + 1), ?_, ⟨?_, fun i hi => ?_, ?_, ?_, ?_⟩, fun d hd => ?_⟩
  · unfold f_X9_speak
    rw [bnd (sr0 H ha), if_pos (rgd (st_rw H ha)), bnd (rw_add (st_rw H ha) S.1.1 hs _), bnd (sg ha (by decide)), bnd (sp ha (by decide) _), hb_up_ne (by omega), hb_up_ne (by omega), e4]
  · refine RW.congr (RW.add S.1) ?_ ?_
    · rw [up_ne (by omega)]
    · rw [up_ne (by omega)]
  · rw [up_ne (by omega), up_ne (by omega), up_ne (by omega)]; exact S.2.1 i hi
  · rw [hb_up_ne (by omega), hb_up_ne (by omega), hb_up_ne (by omega)]; exact S.2.2.1
  · rw [hb_up_same]; rfl
  · rw [hb_up_ne (by omega), hb_up_ne (by omega), hb_up_ne (by omega)]; exact S.2.2.2.2
  · rw [up_ne (by omega), up_ne (by omega), up_ne (by omega)]
theorem st_fall (H : XR r) (ha : isSt a) (S : SX m a s) : ∃ m', f_X9_letFall a (130, m, r) = some (130, m', r) ∧ SX m' a (dropS s) ∧ ∀ d, (d < a ∨ a + 4 < d) → m' d = m d := by
  have e4 : m a 4 = sT s := S.2.2.2.1
  refine ⟨mx_up (mx_up m (a + 1) 1 (nI 0)) a 4 (sT s + 1), ?_, ⟨⟨?_, fun i hi => absurd hi (Nat.not_lt_zero i)⟩, fun i hi => ?_, ?_, ?_, ?_⟩, fun d hd => ?_⟩
  · unfold f_X9_letFall
    rw [bnd (sr0 H ha), if_pos (rgd (st_rw H ha)), bnd (rw_clear (st_rw H ha)), bnd (sg ha (by decide)), bnd (sp ha (by decide) _), hb_up_ne (by omega), e4]
  · rw [hb_up_ne (by omega), hb_up_same]; rfl
  · rw [up_ne (by omega), up_ne (by omega)]; exact S.2.1 i hi
  · rw [hb_up_ne (by omega), hb_up_ne (by omega)]; exact S.2.2.1
  · rw [hb_up_same]; rfl
  · rw [hb_up_ne (by omega), hb_up_ne (by omega)]; exact S.2.2.2.2
  · rw [up_ne (by omega), up_ne (by omega)]
theorem st_gain (H : XR r) (ha : isSt a) (S : SX m a s) (hi : i < 2) : ∃ m', f_X9_gain a (a + 3 + i) (nI v) (130, m, r) = some (nI v, (130, m', r)) ∧ SX m' a (decS s i v) ∧ ∀ d, (d < a ∨ a + 4 < d) → m' d = m d := by
  refine ⟨mx_up (mx_up (mx_up m (a + 3 + i) 0 (sD s i + 1)) (a + 3 + i) 1 (sG s i + nI v)) (a + 1) 1 (nI 0), ?_, ⟨⟨hb_up_same, fun i hi => absurd hi (Nat.not_lt_zero i)⟩, fun j hj => ?_, ?_, ?_, ?_⟩, fun d hd => ?_⟩
  · unfold f_X9_gain
    rw [bnd (mg (st_my ha hi) (by decide)), bnd (mp (st_my ha hi) (by decide) _), bnd (mg (st_my ha hi) (by decide)), bnd (mp (st_my ha hi) (by decide) _), bnd (sr0 H ha), if_pos (rgd (st_rw H ha)), bnd (rw_clear (st_rw H ha)), hb_up_ne (by omega), (S.2.1 i hi).1, (S.2.1 i hi).2.1]
  · rw [up_ne (by omega)]
    show _ = (if j = i then sD s j + 1 else sD s j) ∧ _ = (if j = i then sG s j + nI v else sG s j) ∧ _
    by_cases he : j = i
    · rw [he, if_pos rfl, if_pos rfl, hb_up_ne (by omega), hb_up_same, hb_up_same, hb_up_ne (by omega), hb_up_ne (by omega)]
      exact ⟨rfl, rfl, (S.2.1 i hi).2.2⟩
    · rw [if_neg he, if_neg he, up_ne (by omega), up_ne (by omega)]
      exact S.2.1 j hj
  · rw [hb_up_ne (by omega), hb_up_ne (by omega), hb_up_ne (by omega)]; exact S.2.2.1
  · rw [hb_up_ne (by omega), hb_up_ne (by omega), hb_up_ne (by omega)]; exact S.2.2.2.1
  · rw [hb_up_ne (by omega), hb_up_ne (by omega), hb_up_ne (by omega)]; exact S.2.2.2.2
  · rw [up_ne (by omega), up_ne (by omega), up_ne (by omega)]
theorem st_decree (H : XR r) (hB : isB B) (R : BR m B b) (W : WFb b) (ha : isSt a) (S : SX m a s) (F : WFs (bN b) s) : ∃ m', f_X9_decree a B (130, m, r) = some (nI (sumW b (sW s) (sN s)), (130, m', r)) ∧ SX m' a (decS s (sC s) (sumW b (sW s) (sN s))) ∧ ∀ d, (d < a ∨ a + 4 < d) → m' d = m d := by
  obtain ⟨m', e, h⟩ := st_gain (v := sumW b (sW s) (sN s)) H ha S F.2.2.2
  refine ⟨m', ?_, h⟩
  unfold f_X9_decree
  rw [bnd (sg ha (by decide)), S.2.2.1, if_pos (sgd ha), bnd (st_mo H ha F.2.2.2), bnd (sr0 H ha), if_pos (rgd (st_rw H ha)), bnd (rw_worth H hB R W (st_rw H ha) S.1 F.1 F.2.1), if_pos (sgd ha), bnd e]
theorem st_pass (H : XR r) (hB : isB B) (R : BR m B b) (W : WFb b) (ha : isSt a) (S : SX m a s) (F : WFs (bN b) s) (Hc : isRw r c) (Rc : RW m c k g) (hk : k ≤ 12) (hg : ∀ i, i < k → g i < bN b) : ∃ m', f_X9_passOver a B c (130, m, r) = some (nI (sumW b (sW s) (sN s) + sumW b g k), (130, m', r)) ∧ SX m' a (decS (sN s, sW s, sD s, sG s, sY s, 1 - sC s, sT s + nI k, sP s + 1) (1 - sC s) (sumW b (sW s) (sN s) + sumW b g k)) ∧ ∀ d, (d < a ∨ a + 4 < d) → m' d = m d := by
  have e4 : m a 4 = sT s := S.2.2.2.1
  have e5 : m a 5 = sP s := S.2.2.2.2
  have hc := F.2.2.2
  have S1 : SX (mx_up (mx_up (mx_up m a 4 (sT s + nI k)) a 3 (nI (1 - sC s))) a 5 (sP s + 1)) a (sN s, sW s, sD s, sG s, sY s, 1 - sC s, sT s + nI k, sP s + 1) := by
    refine ⟨?_, fun i hi => ?_, ?_, ?_, ?_⟩
    · refine RW.congr S.1 ?_ ?_
      · rw [up_ne (by omega), up_ne (by omega), up_ne (by omega)]
      · rw [up_ne (by omega), up_ne (by omega), up_ne (by omega)]
    · rw [up_ne (by omega), up_ne (by omega), up_ne (by omega)]
      exact S.2.1 i hi
    · rw [hb_up_ne (by omega), hb_up_same]; rfl
    · rw [hb_up_ne (by omega), hb_up_ne (by omega), hb_up_same]; rfl
    · rw [hb_up_same]; rfl
  obtain ⟨m', e, h1, h2⟩ := st_gain (v := sumW b (sW s) (sN s) + sumW b g k) (i := 1 - sC s) H ha S1 (by omega)
  refine ⟨m', ?_, h1, fun d hd => by rw [h2 d hd, up_ne (by omega), up_ne (by omega), up_ne (by omega)]⟩
  unfold f_X9_passOver
  rw [bnd (sr0 H ha), if_pos (rgd (st_rw H ha)), bnd (rw_worth H hB R W (st_rw H ha) S.1 F.1 F.2.1), if_pos (rgd Hc), bnd (rw_worth H hB R W Hc Rc hk hg), bnd (sg ha (by decide)), bnd (rg_n Hc), Rc.1, e4, bnd (sp ha (by decide) _), bnd (sg ha (by decide)), hb_up_ne (by omega), S.2.2.1, show (1 : Int32) - nI (sC s) = nI (1 - sC s) from nb_sub (a := 1) (b := sC s) (by omega), bnd (sp ha (by decide) _), bnd (sg ha (by decide)), hb_up_ne (by omega), hb_up_ne (by omega), e5, bnd (sp ha (by decide) _), bnd (sg ha (by decide)), hb_up_ne (by omega), hb_up_same, if_pos (sgd ha), bnd (st_mo H ha (by omega)), if_pos (sgd ha), nI_add, bnd e]
theorem st_start (H : XR r) (hB : isB B) (R : BR m B b) (ha : isSt a) : ∃ m', f_X9_startIn a B (130, m, r) = some (130, m', r) ∧ SX m' a (newS b) ∧ ∀ d, (d < a ∨ a + 4 < d) → m' d = m d := by
  have hl := st_ly ha
  have hb := b_ly hB
  refine ⟨mx_up (mx_up (mx_up (mx_up (mx_up (mx_up (mx_up (mx_up (mx_up (mx_up m (a + 1) 1 (nI 0)) (a + 3) 0 0) (a + 3) 1 0) (a + 3) 2 (nI (bY b 0))) (a + 4) 0 0) (a + 4) 1 0) (a + 4) 2 (nI (bY b 1))) a 3 (nI (bC b))) a 4 0) a 5 0, ?_, ⟨⟨?_, fun i hi => absurd hi (Nat.not_lt_zero i)⟩, fun i hi => ?_, ?_, ?_, ?_⟩, fun d hd => ?_⟩
  · unfold f_X9_startIn f_X4_startWith
    rw [bnd (sr0 H ha), if_pos (rgd (st_rw H ha)), bnd (rw_clear (st_rw H ha)), bnd (sr1 H ha), bnd (bg hB (by decide)), up_ne (by omega), R.1.2.2.2.2.1, if_pos (myd (st_my0 ha)), bnd (mp (st_my0 ha) (by decide) _), bnd (mp (st_my0 ha) (by decide) _), bnd (mp (st_my0 ha) (by decide) _), Option.bind_some, bnd (sr2 H ha), bnd (bg hB (by decide)), up_ne (by omega), up_ne (by omega), up_ne (by omega), up_ne (by omega), R.1.2.2.2.2.2.1, if_pos (myd (st_my1 ha)), bnd (mp (st_my1 ha) (by decide) _), bnd (mp (st_my1 ha) (by decide) _), bnd (mp (st_my1 ha) (by decide) _), Option.bind_some, bnd (bg hB (by decide)), up_ne (by omega), up_ne (by omega), up_ne (by omega), up_ne (by omega), up_ne (by omega), up_ne (by omega), up_ne (by omega), R.1.2.2.2.2.2.2.2, bnd (sp ha (by decide) _), bnd (sp ha (by decide) _), bnd (sp ha (by decide) _)]
    try rfl
  · rw [up_ne (by omega), up_ne (by omega), up_ne (by omega), up_ne (by omega), up_ne (by omega), up_ne (by omega), up_ne (by omega), up_ne (by omega), up_ne (by omega), hb_up_same]
    try rfl
  · have : i = 0 ∨ i = 1 := by omega
    rcases this with rfl | rfl
    · refine ⟨?_, ?_, ?_⟩ <;> simp [mx_up, newS, sD, sG, sY]
    · refine ⟨?_, ?_, ?_⟩ <;> simp [mx_up, newS, sD, sG, sY]
  · rw [hb_up_ne (by omega), hb_up_ne (by omega), hb_up_same]; rfl
  · rw [hb_up_ne (by omega), hb_up_same]; rfl
  · rw [hb_up_same]; rfl
  · rw [up_ne (by omega), up_ne (by omega), up_ne (by omega), up_ne (by omega), up_ne (by omega), up_ne (by omega), up_ne (by omega), up_ne (by omega), up_ne (by omega), up_ne (by omega)]
theorem st_knowers (H : XR r) (W : WFb b) (ha : isSt a) (S : SX m a s) (F : WFs (bN b) s) (hw : w < bN b) : f_X9_knowersOf a (nI w) (130, m, r) = some (nI ((if (sY s 0).testBit w then 1 else 0) + (if (sY s 1).testBit w then 2 else 0))) := by
  have hn := W.1
  have y0 := wf_y W F (i := 0) (by decide)
  have y1 := wf_y W F (i := 1) (by decide)
  unfold f_X9_knowersOf
  simp only [nb_lit]
  have t2 : ((mx_gr (130, m, r) a 9 2).bind fun x6 => (mx_gi (130, m, r) x6 4 2).bind fun x7 => (f_X11_bit (nI w) (130, m, r)).bind fun x8 => (if x7 &&& x8 = nI 0 then some (nI 0) else some (nI 2) : Option Int32)) = some (nI (if (sY s 1).testBit w = true then 2 else 0)) := by
    rw [bnd (sr2 H ha), bnd (mg (st_my1 ha) (by decide)), show m (a + 4) 2 = nI (sY s 1) from (S.2.1 1 (by decide)).2.2, bnd (bo_bit (by omega) _)]
    by_cases h1 : (sY s 1).testBit w = true
    · rw [if_neg (fun q => by rw [nb_bit0 (by omega), h1] at q; cases q), if_pos h1]
    · rw [if_pos (by rw [nb_bit0 (by omega)]; simpa using h1), if_neg h1]
  have t3 : ∀ v5 : Nat, ((mx_gr (130, m, r) a 9 2).bind fun x6 => (mx_gi (130, m, r) x6 4 2).bind fun x7 => (f_X11_bit (nI w) (130, m, r)).bind fun x8 => (if x7 &&& x8 = nI 0 then some (nI 0) else some (nI 2) : Option Int32).bind fun v10 => some (nI v5 + v10)) = some (nI (v5 + (if (sY s 1).testBit w = true then 2 else 0))) := by
    intro v5
    rw [bnd (sr2 H ha), bnd (mg (st_my1 ha) (by decide)), show m (a + 4) 2 = nI (sY s 1) from (S.2.1 1 (by decide)).2.2, bnd (bo_bit (by omega) _)] at t2 ⊢
    rw [bnd t2, nI_add]
  rw [bnd (sr1 H ha), bnd (mg (st_my0 ha) (by decide)), show m (a + 3) 2 = nI (sY s 0) from (S.2.1 0 (by decide)).2.2, bnd (bo_bit (by omega) _)]
  by_cases h0 : (sY s 0).testBit w = true
  · rw [if_neg (fun q => by rw [nb_bit0 (by omega), h0] at q; cases q), if_pos h0]
    exact t3 1
  · rw [if_pos (by rw [nb_bit0 (by omega)]; simpa using h0), if_neg h0]
    exact t3 0
theorem st_both (H : XR r) (ha : isSt a) (S : SX m a s) : f_X9_decreesOfBoth a (130, m, r) = some (sD s 0 + sD s 1) := by
  unfold f_X9_decreesOfBoth
  rw [bnd (sr1 H ha), bnd (mg (st_my0 ha) (by decide)), show m (a + 3) 0 = sD s 0 from (S.2.1 0 (by decide)).1, bnd (sr2 H ha), bnd (mg (st_my1 ha) (by decide)), show m (a + 4) 0 = sD s 1 from (S.2.1 1 (by decide)).1]
end X2
