/-! the other side: sentences begun anew -/
def ldS (b : Bo) (D w : Nat) : Nat → Nat
  | 0 => stopsB b &&& 2 ^ w
  | i + 1 => (late b D (i + 1) &&& 2 ^ w) ||| nb_dif (nb_dif (ahead b (ldS b D w i)) D) (2 ^ w)
theorem ahead_lt {b : Bo} {S : Nat} : ahead b S < 2 ^ bN b := mk_lt _ _
theorem dif_lt {a c n : Nat} (h : a < 2 ^ n) : nb_dif a c < 2 ^ n := and_lt h
theorem ldS_lt {b : Bo} {D w : Nat} (k : Nat) : ldS b D w k < 2 ^ bN b := by
  cases k with
  | zero => exact and_lt (mk_lt _ _)
  | succ k => exact or_lt (and_lt (late_lt _)) (dif_lt (dif_lt ahead_lt))
theorem ahead_dif {b : Bo} {D S : Nat} (W : WFb b) : nb_dif (ahead b S) D = mk (fun x => decide (eD b D x &&& S ≠ 0)) (bN b) := by
  refine bit_ext (dif_lt ahead_lt) (mk_lt _ _) (fun x hx => ?_)
  rw [nb_dif_bit (lt1024 ahead_lt W.1.2)]
  unfold ahead eD
  rw [mk_bit, mk_bit]
  by_cases h : D.testBit x = true
  · simp [h]
  · simp [h, hx]
theorem late_s {b : Bo} {D k : Nat} (W : WFb b) : nb_dif (ahead b (late b D k)) D = late b D (k + 1) := ahead_dif W
theorem pow_bit {w x : Nat} : (2 ^ w).testBit x = decide (w = x) := by
  by_cases h : w = x
  · subst h; simp [Nat.testBit_two_pow_self]
  · rw [Nat.testBit_two_pow_of_ne h]; simp [h]
theorem ldS_bit {b : Bo} {D w : Nat} (W : WFb b) : ∀ k x, x < bN b → (ldS b D w k).testBit x = if x = w then (late b D k).testBit x else (rch b D w k).testBit x := by
  intro k
  induction k with
  | zero =>
    intro x hx
    unfold ldS
    rw [Nat.testBit_and, pow_bit]
    by_cases h : x = w
    · rw [if_pos h]
      simp [h]
      rfl
    · rw [if_neg h]
      have hne : ¬ w = x := fun z => h z.symm
      simp [hne, rch]
  | succ k ih =>
    intro x hx
    have l0 : ahead b (ldS b D w k) < 1024 := lt1024 ahead_lt W.1.2
    unfold ldS
    rw [Nat.testBit_or, Nat.testBit_and, nb_dif_bit (lt1024 (dif_lt ahead_lt) W.1.2), nb_dif_bit l0, pow_bit]
    by_cases h : x = w
    · rw [if_pos h]
      simp [h]
    · rw [if_neg h]
      have hne : ¬ w = x := fun z => h z.symm
      simp only [hne, decide_false, Bool.and_false, Bool.false_or, Bool.not_false, Bool.and_true]
      show _ = (mk _ (bN b)).testBit x
      rw [mk_bit]
      simp only [hx, decide_true, Bool.true_and]
      unfold ahead eD
      rw [mk_bit]
      simp only [hx, decide_true, Bool.true_and]
      by_cases hD : D.testBit x = true
      · simp [hD, nb_dif]
      · simp only [hD, if_false, Bool.not_eq_true, Bool.false_eq_true]
        have hE := wf_E W hx
        have hE2 := wf_E2 W hx
        rw [Bool.eq_iff_iff]
        simp only [Bool.and_eq_true, decide_eq_true_eq, Bool.or_eq_true, Bool.not_eq_true', Nat.testBit_and]
        rw [and_ne0 hE, and_ne0 (dif_lt hE)]
        constructor
        · rintro ⟨⟨y, h1, h2, h3⟩, -⟩
          rw [ih y h1] at h3
          by_cases hy : y = w
          · rw [if_pos hy, hy] at h3
            rw [hy] at h2
            exact Or.inl ⟨h2, h3⟩
          · rw [if_neg hy] at h3
            refine Or.inr ⟨y, h1, ?_, h3⟩
            rw [nb_dif_bit hE2, pow_bit, h2]
            have hne2 : ¬ w = y := fun z => hy z.symm
            simp [hne2]
        · rintro (⟨h2, h3⟩ | ⟨y, h1, h2, h3⟩)
          · have hw : w < bN b := by
              apply Decidable.byContradiction
              intro hn
              rw [lt_bit hE (by omega)] at h2
              cases h2
            refine ⟨⟨w, hw, h2, ?_⟩, by simpa using hD⟩
            rw [ih w hw, if_pos rfl]; exact h3
          · rw [nb_dif_bit hE2, pow_bit] at h2
            simp only [Bool.and_eq_true, Bool.not_eq_true', decide_eq_false_iff_not] at h2
            refine ⟨⟨y, h1, h2.1, ?_⟩, by simpa using hD⟩
            rw [ih y h1, if_neg (fun z => h2.2 z.symm)]; exact h3
theorem ldS_eq {b : Bo} {D w : Nat} (W : WFb b) (k : Nat) : nb_dif (rch b D w k) (2 ^ w) ||| (late b D k &&& 2 ^ w) = ldS b D w k := by
  refine bit_ext (or_lt (dif_lt (rch_lt k)) (and_lt (late_lt k))) (ldS_lt k) (fun x hx => ?_)
  rw [ldS_bit W k x hx, Nat.testBit_or, Nat.testBit_and, nb_dif_bit (rch_2 W k), pow_bit]
  by_cases h : x = w
  · simp [h]
  · have hne : ¬ w = x := fun z => h z.symm
    simp [h, hne]
theorem sfB_eq {b : Bo} {s : St} {w k f : Nat} (W : WFb b) (hf : f < bN b) : sfB b s w k f = (ldS b (dF b s f) w k).testBit f := by
  unfold sfB isSf
  rw [ldS_bit W k f hf, Nat.add_sub_cancel]
/-- which opening a first word has -/
def opA (b : Bo) (f : Nat) : Nat := if bK b f = 3 then 78 else 92
def knO (b : Bo) (s : St) (a : Nat) : Nat := if a = 78 then aAll b else sY s (1 - sC s)
def fiO (b : Bo) (a : Nat) : Nat := if a = 78 then kindS b 3 else nb_dif (aAll b) (kindS b 3)
def dO (b : Bo) (s : St) (a : Nat) : Nat := lostF b (knO b s a)
theorem opA_op {b : Bo} {f : Nat} : isOp (opA b f) := by
  unfold opA
  split
  · exact Or.inl rfl
  · exact Or.inr rfl
theorem knF_op {b : Bo} {s : St} {f : Nat} : knO b s (opA b f) = knF b s f := by
  unfold knO knF opA
  by_cases h : bK b f = 3
  · rw [if_pos h, if_pos rfl, if_pos h]
  · rw [if_neg h, if_neg (by decide), if_neg h]
theorem dF_op {b : Bo} {s : St} {f : Nat} : dO b s (opA b f) = dF b s f := by
  unfold dO dF
  rw [knF_op]
theorem knO_lt {b : Bo} {s : St} {a : Nat} (F : WFs (bN b) s) : knO b s a < 2 ^ bN b := by
  unfold knO
  split
  · exact aAll_lt2
  · exact F.2.2.1 _ (by omega)
theorem aAll_bit {b : Bo} {x : Nat} : (aAll b).testBit x = decide (x < bN b) := by
  unfold aAll
  rw [Nat.testBit_two_pow_sub_one]
theorem fi_bits {b : Bo} {L1 L2 x : Nat} (W : WFb b) (hx : x < bN b) : ((L1 &&& fiO b 78) ||| (L2 &&& fiO b 92)).testBit x = (if opA b x = 78 then L1 else L2).testBit x := by
  unfold fiO opA kindS
  rw [if_pos rfl, if_neg (by decide), Nat.testBit_or, Nat.testBit_and, Nat.testBit_and, nb_dif_bit (aAll_lt W), mk_bit, aAll_bit]
  by_cases h : bK b x = 3
  · simp [h, hx]
  · simp [h, hx]
section X8
variable {m m' : Nat → Nat → Int32} {r r' : Nat → Nat → Option Nat} {a c d n B D k w i j u v kn : Nat} {f g P : Nat → Nat} {b : Bo} {s : St} {x y : Int32} {A : Ab}
theorem ogd (h : isOp a) : a < 130 ∧ (mx_lay a).1 = 8 := ⟨by have := o_ly h; omega, (o_ly h).1⟩
theorem og (h : isOp a) (hf : mx_fk 5 k = 0 ∨ mx_fk 5 k = 2) : mx_gi (130, m, r) a 5 k = some (m a k) := hb_gi (ogd h).1 (ogd h).2 hf
theorem op (h : isOp a) (hf : mx_fk 5 k = 0) (v : Int32) : mx_pi (130, m, r) a 5 k v = some (130, mx_up m a k v, r) := hb_pi (ogd h).1 (ogd h).2 hf v
theorem or3 (X : XR r) (h : isOp a) : mx_gr (130, m, r) a 5 3 = some (a + 1) := hb_gr (ogd h).1 (ogd h).2 (by decide) (X.2.2.2.2.2.2.2.1 a h).1
theorem or4 (X : XR r) (h : isOp a) : mx_gr (130, m, r) a 5 4 = some (a + 2) := hb_gr (ogd h).1 (ogd h).2 (by decide) (X.2.2.2.2.2.2.2.1 a h).2.1
theorem or5 (X : XR r) (h : isOp a) : mx_gr (130, m, r) a 5 5 = some (a + 3) := hb_gr (ogd h).1 (ogd h).2 (by decide) (X.2.2.2.2.2.2.2.1 a h).2.2.1
theorem orl (X : XR r) (h : isOp a) (hj : j < 10) : mx_rl (130, m, r) (a + 3) (nI j) = some (a + 4 + j) := by
  have q := o_ly h
  unfold mx_rl
  rw [if_pos ⟨by show a + 3 < 130; omega, Or.inr (by rw [q.2.2.2.1]), nb_pos (by omega), by rw [nb_cl (by omega), q.2.2.2.1]; exact hj⟩, nb_cl (by omega)]
  exact (X.2.2.2.2.2.2.2.1 a h).2.2.2 j hj
theorem oa1 (h : isOp a) (hk : k < 10) : mx_al (130, m, r) (a + 1) (nI k) = some (m (a + 1) k) := hb_al (by have := o_ly h; omega) (by rw [(o_ly h).2.1]) (by rw [(o_ly h).2.1]; exact hk)
theorem os1 (h : isOp a) (hk : k < 10) (v : Int32) : mx_as (130, m, r) (a + 1) (nI k) v = some (130, mx_up m (a + 1) k v, r) := hb_as (by have := o_ly h; omega) (by rw [(o_ly h).2.1]) (by rw [(o_ly h).2.1]; exact hk) v
theorem oa2 (h : isOp a) (hk : k < 10) : mx_al (130, m, r) (a + 2) (nI k) = some (m (a + 2) k) := hb_al (by have := o_ly h; omega) (by rw [(o_ly h).2.2.1]) (by rw [(o_ly h).2.2.1]; exact hk)
theorem os2 (h : isOp a) (hk : k < 10) (v : Int32) : mx_as (130, m, r) (a + 2) (nI k) v = some (130, mx_up m (a + 2) k v, r) := hb_as (by have := o_ly h; omega) (by rw [(o_ly h).2.2.1]) (by rw [(o_ly h).2.2.1]; exact hk) v
theorem oat (h : isOp a) (hj : j < 10) (hk : k < 10) : mx_al (130, m, r) (a + 4 + j) (nI k) = some (m (a + 4 + j) k) := hb_al (by have := o_ly h; omega) (by rw [(o_ly h).2.2.2.2.1 j hj]) (by rw [(o_ly h).2.2.2.2.1 j hj]; exact hk)
theorem ost (h : isOp a) (hj : j < 10) (hk : k < 10) (v : Int32) : mx_as (130, m, r) (a + 4 + j) (nI k) v = some (130, mx_up m (a + 4 + j) k v, r) := hb_as (by have := o_ly h; omega) (by rw [(o_ly h).2.2.2.2.1 j hj]) (by rw [(o_ly h).2.2.2.2.1 j hj]; exact hk) v
theorem zgd : 75 < 130 ∧ (mx_lay 75).1 = 11 := ⟨by decide, by decide +kernel⟩
theorem zr0 (X : XR r) : mx_gr (130, m, r) 75 8 0 = some 76 := hb_gr (by decide) (by decide +kernel) (by decide) X.2.2.2.2.2.2.1.1
theorem zr1 (X : XR r) : mx_gr (130, m, r) 75 8 1 = some 78 := hb_gr (by decide) (by decide +kernel) (by decide) X.2.2.2.2.2.2.1.2.2.1
theorem zr2 (X : XR r) : mx_gr (130, m, r) 75 8 2 = some 92 := hb_gr (by decide) (by decide +kernel) (by decide) X.2.2.2.2.2.2.1.2.2.2.1
theorem zr3 (X : XR r) : mx_gr (130, m, r) 75 8 3 = some 71 := hb_gr (by decide) (by decide +kernel) (by decide) X.2.2.2.2.2.2.1.2.2.2.2
theorem z_rw (X : XR r) : isRw r 76 := ⟨by decide, by decide +kernel, by decide +kernel, X.2.2.2.2.2.2.1.2.1⟩
theorem o78 : isOp 78 := Or.inl rfl
theorem o92 : isOp 92 := Or.inr rfl
/-- an opening as it is prepared -/
def OP (m : Nat → Nat → Int32) (b : Bo) (s : St) (a : Nat) : Prop := m a 0 = nI (fiO b a) ∧ m a 1 = nI (knO b s a) ∧ m a 2 = nI (dO b s a)
theorem OP.congr (h : OP m b s a) (e : m' a = m a) : OP m' b s a := by
  unfold OP
  rw [e]
  exact h
theorem o_prep (X : XR r) (hB : isB B) (R : BR m B b) (W : WFb b) (F : WFs (bN b) s) (h : isOp a) {v1 v2 : Int32} (e1 : v1 = nI (fiO b a)) (e2 : v2 = nI (knO b s a)) : ∃ m', f_X5_prepare a B 71 v1 v2 (130, m, r) = some (130, m', r) ∧ OP m' b s a ∧ ∀ d, d ≠ a → m' d = m d := by
  subst e1 e2
  have hb := b_ly hB
  have ho := o_ly h
  refine ⟨mx_up (mx_up (mx_up m a 0 (nI (fiO b a))) a 1 (nI (knO b s a))) a 2 (nI (dO b s a)), ?_, ⟨?_, ?_, hb_up_same⟩, fun d hd => by rw [up_ne hd, up_ne hd, up_ne hd]⟩
  · unfold f_X5_prepare
    rw [bnd (op h (by decide) _), bnd (op h (by decide) _), if_pos fgd, bnd (fi_could X hB (R.congr (fun c c1 c2 => by rw [up_ne (by omega), up_ne (by omega)])) W (lt1024 (knO_lt F) W.1.2)), bnd (op h (by decide) _)]
    rfl
  · rw [hb_up_ne (by omega), hb_up_ne (by omega), hb_up_same]
  · rw [hb_up_ne (by omega), hb_up_same]
theorem z_prep (X : XR r) (hB : isB B) (R : BR m B b) (W : WFb b) (S : SX m 12 s) (F : WFs (bN b) s) : ∃ m', f_X8_prepare 75 B 12 (130, m, r) = some (130, m', r) ∧ m' 76 1 = nI 0 ∧ OP m' b s 78 ∧ OP m' b s 92 ∧ ∀ d, d ≠ 76 → d ≠ 78 → d ≠ 92 → m' d = m d := by
  have hb := b_ly hB
  have hc := F.2.2.2
  have R0 : BR (mx_up m 76 1 (nI 0)) B b := R.congr (fun c c1 c2 => up_ne (by omega))
  obtain ⟨m1, e1, p1, f1⟩ := o_prep (a := 78) (s := s) X hB R0 W F o78 rfl rfl
  have R1 : BR m1 B b := R0.congr (fun c c1 c2 => f1 c (by omega))
  have S1 : SX m1 12 s := S.congr (fun c c1 c2 => by rw [f1 c (by omega), up_ne (by omega)])
  obtain ⟨m2, e2, p2, f2⟩ := o_prep (a := 92) (s := s) X hB R1 W F o92 rfl rfl
  refine ⟨m2, ?_, ?_, p1.congr (f2 _ (by decide)), p2, fun d d1 d2 d3 => by rw [f2 d d3, f1 d d2, up_ne d1]⟩
  · unfold f_X8_prepare
    simp only [nb_lit]
    have k0 : nI (kindS b 3) = nI (fiO b 78) := rfl
    have k1 : nI (aAll b) = nI (knO b s 78) := rfl
    have k2 : nI (aAll b) &&& (nI (kindS b 3) ^^^ -nI 1) = nI (fiO b 92) := nb_andn2 (aAll_lt W)
    have k3 : nI (sY s (1 - sC s)) = nI (knO b s 92) := rfl
    rw [bnd (zr0 X), if_pos (rgd (z_rw X)), bnd (rw_clear (z_rw X)), bnd (zr1 X), bnd (zr3 X), bnd (bg hB (by decide)), R0.1.2.2.2.1, if_pos (bgd hB), bnd (bo_all hB R0 W), if_pos (ogd o78), k0, k1, bnd e1, bnd (zr2 X), bnd (zr3 X), if_pos (bgd hB), bnd (bo_all hB R1 W), bnd (bg hB (by decide)), R1.1.2.2.2.1, if_pos (sgd st12), bnd (st_om X st12 S1 hc), bnd (mg (st_my st12 (by omega)) (by decide)), (S1.2.1 _ (by omega)).2.2, if_pos (ogd o92), k2, k3, bnd e2]
  · rw [f2 76 (by decide), f1 76 (by decide), hb_up_same]
theorem z_by (X : XR r) (hB : isB B) (R : BR m B b) (W : WFb b) (hw : w < bN b) : f_X8_openingBy 75 B (nI w) (130, m, r) = some (opA b w) := by
  have hK := wf_K W hw
  unfold f_X8_openingBy opA
  simp only [nb_lit]
  rw [if_pos (bgd hB), bnd (bo_kind X hB R W hw)]
  by_cases h : bK b w = 3
  · rw [if_neg (not_not_intro (by rw [h])), bnd (zr1 X), if_pos h]
    rfl
  · rw [if_pos (n_ne h (by omega) (by decide)), bnd (zr2 X), if_neg h]
    rfl
def bI (q : Bool) : Int32 := if q = true then nI 1 else nI 0
theorem o_lead (X : XR r) (h : isOp a) (hk : k < 10) {q : Bool} : f_X5_leadingWith a (nI k) (bI q) (130, m, r) = some (if q = true then m (a + 2) k else m (a + 1) k) := by
  unfold f_X5_leadingWith
  simp only [nb_lit]
  rw [if_neg (nI_pos0 (by omega)), if_pos (n_lt hk (by decide))]
  cases q with
  | true =>
    rw [if_neg (show ¬ bI true = nI 0 by decide), bnd (or4 X h), bnd (oa2 h hk)]
    rfl
  | false =>
    rw [if_pos (show bI false = nI 0 by decide), bnd (or3 X h), bnd (oa1 h hk)]
    rfl
theorem o_firsts (X : XR r) (h : isOp a) (hk : k < 10) {L : Nat} (hL : m (a + 1) k = nI L) (hf : m a 0 = nI (fiO b a)) : f_X5_firstsWith a (nI k) (130, m, r) = some (nI (L &&& fiO b a)) := by
  unfold f_X5_firstsWith
  rw [if_pos (ogd h), show (0 : Int32) = bI false from rfl, bnd (o_lead X h hk), if_neg (by decide), bnd (og h (by decide)), hL, hf, nb_and]
/-- a sentence is followed -/
theorem z_follow (X : XR r) (hB : isB B) (R : BR m B b) (W : WFb b) {p : Nat → Nat × Bool} {L O : Nat → Nat} {many : Nat} (h1 : 1 ≤ many) (h10 : many ≤ 10) (h76 : m 76 1 = nI 0) (hL : ∀ k, k < 10 → m (opA b (p 0).1 + 1) k = nI (L k)) (hO : ∀ k, k < many → (p k).2 = true → ∀ j, j < 10 → m (opA b (p 0).1 + 2) j = nI (O j)) (hp : ∀ k, k < many → (p k).1 < bN b) (hb0 : bI (p 0).2 = if ¬ nI (p 0).1 = x then nI 0 else nI 1)
    (hs : ∀ k, k + 1 < many → fst (fun y => (bE b (p k).1 &&& (if (p k).2 = true then O (many - 1 - (k + 1)) else L (many - 1 - (k + 1)))).testBit y) (bN b) = (p (k + 1)).1 ∧ bI (p (k + 1)).2 = if ¬ bI (p k).2 = nI 0 then nI 1 else if ¬ nI (p (k + 1)).1 = x then nI 0 else nI 1) : ∃ m', f_X8_follow 75 B (nI (p 0).1) (nI (many - 1)) x (130, m, r) = some (130, m', r) ∧ RW m' 76 many (fun i => (p i).1) ∧ ∀ d, d ≠ 76 → d ≠ 77 → m' d = m d := by
  have hb := b_ly hB
  have ho := o_ly (opA_op (b := b) (f := (p 0).1))
  have R0 : RW m 76 0 (fun i => (p i).1) := ⟨h76, fun i hi => absurd hi (Nat.not_lt_zero i)⟩
  unfold f_X8_follow
  simp only [nb_lit]
  have e0 : (if ¬ nI (p 0).1 = x then some (nI 0) else some (nI 1) : Option Int32) = some (bI (p 0).2) := by
    rw [hb0]
    by_cases q : nI (p 0).1 = x
    · rw [if_neg (not_not_intro q), if_neg (not_not_intro q)]
    · rw [if_pos q, if_pos q]
  rw [if_pos zgd, bnd (z_by X hB R W (hp 0 (by omega))), bnd (zr0 X), if_pos (rgd (z_rw X)), bnd (rw_add (z_rw X) h76 (by decide) _), bnd e0, cnt_m]
  refine fix_rel (fun j q => ∃ m1 : Nat → Nat → Int32, q = (nI (p j).1, bI (p j).2, cnt (many - 1 - j), (130, m1, r)) ∧ RW m1 76 (j + 1) (fun i => (p i).1) ∧ ∀ d, d ≠ 76 → d ≠ 77 → m1 d = m d) (many - 1) (Q := fun o => ∃ m' : Nat → Nat → Int32, o = some (130, m', r) ∧ RW m' 76 many (fun i => (p i).1) ∧ ∀ d, d ≠ 76 → d ≠ 77 → m' d = m d) ?_ ?_ (by omega) ?_
  · rintro j q hj ⟨m1, rfl, g1, g2⟩
    have R1 : BR m1 B b := R.congr (fun c c1 c2 => g2 c (by omega) (by omega))
    have ec : cnt (many - 1 - j) = nI (many - 1 - (j + 1)) := by
      have := cnt_s (many - 1 - (j + 1))
      rw [show many - 1 - (j + 1) + 1 = many - 1 - j by omega] at this
      exact this
    obtain ⟨s1, s2⟩ := hs j (by omega)
    have hpj := hp (j + 1) (by omega)
    have hE := wf_E2 W (hp j (by omega))
    refine ⟨(nI (p (j + 1)).1, bI (p (j + 1)).2, cnt (many - 1 - (j + 1)), (130, mx_up (mx_up m1 (76 + 1) (j + 1) (nI (p (j + 1)).1)) 76 1 (nI (j + 1 + 1)), r)), ⟨_, rfl, g1.add2, fun d d1 d2 => by rw [up_ne d1, up_ne d2]; exact g2 d d1 d2⟩, fun self => ?_⟩
    have el : (if (p j).2 = true then m1 (opA b (p 0).1 + 2) (many - 1 - (j + 1)) else m1 (opA b (p 0).1 + 1) (many - 1 - (j + 1))) = nI (if (p j).2 = true then O (many - 1 - (j + 1)) else L (many - 1 - (j + 1))) := by
      by_cases q : (p j).2 = true
      · rw [if_pos q, if_pos q, g2 _ (by omega) (by omega)]
        exact hO j (by omega) q _ (by omega)
      · rw [if_neg q, if_neg q, g2 _ (by omega) (by omega)]
        exact hL _ (by omega)
    have e3 : (if ¬ bI (p j).2 = nI 0 then some (nI 1) else if ¬ nI (p (j + 1)).1 = x then some (nI 0) else some (nI 1) : Option Int32) = some (bI (p (j + 1)).2) := by
      rw [s2]
      by_cases q : bI (p j).2 = nI 0
      · rw [if_neg (not_not_intro q), if_neg (not_not_intro q)]
        by_cases q2 : nI (p (j + 1)).1 = x
        · rw [if_neg (not_not_intro q2), if_neg (not_not_intro q2)]
        · rw [if_pos q2, if_pos q2]
      · rw [if_pos q, if_pos q]
    have hA : bE b (p j).1 &&& (if (p j).2 = true then O (many - 1 - (j + 1)) else L (many - 1 - (j + 1))) < 2 ^ 31 := by
      have := @Nat.and_le_left (bE b (p j).1) (if (p j).2 = true then O (many - 1 - (j + 1)) else L (many - 1 - (j + 1)))
      omega
    unfold f_X8_follow_L39
    simp only [nb_lit]
    rw [ec, if_neg (nI_pos0 (by omega)), if_pos (bgd hB), bnd (bo_behind X hB R1 W (hp j (by omega))), if_pos (ogd opA_op), bnd (o_lead X opA_op (by omega)), el, if_pos (bgd hB), nb_and, bnd (bo_first hB R1 W hA), s1, if_pos hpj, bnd (zr0 X), if_pos (rgd (z_rw X)), bnd (rw_add (z_rw X) g1.1 (by omega) _), bnd e3, cnt_dn]
  · rintro q ⟨m1, rfl, g1, g2⟩ self
    unfold f_X8_follow_L39
    simp only [nb_lit]
    rw [Nat.sub_self, if_pos cnt_0]
    exact ⟨m1, rfl, by rw [show many = many - 1 + 1 by omega]; exact g1, g2⟩
  · exact ⟨_, rfl, R0.add2, fun d d1 d2 => by rw [up_ne d1, up_ne d2]⟩
/-- the shortest one is followed -/
theorem z_short (X : XR r) (hB : isB B) (R : BR m B b) (W : WFb b) {pb : Nat → Nat → Bool} {L1 L2 : Nat → Nat} {rr : Nat → Nat → Nat} (h76 : m 76 1 = nI 0) (P1 : OP m b s 78) (P2 : OP m b s 92) (hL1 : ∀ k, k < 10 → m (78 + 1) k = nI (L1 k) ∧ L1 k < 1024) (hL2 : ∀ k, k < 10 → m (92 + 1) k = nI (L2 k) ∧ L2 k < 1024) (hp : ∀ k, k < 10 → ∀ f, f < bN b → (if opA b f = 78 then L1 k else L2 k).testBit f = pb k f)
    (hf : ∀ k, k < 10 → fst (fun f => pb k f) (bN b) < bN b → ∃ m', f_X8_follow 75 B (nI (fst (fun f => pb k f) (bN b))) (nI k) x (130, m, r) = some (130, m', r) ∧ RW m' 76 (k + 1) (rr k) ∧ ∀ d, d ≠ 76 → d ≠ 77 → m' d = m d) : ∃ m', f_X8_followShortest 75 B x (130, m, r) = some (130, m', r) ∧ RW m' 76 (if fst (fun k => decide (fst (fun f => pb k f) (bN b) < bN b)) 10 = 10 then 0 else fst (fun k => decide (fst (fun f => pb k f) (bN b) < bN b)) 10 + 1) (rr (fst (fun k => decide (fst (fun f => pb k f) (bN b) < bN b)) 10)) ∧ ∀ d, d ≠ 76 → d ≠ 77 → m' d = m d := by
  unfold f_X8_followShortest
  have key : ∀ k, k < 10 → f_X0_firstOf B (nI (L1 k &&& fiO b 78) ||| nI (L2 k &&& fiO b 92)) (130, m, r) = some (if fst (fun f => pb k f) (bN b) < bN b then nI (fst (fun f => pb k f) (bN b)) else -nI 4) := by
    intro k hk
    have l1 := (hL1 k hk).2
    have l2 := (hL2 k hk).2
    have hA : (L1 k &&& fiO b 78) ||| (L2 k &&& fiO b 92) < 2 ^ 31 := by
      have a1 : L1 k &&& fiO b 78 < 2 ^ 10 := and_lt (by omega)
      have a2 : L2 k &&& fiO b 92 < 2 ^ 10 := and_lt (by omega)
      have := or_lt a1 a2
      omega
    rw [nb_or, bo_first hB R W hA, fst_congr (q := fun f => pb k f) (fun f hfn => by rw [fi_bits W hfn]; exact hp k hk f hfn)]
  refine fix_find (fun i q => q = (nI i, (130, m, r)) ∧ ∀ k, k < i → ¬ fst (fun f => pb k f) (bN b) < bN b) 10 (Q := fun o => ∃ m', o = some (130, m', r) ∧ RW m' 76 (if fst (fun k => decide (fst (fun f => pb k f) (bN b) < bN b)) 10 = 10 then 0 else fst (fun k => decide (fst (fun f => pb k f) (bN b) < bN b)) 10 + 1) (rr (fst (fun k => decide (fst (fun f => pb k f) (bN b) < bN b)) 10)) ∧ ∀ d, d ≠ 76 → d ≠ 77 → m' d = m d) ?_ ?_ (by omega) ⟨rfl, fun k hk => absurd hk (Nat.not_lt_zero k)⟩
  · rintro i q hi ⟨rfl, g1⟩
    by_cases hq : fst (fun f => pb i f) (bN b) < bN b
    · refine Or.inr (fun self => ?_)
      obtain ⟨m1, e1, e2, e3⟩ := hf i hi hq
      have ek : fst (fun k => decide (fst (fun f => pb k f) (bN b) < bN b)) 10 = i := fst_eq hi (by simpa using hq) (fun j hj => by simpa using g1 j hj)
      rw [ek, if_neg (by omega)]
      unfold f_X8_followShortest_L2
      simp only [nb_lit]
      have W1 := W.1
      rw [if_neg (n_nle hi (by decide)), bnd (zr1 X), if_pos (ogd o78), bnd (o_firsts X o78 hi (hL1 i hi).1 P1.1), bnd (zr2 X), if_pos (ogd o92), bnd (o_firsts X o92 hi (hL2 i hi).1 P2.1), if_pos (bgd hB), bnd (key i hi), if_pos hq, if_neg (ng_ne (by decide) (by decide) (by omega)), if_pos zgd, bnd e1]
      exact ⟨m1, rfl, e2, e3⟩
    · refine Or.inl ⟨(nI (i + 1), (130, m, r)), ⟨rfl, fun k hk => ?_⟩, fun self => ?_⟩
      · by_cases he : k = i
        · rw [he]; exact hq
        · exact g1 k (by omega)
      · unfold f_X8_followShortest_L2
        simp only [nb_lit]
        rw [if_neg (n_nle hi (by decide)), bnd (zr1 X), if_pos (ogd o78), bnd (o_firsts X o78 hi (hL1 i hi).1 P1.1), bnd (zr2 X), if_pos (ogd o92), bnd (o_firsts X o92 hi (hL2 i hi).1 P2.1), if_pos (bgd hB), bnd (key i hi), if_neg hq, if_pos rfl, nI_add]
  · rintro q ⟨rfl, g1⟩ self
    have ek : fst (fun k => decide (fst (fun f => pb k f) (bN b) < bN b)) 10 = 10 := fst_none (fun j hj => by simpa using g1 j hj)
    rw [ek, if_pos rfl]
    unfold f_X8_followShortest_L2
    simp only [nb_lit]
    rw [if_pos (n_le (Nat.le_refl _) (by decide))]
    exact ⟨m, rfl, ⟨h76, fun i hi => absurd hi (Nat.not_lt_zero i)⟩, fun _ _ _ => rfl⟩
theorem o_safe (X : XR r) (hB : isB B) (R : BR m B b) (W : WFb b) (h : isOp a) (hD : m a 2 = nI D) (hw : w < bN b) : ∃ m', f_X5_seekSafe a B (nI w) (130, m, r) = some (130, m', r) ∧ (∀ k, k < 10 → m' (a + 1) k = nI (ldS b D w k) ∧ m' (a + 2) k = nI (late b D k)) ∧ ∀ d, d ≠ a + 1 → d ≠ a + 2 → m' d = m d := by
  have hb := b_ly hB
  have ho := o_ly h
  have hn := W.1
  unfold f_X5_seekSafe
  simp only [nb_lit]
  have R0 : BR (mx_up m (a + 2) 0 (nI (stopsB b))) B b := R.congr (fun c c1 c2 => up_ne (by omega))
  rw [bnd (or4 X h), bnd (bg hB (by decide)), R.1.2.2.1, bnd (os2 h (by decide) _), bnd (or3 X h), bnd (bg hB (by decide)), R0.1.2.2.1, bnd (bo_bit (by omega) _), nb_and, bnd (os1 h (by decide) _)]
  refine fix_rel (fun t q => ∃ m1 : Nat → Nat → Int32, q = (nI (t + 1), (130, m1, r)) ∧ (∀ k, k < t + 1 → m1 (a + 1) k = nI (ldS b D w k) ∧ m1 (a + 2) k = nI (late b D k)) ∧ ∀ d, d ≠ a + 1 → d ≠ a + 2 → m1 d = m d) 9 (Q := fun o => ∃ m' : Nat → Nat → Int32, o = some (130, m', r) ∧ (∀ k, k < 10 → m' (a + 1) k = nI (ldS b D w k) ∧ m' (a + 2) k = nI (late b D k)) ∧ ∀ d, d ≠ a + 1 → d ≠ a + 2 → m' d = m d) ?_ ?_ (by omega) ?_
  · rintro t q ht ⟨m1, rfl, g1, g2⟩
    have R1 : BR m1 B b := R.congr (fun c c1 c2 => g2 c (by omega) (by omega))
    have R2 : BR (mx_up m1 (a + 2) (t + 1) (nI (late b D (t + 1)))) B b := R1.congr (fun c c1 c2 => up_ne (by omega))
    have d1 : m1 a 2 = nI D := by rw [g2 a (by omega) (by omega)]; exact hD
    have lt := (g1 t (by omega))
    refine ⟨(nI (t + 1 + 1), (130, mx_up (mx_up m1 (a + 2) (t + 1) (nI (late b D (t + 1)))) (a + 1) (t + 1) (nI (ldS b D w (t + 1))), r)), ⟨_, rfl, fun k hk => ?_, fun d d1 d2 => by rw [up_ne d1, up_ne d2]; exact g2 d d1 d2⟩, fun self => ?_⟩
    · by_cases he : k = t + 1
      · rw [he, hb_up_same, hb_up_ne (by omega), hb_up_same]
        exact ⟨rfl, rfl⟩
      · rw [hb_up_ne (by omega), hb_up_ne (by omega), hb_up_ne (by omega), hb_up_ne (by omega)]
        exact g1 k (by omega)
    · have l1 : ahead b (late b D t) < 1024 := lt1024 ahead_lt W.1.2
      have l2 : ahead b (ldS b D w t) < 1024 := lt1024 ahead_lt W.1.2
      have l3 : nb_dif (ahead b (ldS b D w t)) D < 1024 := lt1024 (dif_lt ahead_lt) W.1.2
      unfold f_X5_seekSafe_L27
      simp only [nb_lit]
      rw [if_neg (n_nle (by omega) (by decide)), bnd (or4 X h), bnd (or4 X h), nb_sub (by omega), Nat.add_sub_cancel, bnd (oa2 h (by omega)), lt.2, if_pos (bgd hB), bnd (bo_ahead X hB R1 W _), bnd (og h (by decide)), d1, nb_andn2 l1, late_s W, bnd (os2 h (by omega) _), bnd (or3 X h), bnd (oa1 h (by omega)), hb_up_ne (by omega), lt.1, if_pos (bgd hB), bnd (bo_ahead X hB R2 W _), bnd (og h (by decide)), hb_up_ne (by omega), d1, bnd (bo_bit (by omega) _), bnd (or3 X h), bnd (or4 X h), bnd (oa2 h (by omega)), hb_up_same, bnd (bo_bit (by omega) _), nb_andn2 l2, nb_andn2 l3, nb_and, nb_or, bnd (os1 h (by omega) _), nI_add]
      rfl
  · rintro q ⟨m1, rfl, g1, g2⟩ self
    unfold f_X5_seekSafe_L27
    simp only [nb_lit]
    rw [if_pos (n_le (by decide) (by decide))]
    exact ⟨m1, rfl, g1, g2⟩
  · refine ⟨_, rfl, fun k hk => ?_, fun d d1 d2 => by rw [up_ne d1, up_ne d2]⟩
    have : k = 0 := by omega
    subst this
    rw [hb_up_same, hb_up_ne (by omega), hb_up_same]
    exact ⟨rfl, rfl⟩
end X8
