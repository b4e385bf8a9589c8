/-! over a heap of 114 cells: what a new object's start needs -/
section X1q
variable {m : Nat → Nat → Int32} {r : Nat → Nat → Option Nat} {a c n B k w : Nat} {f g : Nat → Nat} {b : Bo} {s : St} {x : Int32}
def isRwq (r : Nat → Nat → Option Nat) (a : Nat) : Prop := a + 1 < 114 ∧ (mx_lay a).1 = 10 ∧ mx_lay (a + 1) = (0, 12) ∧ r a 0 = some (a + 1)
theorem rp_nq (H : isRwq r a) (v : Int32) : mx_pi (114, m, r) a 7 1 v = some (114, mx_up m a 1 v, r) := hb_pi (by have := H.1; omega) H.2.1 (by decide) v
theorem rgdq (H : isRwq r a) : a < 114 ∧ (mx_lay a).1 = 10 := ⟨by have := H.1; omega, H.2.1⟩
theorem rw_clearq (H : isRwq r a) : f_X7_clear a (114, m, r) = some (114, mx_up m a 1 (nI 0), r) := by
  unfold f_X7_clear
  rw [bnd (rp_nq H 0)]
  rfl
theorem bgq (hB : isB B) (hf : mx_fk 0 k = 0 ∨ mx_fk 0 k = 2) : mx_gi (114, m, r) B 0 k = some (m B k) := hb_gi (by have := b_ly hB; omega) (b_ly hB).1 hf
theorem bpq (hB : isB B) (hf : mx_fk 0 k = 0) (v : Int32) : mx_pi (114, m, r) B 0 k v = some (114, mx_up m B k v, r) := hb_pi (by have := b_ly hB; omega) (b_ly hB).1 hf v
theorem bgdq (hB : isB B) : B < 114 ∧ (mx_lay B).1 = 3 := ⟨by have := b_ly hB; omega, (b_ly hB).1⟩
theorem br0q (H : XR r) (hB : isB B) : mx_gr (114, m, r) B 0 0 = some (B + 1) := hb_gr (bgdq hB).1 (bgdq hB).2 (by decide) (H.2.2.1 B hB).1
theorem br1q (H : XR r) (hB : isB B) : mx_gr (114, m, r) B 0 1 = some (B + 2) := hb_gr (bgdq hB).1 (bgdq hB).2 (by decide) (H.2.2.1 B hB).2.1
theorem br2q (H : XR r) (hB : isB B) : mx_gr (114, m, r) B 0 2 = some (B + 3) := hb_gr (bgdq hB).1 (bgdq hB).2 (by decide) (H.2.2.1 B hB).2.2
theorem ba3q (hB : isB B) (hk : k < 10) : mx_al (114, m, r) (B + 3) (nI k) = some (m (B + 3) k) := hb_al (by have := b_ly hB; omega) (by rw [(b_ly hB).2.2.2.1]) (by rw [(b_ly hB).2.2.2.1]; exact hk)
theorem bs1q (hB : isB B) (hk : k < 10) (v : Int32) : mx_as (114, m, r) (B + 1) (nI k) v = some (114, mx_up m (B + 1) k v, r) := hb_as (by have := b_ly hB; omega) (by rw [(b_ly hB).2.1]) (by rw [(b_ly hB).2.1]; exact hk) v
theorem bs2q (hB : isB B) (hk : k < 10) (v : Int32) : mx_as (114, m, r) (B + 2) (nI k) v = some (114, mx_up m (B + 2) k v, r) := hb_as (by have := b_ly hB; omega) (by rw [(b_ly hB).2.2.1]) (by rw [(b_ly hB).2.2.1]; exact hk) v
theorem bs3q (hB : isB B) (hk : k < 10) (v : Int32) : mx_as (114, m, r) (B + 3) (nI k) v = some (114, mx_up m (B + 3) k v, r) := hb_as (by have := b_ly hB; omega) (by rw [(b_ly hB).2.2.2.1]) (by rw [(b_ly hB).2.2.2.1]; exact hk) v
theorem bo_hasNq (hB : isB B) (h3 : m B 3 = nI n) (hn : n ≤ 10) (hw : w < n) : f_X0_has B (nI w) (114, m, r) = some (nI 1) := by
  unfold f_X0_has
  simp only [nb_lit]
  rw [if_neg (nI_pos0 (by omega)), bnd (bgq hB (by decide)), h3, if_neg (n_nle hw (by omega)), if_neg (n_nle (by omega) (by omega)), Option.bind_some, if_pos (Or.inr rfl)]
theorem bo_noNq (hB : isB B) (h3 : m B 3 = nI n) (hx : x < 0 ∨ nI n ≤ x) : f_X0_has B x (114, m, r) = some (nI 0) := by
  unfold f_X0_has
  by_cases h : x < 0
  · rw [if_pos h]
    rfl
  · rw [if_neg h, bnd (bgq hB (by decide)), h3, if_pos (hx.resolve_left h)]
    rfl
end X1q
section X2q
variable {m m' : Nat → Nat → Int32} {r : Nat → Nat → Option Nat} {a c d n B k w i v : Nat} {f g : Nat → Nat} {b : Bo} {s : St} {x : Int32}
def isMyq (c : Nat) : Prop := c < 114 ∧ (mx_lay c).1 = 7
theorem sgdq (h : isSt a) : a < 114 ∧ (mx_lay a).1 = 12 := ⟨by have := st_ly h; omega, (st_ly h).2.1⟩
theorem spq (h : isSt a) (hf : mx_fk 9 k = 0) (v : Int32) : mx_pi (114, m, r) a 9 k v = some (114, mx_up m a k v, r) := hb_pi (sgdq h).1 (sgdq h).2 hf v
theorem sr0q (H : XR r) (h : isSt a) : mx_gr (114, m, r) a 9 0 = some (a + 1) := hb_gr (sgdq h).1 (sgdq h).2 (by decide) (H.2.2.2.1 a h).1
theorem sr1q (H : XR r) (h : isSt a) : mx_gr (114, m, r) a 9 1 = some (a + 3) := hb_gr (sgdq h).1 (sgdq h).2 (by decide) (H.2.2.2.1 a h).2.2.1
theorem sr2q (H : XR r) (h : isSt a) : mx_gr (114, m, r) a 9 2 = some (a + 4) := hb_gr (sgdq h).1 (sgdq h).2 (by decide) (H.2.2.2.1 a h).2.2.2
theorem st_rwq (H : XR r) (h : isSt a) : isRwq r (a + 1) := ⟨by have := st_ly h; omega, (st_ly h).2.2.1, (st_ly h).2.2.2.1, (H.2.2.2.1 a h).2.1⟩
theorem st_myq (h : isSt a) (hi : i < 2) : isMyq (a + 3 + i) := by
  have q := st_ly h
  refine ⟨by omega, ?_⟩
  have : i = 0 ∨ i = 1 := by omega
  rcases this with rfl | rfl
  · exact q.2.2.2.2.1
  · exact q.2.2.2.2.2
theorem st_my0q (h : isSt a) : isMyq (a + 3) := st_myq (i := 0) h (by decide)
theorem st_my1q (h : isSt a) : isMyq (a + 4) := st_myq (i := 1) h (by decide)
theorem mydq (h : isMyq c) : c < 114 ∧ (mx_lay c).1 = 7 := h
theorem mpq (h : isMyq c) (hf : mx_fk 4 k = 0) (v : Int32) : mx_pi (114, m, r) c 4 k v = some (114, mx_up m c k v, r) := hb_pi h.1 h.2 hf v
theorem st_startq (H : XR r) (hB : isB B) (R : BR m B b) (ha : isSt a) : ∃ m', f_X9_startIn a B (114, m, r) = some (114, m', r) ∧ SX m' a (newS b) ∧ ∀ d, (d < a ∨ a + 4 < d) → m' d = m d := by
  have hl := st_ly ha
  have hb := b_ly hB
  refine ⟨mx_up (mx_up (mx_up (mx_up (mx_up (mx_up (mx_up (mx_up (mx_up (mx_up m (a + 1) 1 (nI 0)) (a + 3) 0 0) (a + 3) 1 0) (a + 3) 2 (nI (bY b 0))) (a + 4) 0 0) (a + 4) 1 0) (a + 4) 2 (nI (bY b 1))) a 3 (nI (bC b))) a 4 0) a 5 0, ?_, ⟨⟨?_, fun i hi => absurd hi (Nat.not_lt_zero i)⟩, fun i hi => ?_, ?_, ?_, ?_⟩, fun d hd => ?_⟩
  · unfold f_X9_startIn f_X4_startWith
    rw [bnd (sr0q H ha), if_pos (rgdq (st_rwq H ha)), bnd (rw_clearq (st_rwq H ha)), bnd (sr1q H ha), bnd (bgq hB (by decide)), up_ne (by omega), R.1.2.2.2.2.1, if_pos (mydq (st_my0q ha)), bnd (mpq (st_my0q ha) (by decide) _), bnd (mpq (st_my0q ha) (by decide) _), bnd (mpq (st_my0q ha) (by decide) _), Option.bind_some, bnd (sr2q H ha), bnd (bgq hB (by decide)), up_ne (by omega), up_ne (by omega), up_ne (by omega), up_ne (by omega), R.1.2.2.2.2.2.1, if_pos (mydq (st_my1q ha)), bnd (mpq (st_my1q ha) (by decide) _), bnd (mpq (st_my1q ha) (by decide) _), bnd (mpq (st_my1q ha) (by decide) _), Option.bind_some, bnd (bgq hB (by decide)), up_ne (by omega), up_ne (by omega), up_ne (by omega), up_ne (by omega), up_ne (by omega), up_ne (by omega), up_ne (by omega), R.1.2.2.2.2.2.2.2, bnd (spq ha (by decide) _), bnd (spq ha (by decide) _), bnd (spq ha (by decide) _)]
    try rfl
  · rw [up_ne (by omega), up_ne (by omega), up_ne (by omega), up_ne (by omega), up_ne (by omega), up_ne (by omega), up_ne (by omega), up_ne (by omega), up_ne (by omega), hb_up_same]
    try rfl
  · have : i = 0 ∨ i = 1 := by omega
    rcases this with rfl | rfl
    · refine ⟨?_, ?_, ?_⟩ <;> simp [mx_up, newS, sD, sG, sY]
    · refine ⟨?_, ?_, ?_⟩ <;> simp [mx_up, newS, sD, sG, sY]
  · rw [hb_up_ne (by omega), hb_up_ne (by omega), hb_up_same]; rfl
  · rw [hb_up_ne (by omega), hb_up_same]; rfl
  · rw [hb_up_same]; rfl
  · rw [up_ne (by omega), up_ne (by omega), up_ne (by omega), up_ne (by omega), up_ne (by omega), up_ne (by omega), up_ne (by omega), up_ne (by omega), up_ne (by omega), up_ne (by omega)]
end X2q
def isPlq (r : Nat → Nat → Option Nat) (c n : Nat) : Prop := c + 1 < 114 ∧ (mx_lay c).1 = 9 ∧ mx_lay (c + 1) = (1, n) ∧ r c 0 = some (c + 1) ∧ n ≤ 8 ∧ 1 ≤ n
theorem pl_uq {r : Nat → Nat → Option Nat} (H : XR r) : isPlq r 17 8 := ⟨by decide, by decide +kernel, by decide +kernel, H.2.2.2.2.1.1, by decide, by decide⟩
theorem pl_kq {r : Nat → Nat → Option Nat} (H : XR r) : isPlq r 59 2 := ⟨by decide, by decide +kernel, by decide +kernel, H.2.2.2.2.1.2.1, by decide, by decide⟩
section X4q
variable {m m' : Nat → Nat → Int32} {r r' : Nat → Nat → Option Nat} {a c d n B D k w i u v : Nat} {f g P : Nat → Nat} {b : Bo} {s : St} {x : Int32} {A : Ab} {U : Nat × (Nat → St)}
theorem pgdq (H : isPlq r c n) : c < 114 ∧ (mx_lay c).1 = 9 := ⟨by have := H.1; omega, H.2.1⟩
theorem pp_nq (H : isPlq r c n) (v : Int32) : mx_pi (114, m, r) c 6 1 v = some (114, mx_up m c 1 v, r) := hb_pi (pgdq H).1 (pgdq H).2 (by decide) v
end X4q
section X5q
variable {m m' : Nat → Nat → Int32} {r r' : Nat → Nat → Option Nat} {a c d n B D k w i u v : Nat} {f g P : Nat → Nat} {b : Bo} {s : St} {x y : Int32} {A : Ab} {U : Nat × (Nat → St)}
theorem xrq (h : r 0 k = some v) (hk : mx_fk 11 k = 1) : mx_gr (114, m, r) 0 11 k = some v := hb_gr (by decide) (by decide +kernel) hk h
theorem xtq (H : XR r) : mx_gr (114, m, r) 0 11 0 = some 1 := xrq H.1.1 (by decide)
theorem xnq (H : XR r) : mx_gr (114, m, r) 0 11 3 = some 12 := xrq H.1.2.1 (by decide)
theorem xuq (H : XR r) : mx_gr (114, m, r) 0 11 4 = some 17 := xrq H.1.2.2.1 (by decide)
theorem xkq (H : XR r) : mx_gr (114, m, r) 0 11 5 = some 59 := xrq H.1.2.2.2.1 (by decide)
theorem xqq (H : XR r) : mx_gr (114, m, r) 0 11 8 = some 106 := xrq H.1.2.2.2.2.2.2.1 (by decide)
theorem tgdq : 1 < 114 ∧ (mx_lay 1).1 = 13 := ⟨by decide, by decide +kernel⟩
theorem tgq (hf : mx_fk 10 k = 0 ∨ mx_fk 10 k = 2) : mx_gi (114, m, r) 1 10 k = some (m 1 k) := hb_gi (by decide) (by decide +kernel) hf
theorem tpq (hf : mx_fk 10 k = 0) (v : Int32) : mx_pi (114, m, r) 1 10 k v = some (114, mx_up m 1 k v, r) := hb_pi (by decide) (by decide +kernel) hf v
theorem tr0q (H : XR r) : mx_gr (114, m, r) 1 10 0 = some 2 := hb_gr (by decide) (by decide +kernel) (by decide) H.2.1.1
theorem tr1q (H : XR r) : mx_gr (114, m, r) 1 10 1 = some 3 := hb_gr (by decide) (by decide +kernel) (by decide) H.2.1.2
theorem tlnq : mx_ln (114, m, r) 2 = some (nI 200) := by
  unfold mx_ln
  rw [if_pos ⟨by show 2 < 114; decide, Or.inl (by decide +kernel)⟩]
  rfl
theorem tln3q : mx_ln (114, m, r) 3 = some (nI 2) := by
  unfold mx_ln
  rw [if_pos ⟨by show 3 < 114; decide, Or.inl (by decide +kernel)⟩]
  rfl
theorem taq (hk : k < 200) : mx_al (114, m, r) 2 (nI k) = some (m 2 k) := hb_al (by decide) (by decide +kernel) (by rw [show mx_lay 2 = (0, 200) by decide +kernel]; exact hk)
theorem tasq (hk : k < 200) (v : Int32) : mx_as (114, m, r) 2 (nI k) v = some (114, mx_up m 2 k v, r) := hb_as (by decide) (by decide +kernel) (by rw [show mx_lay 2 = (0, 200) by decide +kernel]; exact hk) v
theorem ta3q (hk : k < 2) : mx_al (114, m, r) 3 (nI k) = some (m 3 k) := hb_al (by decide) (by decide +kernel) (by rw [show mx_lay 3 = (0, 2) by decide +kernel]; exact hk)
theorem tas3q (hk : k < 2) (v : Int32) : mx_as (114, m, r) 3 (nI k) v = some (114, mx_up m 3 k v, r) := hb_as (by decide) (by decide +kernel) (by rw [show mx_lay 3 = (0, 2) by decide +kernel]; exact hk) v
theorem x_taddq (X : XR r) (h1 : m 1 2 = nI n) (hn : n < 200) (v : Int32) : f_X10_add 1 v (114, m, r) = some (nI 1, (114, mx_up (mx_up m 2 n v) 1 2 (nI (n + 1)), r)) := by
  unfold f_X10_add
  simp only [nb_lit]
  rw [bnd (tgq (by decide)), h1, if_neg (nI_pos0 (by omega)), bnd (tgq (by decide)), h1, bnd (tr0q X), bnd tlnq, if_pos (n_lt hn (by decide)), bnd (tr0q X), bnd (tgq (by decide)), h1, bnd (tasq hn v), bnd (tgq (by decide)), hb_up_ne (by omega), h1, nI_add, bnd (tpq (by decide) _)]
end X5q
section X6q
variable {m m' : Nat → Nat → Int32} {r r' : Nat → Nat → Option Nat} {a c d n B D k w i u v : Nat} {f g P : Nat → Nat} {b : Bo} {s : St} {x y : Int32} {A : Ab} {U : Nat × (Nat → St)}
theorem qgdq : 106 < 114 ∧ (mx_lay 106).1 = 6 := ⟨by decide, by decide +kernel⟩
theorem qpq (hf : mx_fk 3 k = 0) (v : Int32) : mx_pi (114, m, r) 106 3 k v = some (114, mx_up m 106 k v, r) := hb_pi (by decide) (by decide +kernel) hf v
theorem qpbq {v : Int32} (hv : v = 0 ∨ v = 1) : mx_pi (114, m, r) 106 3 1 v = some (114, mx_up m 106 1 v, r) := by
  unfold mx_pi
  rw [if_pos ⟨by show 106 < 114; decide, by decide +kernel, Or.inr ⟨by decide, hv⟩⟩]
theorem x_qclearq : f_X3_clear 106 (114, m, r) = some (114, mx_up (mx_up (mx_up m 106 2 (nI 0)) 106 3 (nI 0)) 106 4 (nI 0), r) := by
  unfold f_X3_clear
  simp only [nb_lit]
  rw [bnd (qpq (by decide) _), bnd (qpq (by decide) _), bnd (qpq (by decide) _)]
end X6q
section X13q
variable {m m' : Nat → Nat → Int32} {r r' : Nat → Nat → Option Nat} {a c d n B D k w i j u v t p : Nat} {b : Bo} {x y : Int32} {A : Ab} {X : Nat × (Nat → Int32)}
theorem x_letq (H : XR r) (T : XX m X) (hX : X.1 ≤ 200) (hp : p < 1000) : f_X10_letterAt 1 (nI p) (114, m, r) = some (lX X p) := by
  unfold f_X10_letterAt lX
  simp only [nb_lit]
  rw [if_neg (nI_pos0 (by omega)), bnd (tgq (by decide)), T.1]
  by_cases h : p < X.1
  · rw [if_neg (n_nle h (by omega)), bnd (tr0q H), bnd tlnq, if_neg (n_nle (by omega) (by decide)), bnd (tr0q H), bnd (taq (by omega)), T.2 p h, if_pos h]
    rfl
  · rw [if_pos (n_le (by omega) (by omega)), if_neg h]
    rfl
theorem x_figsq (H : XR r) (T : XX m X) (hX : X.1 ≤ 200) (hp : p < 900) : f_X10_figuresAt 1 (nI p) (114, m, r) = some (nI (nfig X p)) := by
  unfold f_X10_figuresAt nfig
  simp only [nb_lit]
  rw [if_pos tgdq, bnd (x_letq H T hX (by omega)), bnd x_fig]
  by_cases h1 : figB X p = true
  · rw [if_pos h1, if_pos h1, if_pos (n_ne (by decide) (by decide) (by decide) : ¬ nI 1 = nI 0), if_pos tgdq, nI_add, bnd (x_letq H T hX (by omega)), bnd x_fig]
    by_cases h2 : figB X (p + 1) = true
    · rw [if_pos h2, if_pos h2, if_neg (n_ne (by decide) (by decide) (by decide) : ¬ nI 1 = nI 0)]
      rfl
    · rw [if_neg h2, if_neg h2, if_pos rfl]
      rfl
  · rw [if_neg h1, if_neg h1, if_neg (not_not_intro rfl)]
theorem x_valq (H : XR r) (T : XX m X) (hX : X.1 ≤ 200) (hp : p < 900) {q : Nat × Nat} (h : numB X p = some q) : f_X10_valueAt 1 (nI p) (nI (nfig X p)) (114, m, r) = some (nI q.1) := by
  obtain ⟨h1, -, -, -⟩ := numB_fig h
  have v1 := (figV_of h1).2.1
  unfold f_X10_valueAt
  simp only [nb_lit]
  rw [if_pos tgdq, bnd (x_letq H T hX (by omega)), lX_fig h1]
  have s1 : nI (48 + figV X p) - nI 48 = nI (figV X p) := by rw [nb_sub (by omega), show 48 + figV X p - 48 = figV X p by omega]
  unfold numB at h
  unfold nfig
  rw [if_pos h1] at h ⊢
  by_cases h2 : figB X (p + 1) = true
  · rw [if_pos h2] at h ⊢
    cases h
    have v2 := (figV_of h2).2.1
    rw [if_neg (not_not_intro rfl), if_pos tgdq, nI_add, bnd (x_letq H T hX (by omega)), lX_fig h2, s1, Option.bind_some, pk_mul, nI_add, nb_sub (by omega)]
    congr 2
    show figV X p * 10 + (48 + figV X (p + 1)) - 48 = 10 * figV X p + figV X (p + 1)
    omega
  · rw [if_neg h2] at h ⊢
    cases h
    rw [if_pos (n_ne (by decide) (by decide) (by decide) : ¬ nI 1 = nI 2), s1]
    rfl
theorem x_oneq (H : XR r) (T : XX m X) (hX : X.1 ≤ 200) (hp : p < 800) (hi : i < 2) {self : Int32 × Int32 × mx_Hp → Option (Int32 × mx_Hp)} : f_X10_readItem_L11 1 self (nI p, nI i, (114, m, r)) = match numB X p with
    | none => some (-nI 1, (114, m, r))
    | some t => if chrB X t.2 59 = true then some (nI (t.2 + 1), (114, mx_up (mx_up m 3 i (nI t.1)) 1 3 (nI (i + 1)), r)) else if chrB X t.2 44 = true then self (nI (t.2 + 1), nI (i + 1), (114, mx_up (mx_up m 3 i (nI t.1)) 1 3 (nI (i + 1)), r)) else some (-nI 1, (114, mx_up (mx_up m 3 i (nI t.1)) 1 3 (nI (i + 1)), r)) := by
  unfold f_X10_readItem_L11
  simp only [nb_lit]
  rw [bnd (tr1q H), bnd tln3q, if_neg (n_nle hi (by omega)), if_pos tgdq, bnd (x_figsq H T hX (by omega))]
  cases hn : numB X p with
  | none =>
    rw [numB_nofig hn, if_neg (not_not_intro rfl)]
  | some t =>
    obtain ⟨f1, f2, f3, f4⟩ := numB_fig hn
    have T2 : XX (mx_up (mx_up m 3 i (nI t.1)) 1 3 (nI (i + 1))) X := ⟨by rw [hb_up_ne (by omega), up_ne (by decide)]; exact T.1, fun j hj => by rw [up_ne (by decide), up_ne (by decide)]; exact T.2 j hj⟩
    rw [if_pos (n_ne (by omega) (by omega) (by decide)), bnd (tr1q H), if_pos tgdq, bnd (x_valq H T hX (by omega) hn), bnd (tas3q hi _), nI_add, bnd (tpq (by decide) _), if_pos tgdq, nI_add, ← f2, bnd (x_letq H T2 hX (by omega))]
    by_cases c59 : chrB X t.2 59 = true
    · rw [if_neg (not_not_intro ((lX_chr (by decide)).mpr c59)), nI_add]
      simp only [c59, if_true]
    · rw [if_pos (fun q => c59 ((lX_chr (by decide)).mp q)), if_pos tgdq, bnd (x_letq H T2 hX (by omega))]
      by_cases c44 : chrB X t.2 44 = true
      · rw [if_pos ((lX_chr (by decide)).mpr c44), nI_add]
        simp only [c59, c44, if_true, if_false, Bool.false_eq_true]
      · rw [if_neg (fun q => c44 ((lX_chr (by decide)).mp q))]
        simp only [c59, c44, if_false, Bool.false_eq_true]
theorem x_ritemq (H : XR r) (T : XX m X) (hX : X.1 ≤ 200) (hp : p < 400) : ∃ m', f_X10_readItem 1 (nI p) (114, m, r) = some ((match rdX X p with | none => -nI 1 | some z => nI z.2.2), (114, m', r)) ∧ (∀ z, rdX X p = some z → m' 3 0 = nI z.1 ∧ (match z.2.1 with | none => m' 1 3 = nI 1 | some u => m' 1 3 = nI 2 ∧ m' 3 1 = nI u)) ∧ (∀ d, d ≠ 1 → d ≠ 3 → m' d = m d) ∧ m' 1 2 = m 1 2 := by
  have T0 : XX (mx_up m 1 3 (nI 0)) X := ⟨by rw [hb_up_ne (by omega)]; exact T.1, fun j hj => by rw [up_ne (by decide)]; exact T.2 j hj⟩
  unfold f_X10_readItem
  simp only [nb_lit]
  rw [bnd (tpq (by decide) _), nI_add, show (2000 : Nat) = 1999 + 1 from rfl, fix_1, x_oneq H T0 hX (by omega) (by decide)]
  unfold rdX
  cases hn : numB X (p + 1) with
  | none =>
    exact ⟨_, rfl, fun z q => (by cases q), fun d d1 d3 => up_ne d1, by rw [hb_up_ne (by omega)]⟩
  | some t =>
    have hl := numB_le hn
    have T1 : XX (mx_up (mx_up (mx_up m 1 3 (nI 0)) 3 0 (nI t.1)) 1 3 (nI (0 + 1))) X := ⟨by rw [hb_up_ne (by omega), up_ne (by decide)]; exact T0.1, fun j hj => by rw [up_ne (by decide), up_ne (by decide)]; exact T0.2 j hj⟩
    have F1 : ∀ d, d ≠ 1 → d ≠ 3 → (mx_up (mx_up (mx_up m 1 3 (nI 0)) 3 0 (nI t.1)) 1 3 (nI (0 + 1))) d = m d := fun d d1 d3 => by rw [up_ne d1, up_ne d3, up_ne d1]
    have F2 : (mx_up (mx_up (mx_up m 1 3 (nI 0)) 3 0 (nI t.1)) 1 3 (nI (0 + 1))) 1 2 = m 1 2 := by rw [hb_up_ne (by omega), up_ne (by decide), hb_up_ne (by omega)]
    have F3 : (mx_up (mx_up (mx_up m 1 3 (nI 0)) 3 0 (nI t.1)) 1 3 (nI (0 + 1))) 3 0 = nI t.1 := by rw [up_ne (by decide), hb_up_same]
    dsimp only
    by_cases c59 : chrB X t.2 59 = true
    · rw [if_pos c59, if_pos c59]
      refine ⟨_, rfl, fun z q => ?_, F1, F2⟩
      cases q
      exact ⟨F3, hb_up_same⟩
    · rw [if_neg c59, if_neg c59]
      by_cases c44 : chrB X t.2 44 = true
      · rw [if_pos c44, if_pos c44, show (1999 : Nat) = 1998 + 1 from rfl, fix_1, x_oneq H T1 hX (by omega) (by decide)]
        generalize mx_up (mx_up (mx_up m 1 3 (nI 0)) 3 0 (nI t.1)) 1 3 (nI (0 + 1)) = g at *
        cases hu : numB X (t.2 + 1) with
        | none => exact ⟨g, rfl, fun z q => (by cases q), F1, F2⟩
        | some u =>
          have G1 : ∀ d, d ≠ 1 → d ≠ 3 → (mx_up (mx_up g 3 (0 + 1) (nI u.1)) 1 3 (nI (0 + 1 + 1))) d = m d := fun d d1 d3 => by rw [up_ne d1, up_ne d3, F1 d d1 d3]
          have G2 : (mx_up (mx_up g 3 (0 + 1) (nI u.1)) 1 3 (nI (0 + 1 + 1))) 1 2 = m 1 2 := by rw [hb_up_ne (by omega), up_ne (by decide), F2]
          dsimp only
          by_cases d59 : chrB X u.2 59 = true
          · rw [if_pos d59, if_pos d59]
            refine ⟨_, rfl, fun z q => ?_, G1, G2⟩
            cases q
            refine ⟨by rw [up_ne (by decide), hb_up_ne (by omega), F3], hb_up_same, by rw [up_ne (by decide), hb_up_same]⟩
          · rw [if_neg d59, if_neg d59]
            by_cases d44 : chrB X u.2 44 = true
            · rw [if_pos d44, show (1998 : Nat) = 1997 + 1 from rfl, fix_1]
              refine ⟨_, ?_, fun z q => (by cases q), G1, G2⟩
              unfold f_X10_readItem_L11
              simp only [nb_lit]
              rw [bnd (tr1q H), bnd tln3q, if_pos (n_le (by decide) (by decide))]
            · rw [if_neg d44]
              exact ⟨_, rfl, fun z q => (by cases q), G1, G2⟩
      · rw [if_neg c44, if_neg c44]
        exact ⟨_, rfl, fun z q => (by cases q), F1, F2⟩
end X13q
section X14q
variable {m m' : Nat → Nat → Int32} {r r' : Nat → Nat → Option Nat} {a c d n B D k w i j u v t p q : Nat} {b : Bo} {l x y : Int32} {A : Ab} {X : Nat × (Nat → Int32)} {P : Nat → Nat}
theorem x_tkSq (hD : isB D) (R : BR m D b) (hv : v < 100) (q : Nat) : ∃ m', f_X0_takeSingle D l (nI v) (114, m, r) = some ((if (tkS b l v q).isSome = true then nI 1 else nI 0), (114, m', r)) ∧ (∀ z, tkS b l v q = some z → z.1 = q ∧ BR m' D z.2) ∧ ∀ d, (d < D ∨ D + 3 < d) → m' d = m d := by
  obtain ⟨⟨r1, r2, r3, r4, r5, r6, r7, r8⟩, r9⟩ := id R
  unfold f_X0_takeSingle tkS
  simp only [nb_lit]
  by_cases l1 : l = nI 99
  · rw [if_pos l1, if_pos (bgdq hD), if_pos l1]
    unfold f_X0_setChain
    simp only [nb_lit]
    by_cases hv2 : v < 2
    · rw [bnd (im_yes hv2), if_pos (n_ne (by decide) (by decide) (by decide) : ¬ nI 1 = nI 0), bnd (bpq hD (by decide) _), Option.bind_some, if_pos (Or.inr rfl), if_pos hv2]
      refine ⟨_, rfl, fun z hz => ?_, fun d hd => up_ne (by omega)⟩
      cases hz
      refine ⟨rfl, ⟨?_, ?_, ?_, ?_, ?_, ?_, ?_, hb_up_same⟩, fun w hw => ?_⟩
      · rw [hb_up_ne (by omega)]; exact r1
      · rw [hb_up_ne (by omega)]; exact r2
      · rw [hb_up_ne (by omega)]; exact r3
      · rw [hb_up_ne (by omega)]; exact r4
      · rw [hb_up_ne (by omega)]; exact r5
      · rw [hb_up_ne (by omega)]; exact r6
      · rw [hb_up_ne (by omega)]; exact r7
      · rw [up_ne (by omega), up_ne (by omega), up_ne (by omega)]; exact r9 w hw
    · rw [bnd (im_no (Or.inr (show 1 < nI v from n_lt (i := 1) (by omega) (by omega)))), if_neg (not_not_intro rfl), Option.bind_some, if_pos (Or.inl rfl), if_neg hv2]
      exact ⟨m, rfl, fun z hz => (by cases hz), fun _ _ => rfl⟩
  · rw [if_neg l1, if_neg l1]
    by_cases l2 : l = nI 108
    · rw [if_pos l2, if_pos (bgdq hD), if_pos l2]
      unfold f_X0_setLongest
      simp only [nb_lit]
      by_cases h1 : 1 ≤ v
      · rw [if_neg (n_nlt h1 (by omega))]
        by_cases h5 : v < 5
        · rw [if_pos (n_le (by omega) (by decide)), bnd (bpq hD (by decide) _), Option.bind_some, if_pos (Or.inr rfl), if_pos (show 1 ≤ v ∧ v < 5 from ⟨h1, h5⟩)]
          refine ⟨_, rfl, fun z hz => ?_, fun d hd => up_ne (by omega)⟩
          cases hz
          refine ⟨rfl, ⟨?_, ?_, ?_, ?_, ?_, ?_, hb_up_same, ?_⟩, fun w hw => ?_⟩
          · rw [hb_up_ne (by omega)]; exact r1
          · rw [hb_up_ne (by omega)]; exact r2
          · rw [hb_up_ne (by omega)]; exact r3
          · rw [hb_up_ne (by omega)]; exact r4
          · rw [hb_up_ne (by omega)]; exact r5
          · rw [hb_up_ne (by omega)]; exact r6
          · rw [hb_up_ne (by omega)]; exact r8
          · rw [up_ne (by omega), up_ne (by omega), up_ne (by omega)]; exact r9 w hw
        · rw [if_neg (n_nle (by omega) (by omega)), Option.bind_some, if_pos (Or.inl rfl), if_neg (show ¬ (1 ≤ v ∧ v < 5) from fun z => h5 z.2)]
          exact ⟨m, rfl, fun z hz => (by cases hz), fun _ _ => rfl⟩
      · rw [if_pos (n_lt (by omega) (by decide)), Option.bind_some, if_pos (Or.inl rfl), if_neg (show ¬ (1 ≤ v ∧ v < 5) from fun z => h1 z.1)]
        exact ⟨m, rfl, fun z hz => (by cases hz), fun _ _ => rfl⟩
    · rw [if_neg l2, if_neg l2]
      exact ⟨m, rfl, fun z hz => (by cases hz), fun _ _ => rfl⟩
set_option maxHeartbeats 1000000 in
theorem x_addWq (H : XR r) (hD : isB D) (R : BR m D b) (W : bN b ≤ 10) (hv : v < 100) (hu : u < 100) : ∃ m', f_X0_addWord D (nI v) (nI u) (114, m, r) = some ((if v < 4 ∧ u < 10 ∧ bN b ≠ 10 then nI 1 else nI 0), (114, m', r)) ∧ ((v < 4 ∧ u < 10 ∧ bN b ≠ 10) → BR m' D (addW b v u)) ∧ ∀ d, (d < D ∨ D + 3 < d) → m' d = m d := by
  obtain ⟨⟨r1, r2, r3, r4, r5, r6, r7, r8⟩, r9⟩ := id R
  have hb := b_ly hD
  unfold f_X0_addWord
  simp only [nb_lit]
  rw [if_neg (nI_pos0 (by omega))]
  by_cases h4 : v < 4
  · rw [if_neg (n_nlt (by omega) (by omega)), if_neg (nI_pos0 (by omega))]
    by_cases h10 : u < 10
    · rw [if_neg (n_nlt (by omega) (by omega)), bnd (bgq hD (by decide)), r1]
      by_cases hN : bN b = 10
      · rw [if_neg (by rw [hN]; exact n_nlt (Nat.le_refl _) (by decide)), if_neg (fun z => z.2.2 hN)]
        exact ⟨m, rfl, fun z => absurd hN z.2.2, fun _ _ => rfl⟩
      · have cc : v < 4 ∧ u < 10 ∧ bN b ≠ 10 := ⟨h4, h10, hN⟩
        rw [if_pos (n_lt (by omega) (by decide)), if_pos cc]
        have e3 : ∀ (g : Nat → Nat → Int32) (j : Nat), j < 100 → g D 3 = nI (bN b) → ((if ¬ nI v = nI j then some (nI 0) else (mx_gi (114, g, r) D 0 3).bind fun x18 => (f_X11_bit x18 (114, g, r)).bind fun x19 => some x19 : Option Int32)) = some (nI (if v = j then 2 ^ bN b else 0)) := by
          intro g j hj100 hg
          by_cases hj : v = j
          · rw [if_neg (not_not_intro (by rw [hj])), bnd (bgq hD (by decide)), hg, bnd (bo_bit (by omega) _), if_pos hj]
          · rw [if_neg hj, if_pos (n_ne hj (by omega) (by omega))]
        obtain ⟨g, hg⟩ : ∃ g, g = mx_up (mx_up (mx_up m (D + 1) (bN b) (nI v)) (D + 2) (bN b) (nI u)) (D + 3) (bN b) (nI 0) := ⟨_, rfl⟩
        have gD : g D = m D := by rw [hg, up_ne (by omega), up_ne (by omega), up_ne (by omega)]
        refine ⟨mx_up (mx_up (mx_up (mx_up g D 4 (nI (kindS b 1 ||| if v = 1 then 2 ^ bN b else 0))) D 5 (nI (kindS b 2 ||| if v = 2 then 2 ^ bN b else 0))) D 6 (nI (kindS b 3 ||| if v = 3 then 2 ^ bN b else 0))) D 3 (nI (bN b + 1)), ?_, fun _ => ⟨⟨hb_up_same, ?_, ?_, ?_, ?_, ?_, ?_, ?_⟩, fun w hw => ?_⟩, fun d hd => ?_⟩
        · rw [bnd (br0q H hD), bnd (bgq hD (by decide)), r1, bnd (bs1q hD (by omega) _), bnd (br1q H hD), bnd (bgq hD (by decide)), up_ne (by omega), r1, bnd (bs2q hD (by omega) _), bnd (br2q H hD), bnd (bgq hD (by decide)), up_ne (by omega), up_ne (by omega), r1, bnd (bs3q hD (by omega) _), ← hg]
          rw [bnd (bgq hD (by decide)), bnd (e3 g 1 (by decide) (by rw [gD]; exact r1)), gD, r2, nb_or, bnd (bpq hD (by decide) _)]
          rw [bnd (bgq hD (by decide)), bnd (e3 _ 2 (by decide) (by rw [hb_up_ne (by omega), gD]; exact r1)), hb_up_ne (by omega), gD, r3, nb_or, bnd (bpq hD (by decide) _)]
          rw [bnd (bgq hD (by decide)), bnd (e3 _ 3 (by decide) (by rw [hb_up_ne (by omega), hb_up_ne (by omega), gD]; exact r1)), hb_up_ne (by omega), hb_up_ne (by omega), gD, r4, nb_or, bnd (bpq hD (by decide) _)]
          rw [bnd (bgq hD (by decide)), hb_up_ne (by omega), hb_up_ne (by omega), hb_up_ne (by omega), gD, r1, nI_add, bnd (bpq hD (by decide) _)]
          rfl
        · rw [hb_up_ne (by omega), hb_up_ne (by omega), hb_up_ne (by omega), hb_up_same, mk_addW]
          split
          · rfl
          · rw [Nat.or_zero]
        · show _ = nI (kindS (addW b v u) 2)
          rw [hb_up_ne (by omega), hb_up_ne (by omega), hb_up_same, mk_addW]
          split
          · rfl
          · rw [Nat.or_zero]
        · rw [hb_up_ne (by omega), hb_up_same, mk_addW]
          split
          · rfl
          · rw [Nat.or_zero]
        · rw [hb_up_ne (by omega), hb_up_ne (by omega), hb_up_ne (by omega), hb_up_ne (by omega), gD]; exact r5
        · rw [hb_up_ne (by omega), hb_up_ne (by omega), hb_up_ne (by omega), hb_up_ne (by omega), gD]; exact r6
        · rw [hb_up_ne (by omega), hb_up_ne (by omega), hb_up_ne (by omega), hb_up_ne (by omega), gD]; exact r7
        · rw [hb_up_ne (by omega), hb_up_ne (by omega), hb_up_ne (by omega), hb_up_ne (by omega), gD]; exact r8
        · have hw : w < bN b + 1 := hw
          show _ = nI (if w = bN b then v else bK b w) ∧ _ = nI (if w = bN b then u else bW b w) ∧ _ = nI (if w = bN b then 0 else bE b w)
          have g1 : ∀ c, c ≠ D → (mx_up (mx_up (mx_up (mx_up g D 4 (nI (kindS b 1 ||| if v = 1 then 2 ^ bN b else 0))) D 5 (nI (kindS b 2 ||| if v = 2 then 2 ^ bN b else 0))) D 6 (nI (kindS b 3 ||| if v = 3 then 2 ^ bN b else 0))) D 3 (nI (bN b + 1))) c = g c := fun c hc => by rw [up_ne hc, up_ne hc, up_ne hc, up_ne hc]
          rw [g1 _ (by omega), g1 _ (by omega), g1 _ (by omega), hg]
          by_cases he : w = bN b
          · rw [he, if_pos rfl, if_pos rfl, if_pos rfl, up_ne (by omega), up_ne (by omega), hb_up_same, up_ne (by omega), hb_up_same, hb_up_same]
            exact ⟨rfl, rfl, rfl⟩
          · rw [if_neg he, if_neg he, if_neg he, up_ne (by omega), up_ne (by omega), hb_up_ne (by omega), up_ne (by omega), hb_up_ne (by omega), up_ne (by omega), hb_up_ne (by omega), up_ne (by omega), up_ne (by omega)]
            exact r9 w (by omega)
        · rw [up_ne (by omega), up_ne (by omega), up_ne (by omega), up_ne (by omega), hg, up_ne (by omega), up_ne (by omega), up_ne (by omega)]
    · rw [if_pos (n_lt (by omega) (by omega)), if_neg (fun z => h10 z.2.1)]
      exact ⟨m, rfl, fun z => absurd z.2.1 h10, fun _ _ => rfl⟩
  · rw [if_pos (n_lt (by omega) (by omega)), if_neg (fun z => h4 z.1)]
    exact ⟨m, rfl, fun z => absurd z.1 h4, fun _ _ => rfl⟩
end X14q
section X15q
variable {m m' : Nat → Nat → Int32} {r r' : Nat → Nat → Option Nat} {a c d n B D k w i j u v t p q : Nat} {b : Bo} {l x y : Int32} {A : Ab} {X : Nat × (Nat → Int32)} {P : Nat → Nat}
theorem x_addGq (H : XR r) (hD : isB D) (R : BR m D b) (W : bN b ≤ 10) (hv : v < 100) (hu : u < 100) : ∃ m', f_X0_addBehind D (nI v) (nI u) (114, m, r) = some ((if v < bN b ∧ u < bN b then nI 1 else nI 0), (114, m', r)) ∧ ((v < bN b ∧ u < bN b) → BR m' D (addG b v u)) ∧ ∀ d, (d < D ∨ D + 3 < d) → m' d = m d := by
  obtain ⟨⟨r1, r2, r3, r4, r5, r6, r7, r8⟩, r9⟩ := id R
  unfold f_X0_addBehind
  simp only [nb_lit]
  rw [if_pos (bgdq hD)]
  by_cases h1 : v < bN b
  · rw [bnd (bo_hasNq hD r1 W h1), if_neg (n_ne (by decide) (by decide) (by decide) : ¬ nI 1 = nI 0), if_pos (bgdq hD)]
    by_cases h2 : u < bN b
    · rw [bnd (bo_hasNq hD r1 W h2), if_pos (n_ne (by decide) (by decide) (by decide) : ¬ nI 1 = nI 0), bnd (br2q H hD), bnd (ba3q hD (by omega)), (r9 v h1).2.2, bnd (bo_bit (by omega) _), nb_or, bnd (bs3q hD (by omega) _), if_pos (show v < bN b ∧ u < bN b from ⟨h1, h2⟩)]
      refine ⟨_, rfl, fun _ => ⟨?_, fun w hw => ?_⟩, fun d hd => up_ne (by omega)⟩
      · rw [up_ne (by omega)]
        exact ⟨r1, r2, r3, r4, r5, r6, r7, r8⟩
      · have hw : w < bN b := hw
        show _ ∧ _ ∧ _ = nI (if w = v then bE b w ||| 2 ^ u else bE b w)
        rw [up_ne (by omega), up_ne (by omega)]
        refine ⟨(r9 w hw).1, (r9 w hw).2.1, ?_⟩
        by_cases he : w = v
        · rw [he, hb_up_same, if_pos rfl]
        · rw [hb_up_ne (by omega), if_neg he]; exact (r9 w hw).2.2
    · rw [bnd (bo_noNq hD r1 (Or.inr (n_le (by omega) (by omega)))), if_neg (not_not_intro rfl), if_neg (show ¬ (v < bN b ∧ u < bN b) from fun z => h2 z.2)]
      exact ⟨m, rfl, fun z => absurd z.2 h2, fun _ _ => rfl⟩
  · rw [bnd (bo_noNq hD r1 (Or.inr (n_le (by omega) (by omega)))), if_pos rfl, if_neg (show ¬ (v < bN b ∧ u < bN b) from fun z => h1 z.1)]
    exact ⟨m, rfl, fun z => absurd z.1 h1, fun _ _ => rfl⟩
theorem x_addKq (H : XR r) (hD : isB D) (R : BR m D b) (W : bN b ≤ 10) (hv : v < 100) (hu : u < 100) : ∃ m', f_X0_addKnown D (nI v) (nI u) (114, m, r) = some ((if v < 2 ∧ u < bN b then nI 1 else nI 0), (114, m', r)) ∧ ((v < 2 ∧ u < bN b) → BR m' D (addK b v u)) ∧ ∀ d, (d < D ∨ D + 3 < d) → m' d = m d := by
  obtain ⟨⟨r1, r2, r3, r4, r5, r6, r7, r8⟩, r9⟩ := id R
  unfold f_X0_addKnown
  simp only [nb_lit]
  by_cases h1 : v < 2
  · rw [bnd (im_yes h1), if_neg (n_ne (by decide) (by decide) (by decide) : ¬ nI 1 = nI 0), if_pos (bgdq hD)]
    by_cases h2 : u < bN b
    · rw [bnd (bo_hasNq hD r1 W h2), if_pos (n_ne (by decide) (by decide) (by decide) : ¬ nI 1 = nI 0), if_pos (show v < 2 ∧ u < bN b from ⟨h1, h2⟩)]
      have hc : v = 0 ∨ v = 1 := by omega
      rcases hc with rfl | rfl
      · rw [if_neg (not_not_intro rfl), bnd (bgq hD (by decide)), r5, bnd (bo_bit (by omega) _), nb_or, bnd (bpq hD (by decide) _), Option.bind_some]
        refine ⟨_, rfl, fun _ => ⟨⟨?_, ?_, ?_, ?_, ?_, ?_, ?_, ?_⟩, fun w hw => ?_⟩, fun d hd => up_ne (by omega)⟩
        · rw [hb_up_ne (by omega)]; exact r1
        · rw [hb_up_ne (by omega)]; exact r2
        · rw [hb_up_ne (by omega)]; exact r3
        · rw [hb_up_ne (by omega)]; exact r4
        · rw [hb_up_same]; rfl
        · rw [hb_up_ne (by omega)]; exact r6
        · rw [hb_up_ne (by omega)]; exact r7
        · rw [hb_up_ne (by omega)]; exact r8
        · rw [up_ne (by omega), up_ne (by omega), up_ne (by omega)]; exact r9 w hw
      · rw [if_pos (n_ne (by decide) (by decide) (by decide) : ¬ nI 1 = nI 0), bnd (bgq hD (by decide)), r6, bnd (bo_bit (by omega) _), nb_or, bnd (bpq hD (by decide) _), Option.bind_some]
        refine ⟨_, rfl, fun _ => ⟨⟨?_, ?_, ?_, ?_, ?_, ?_, ?_, ?_⟩, fun w hw => ?_⟩, fun d hd => up_ne (by omega)⟩
        · rw [hb_up_ne (by omega)]; exact r1
        · rw [hb_up_ne (by omega)]; exact r2
        · rw [hb_up_ne (by omega)]; exact r3
        · rw [hb_up_ne (by omega)]; exact r4
        · rw [hb_up_ne (by omega)]; exact r5
        · rw [hb_up_same]; rfl
        · rw [hb_up_ne (by omega)]; exact r7
        · rw [hb_up_ne (by omega)]; exact r8
        · rw [up_ne (by omega), up_ne (by omega), up_ne (by omega)]; exact r9 w hw
    · rw [bnd (bo_noNq hD r1 (Or.inr (n_le (by omega) (by omega)))), if_neg (not_not_intro rfl), if_neg (show ¬ (v < 2 ∧ u < bN b) from fun z => h2 z.2)]
      exact ⟨m, rfl, fun z => absurd z.2 h2, fun _ _ => rfl⟩
  · rw [bnd (im_no (Or.inr (show 1 < nI v from n_lt (i := 1) (by omega) (by omega)))), if_pos rfl, if_neg (show ¬ (v < 2 ∧ u < bN b) from fun z => h1 z.1)]
    exact ⟨m, rfl, fun z => absurd z.1 h1, fun _ _ => rfl⟩
theorem x_tkPq (H : XR r) (hD : isB D) (R : BR m D b) (W : bN b ≤ 10) (hv : v < 100) (hu : u < 100) (q : Nat) : ∃ m', f_X0_takePair D l (nI v) (nI u) (114, m, r) = some ((if (tkP b l v u q).isSome = true then nI 1 else nI 0), (114, m', r)) ∧ (∀ z, tkP b l v u q = some z → z.1 = q ∧ BR m' D z.2) ∧ ∀ d, (d < D ∨ D + 3 < d) → m' d = m d := by
  have key : ∀ (c : Prop) [Decidable c] (b' : Bo) (res : Option (Int32 × mx_Hp)), (∃ m', res = some ((if c then nI 1 else nI 0), (114, m', r)) ∧ (c → BR m' D b') ∧ ∀ d, (d < D ∨ D + 3 < d) → m' d = m d) → ∃ m', (res.bind fun x2 => if x2.1 = nI 0 ∨ x2.1 = nI 1 then some (x2.1, x2.2) else none) = some ((if (if c then some (q, b') else none : Option (Nat × Bo)).isSome = true then nI 1 else nI 0), (114, m', r)) ∧ (∀ z, (if c then some (q, b') else none : Option (Nat × Bo)) = some z → z.1 = q ∧ BR m' D z.2) ∧ ∀ d, (d < D ∨ D + 3 < d) → m' d = m d := by
    intro c _ b' res hr
    obtain ⟨m1, e1, e2, e3⟩ := hr
    refine ⟨m1, ?_, fun z hz => ?_, e3⟩
    · rw [bnd e1]
      dsimp only
      rw [if_pos (is01 c)]
      by_cases hc : c
      · rw [if_pos hc, if_pos hc]; rfl
      · rw [if_neg hc, if_neg hc]; rfl
    · by_cases hc : c
      · rw [if_pos hc] at hz
        cases hz
        exact ⟨rfl, e2 hc⟩
      · rw [if_neg hc] at hz
        cases hz
  unfold f_X0_takePair tkP
  simp only [nb_lit]
  by_cases l1 : l = nI 103
  · rw [if_pos l1, if_pos l1, if_pos (bgdq hD)]
    exact key (v < bN b ∧ u < bN b) (addG b v u) _ (x_addGq H hD R W hv hu)
  · rw [if_neg l1, if_neg l1]
    by_cases l2 : l = nI 107
    · rw [if_pos l2, if_pos l2, if_pos (bgdq hD)]
      exact key (v < 2 ∧ u < bN b) (addK b v u) _ (x_addKq H hD R W hv hu)
    · rw [if_neg l2, if_neg l2]
      by_cases l3 : l = nI 119
      · rw [if_pos l3, if_pos l3, if_pos (bgdq hD)]
        exact key (v < 4 ∧ u < 10 ∧ bN b ≠ 10) (addW b v u) _ (x_addWq H hD R W hv hu)
      · rw [if_neg l3, if_neg l3]
        exact ⟨m, rfl, fun z hz => (by cases hz), fun _ _ => rfl⟩
theorem x_takeq (H : XR r) (hD : isB D) (R : BR m D b) (W : bN b ≤ 10) {z : Nat × Option Nat × Nat} (hz : rdX X p = some z) (h30 : m 3 0 = nI z.1) (h13 : match z.2.1 with | none => m 1 3 = nI 1 | some u => m 1 3 = nI 2 ∧ m 3 1 = nI u) : ∃ m', f_X10_takeItem 1 D (X.2 p) (114, m, r) = some ((if (rdI X b p).isSome = true then nI 1 else nI 0), (114, m', r)) ∧ (∀ y, rdI X b p = some y → y.1 = z.2.2 ∧ BR m' D y.2) ∧ ∀ d, (d < D ∨ D + 3 < d) → m' d = m d := by
  obtain ⟨b1, b2, b3⟩ := rdX_of hz
  rw [rdI_eq, hz]
  obtain ⟨v, o, q⟩ := z
  unfold f_X10_takeItem
  simp only [nb_lit]
  cases o with
  | none =>
    have h13 : m 1 3 = nI 1 := h13
    have h30 : m 3 0 = nI v := h30
    obtain ⟨m1, e1, e2, e3⟩ := x_tkSq (l := X.2 p) (r := r) hD R (show v < 100 from b1) q
    rw [bnd (tgq (by decide)), h13, if_pos (n_ne (by decide) (by decide) (by decide) : ¬ nI 1 = nI 2), bnd (tr1q H), bnd (ta3q (by decide)), h30, if_pos (bgdq hD), bnd e1]
    dsimp only
    rw [if_pos (is01 _)]
    exact ⟨m1, rfl, e2, e3⟩
  | some u =>
    have h13 : m 1 3 = nI 2 ∧ m 3 1 = nI u := h13
    have h30 : m 3 0 = nI v := h30
    obtain ⟨m1, e1, e2, e3⟩ := x_tkPq (l := X.2 p) H hD R W (show v < 100 from b1) (b2 u rfl) q
    rw [bnd (tgq (by decide)), h13.1, if_neg (not_not_intro rfl), bnd (tr1q H), bnd (ta3q (by decide)), h30, bnd (tr1q H), bnd (ta3q (by decide)), h13.2, if_pos (bgdq hD), bnd e1]
    dsimp only
    rw [if_pos (is01 _)]
    exact ⟨m1, rfl, e2, e3⟩
theorem x_rdq (H : XR r) (hX : X.1 ≤ 200) (hD : isB D) : ∀ (f p i : Nat) (b : Bo) (m : Nat → Nat → Int32), XX m X → WFd b → BR m D b → p ≤ 300 → 3 * i ≤ p → X.1 < p + f + 1 → ∀ F, f < F → ∃ m', mx_fix (f_X10_readInto_L8 1 D) F (nI p, nI i, (114, m, r)) = some (ansF (rdA X f p b).1, (114, m', r)) ∧ ((rdA X f p b).1 = none → BR m' D (rdA X f p b).2) ∧ (∀ d, d ≠ 1 → d ≠ 3 → (d < D ∨ D + 3 < d) → m' d = m d) ∧ m' 1 2 = m 1 2 := by
  have hb := b_ly hD
  have stop : ∀ (p i : Nat) (m : Nat → Nat → Int32) (self : Int32 × Int32 × mx_Hp → Option (Int32 × mx_Hp)), XX m X → p ≤ 300 → X.1 ≤ p → f_X10_readInto_L8 1 D self (nI p, nI i, (114, m, r)) = some (-nI 4, (114, m, r)) := by
    intro p i m self T hp hx
    unfold f_X10_readInto_L8
    simp only [nb_lit]
    by_cases h66 : nI 66 < nI i
    · rw [if_pos h66]
    · rw [if_neg h66, bnd (tgq (by decide)), T.1, if_pos (n_le hx (by omega))]
  intro f
  induction f with
  | zero =>
    intro p i b m T W R hp hi hf F hF
    obtain ⟨F', rfl⟩ : ∃ F', F = F' + 1 := ⟨F - 1, by omega⟩
    exact ⟨m, stop p i m _ T hp (by omega), fun _ => R, fun _ _ _ _ => rfl, rfl⟩
  | succ f ih =>
    intro p i b m T W R hp hi hf F hF
    obtain ⟨F', rfl⟩ : ∃ F', F = F' + 1 := ⟨F - 1, by omega⟩
    rw [fix_1]
    by_cases hx : X.1 ≤ p
    · have e : rdA X (f + 1) p b = (none, b) := by simp only [rdA, if_pos hx]
      rw [e]
      exact ⟨m, stop p i m _ T hp hx, fun _ => R, fun _ _ _ _ => rfl, rfl⟩
    · obtain ⟨m1, e1, g1, f1, c1⟩ := x_ritemq H T hX (show p < 400 by omega)
      have T1 : XX m1 X := ⟨by rw [c1]; exact T.1, fun j hj => by rw [f1 2 (by decide) (by decide)]; exact T.2 j hj⟩
      have R1 : BR m1 D b := R.congr (fun c h1 h2 => f1 c (by omega) (by omega))
      have lx : lX X p = X.2 p := by unfold lX; rw [if_pos (by omega)]
      cases hz : rdX X p with
      | none =>
        have hI : rdI X b p = none := by rw [rdI_eq, hz]; rfl
        have er : rdA X (f + 1) p b = (some p, b) := by simp only [rdA, if_neg hx, hI]
        rw [er]
        rw [hz] at e1
        refine ⟨m1, ?_, fun q => (by cases q), fun d d1 d2 d3 => f1 d d1 d2, c1⟩
        unfold f_X10_readInto_L8
        simp only [nb_lit]
        rw [if_neg (n_nlt (by omega) (by omega)), bnd (tgq (by decide)), T.1, if_neg (n_nle (by omega) (by omega)), if_pos tgdq, bnd e1]
        dsimp only
        rw [if_pos rfl]
        rfl
      | some z =>
        rw [hz] at e1
        obtain ⟨z1, z2⟩ := g1 z hz
        have zb := (rdX_of hz).2.2
        obtain ⟨m2, e2, g2, f2⟩ := x_takeq (X := X) (p := p) H hD R1 W.1 hz z1 z2
        have T2 : XX m2 X := ⟨by rw [f2 1 (by omega)]; exact T1.1, fun j hj => by rw [f2 2 (by omega)]; exact T1.2 j hj⟩
        have body : f_X10_readInto_L8 1 D (mx_fix (f_X10_readInto_L8 1 D) F') (nI p, nI i, (114, m, r)) = (if ¬ (if (rdI X b p).isSome = true then nI 1 else nI 0) = nI 0 then mx_fix (f_X10_readInto_L8 1 D) F' (nI z.2.2, nI (i + 1), (114, m2, r)) else some (nI p, (114, m2, r))) := by
          unfold f_X10_readInto_L8
          simp only [nb_lit]
          rw [if_neg (n_nlt (by omega) (by omega)), bnd (tgq (by decide)), T.1, if_neg (n_nle (by omega) (by omega)), if_pos tgdq, bnd e1]
          dsimp only
          rw [if_neg (nI_ne_m1 (by omega)), if_pos tgdq, bnd (x_letq H T1 hX (by omega)), lx, if_pos tgdq, bnd e2, nI_add]
        have F1 : ∀ d, d ≠ 1 → d ≠ 3 → (d < D ∨ D + 3 < d) → m2 d = m d := fun d d1 d2 d3 => by rw [f2 d d3, f1 d d1 d2]
        have C1 : m2 1 2 = m 1 2 := by rw [f2 1 (by omega)]; exact c1
        rw [body]
        cases hI : rdI X b p with
        | none =>
          have er : rdA X (f + 1) p b = (some p, b) := by simp only [rdA, if_neg hx, hI]
          rw [er, if_neg (show ¬ ¬ (if (none : Option (Nat × Bo)).isSome = true then nI 1 else nI 0) = nI 0 from not_not_intro rfl)]
          exact ⟨m2, rfl, fun q => (by cases q), F1, C1⟩
        | some y =>
          have er : rdA X (f + 1) p b = rdA X f y.1 y.2 := by simp only [rdA, if_neg hx, hI]
          have hy := rdI_of W hI
          obtain ⟨y1, y2⟩ := g2 y hI
          obtain ⟨m3, j1, j2, j3, j4⟩ := ih y.1 (i + 1) y.2 m2 T2 hy.2.2 y2 (by omega) (by omega) (by omega) F' (by omega)
          rw [er, if_pos (show ¬ (if (some y : Option (Nat × Bo)).isSome = true then nI 1 else nI 0) = nI 0 by rw [if_pos (show (some y).isSome = true from rfl)]; decide), ← y1]
          exact ⟨m3, j1, j2, fun d d1 d2 d3 => by rw [j3 d d1 d2 d3, F1 d d1 d2 d3], by rw [j4, C1]⟩
theorem x_readq (H : XR r) (hD : isB D) (T : XX m X) (hX : X.1 ≤ 200) : ∃ m', f_X10_readInto 1 D (114, m, r) = some (ansF (rdT X).1, (114, m', r)) ∧ ((rdT X).1 = none → BR m' D (rdT X).2) ∧ (∀ d, d ≠ 1 → d ≠ 3 → (d < D ∨ D + 3 < d) → m' d = m d) ∧ m' 1 2 = m 1 2 := by
  have hb := b_ly hD
  obtain ⟨g, hg⟩ : ∃ g, g = mx_up (mx_up (mx_up (mx_up (mx_up (mx_up (mx_up (mx_up m D 3 0) D 4 0) D 5 0) D 6 0) D 7 0) D 8 0) D 9 2) D 10 0 := ⟨_, rfl⟩
  have e0 : f_X0_clear D (114, m, r) = some (114, g, r) := by
    unfold f_X0_clear
    rw [bnd (bpq hD (by decide) _), bnd (bpq hD (by decide) _), bnd (bpq hD (by decide) _), bnd (bpq hD (by decide) _), bnd (bpq hD (by decide) _), bnd (bpq hD (by decide) _), bnd (bpq hD (by decide) _), bnd (bpq hD (by decide) _), hg]
  have fr : ∀ d, d ≠ D → g d = m d := fun d hd => by rw [hg, up_ne hd, up_ne hd, up_ne hd, up_ne hd, up_ne hd, up_ne hd, up_ne hd, up_ne hd]
  have R0 : BR g D bo0 := by
    refine ⟨⟨?_, ?_, ?_, ?_, ?_, ?_, ?_, ?_⟩, fun w hw => absurd hw (Nat.not_lt_zero w)⟩
    all_goals (rw [hg]; simp [mx_up]; rfl)
  obtain ⟨m1, e1, e2, e3, e4⟩ := x_rdq H hX hD 201 0 0 bo0 g ⟨by rw [fr 1 (by omega)]; exact T.1, fun i hi => by rw [fr 2 (by omega)]; exact T.2 i hi⟩ wd0 R0 (by omega) (by omega) (by omega) 2000 (by omega)
  refine ⟨m1, ?_, e2, fun d d1 d2 d3 => by rw [e3 d d1 d2 d3, fr d (by omega)], by rw [e4, fr 1 (by omega)]⟩
  unfold f_X10_readInto
  rw [if_pos (bgdq hD), bnd e0]
  exact e1
theorem x_layCq (H : XR r) (q1 : r 0 1 = some B) (q2 : r 0 2 = some D) (q3 : isB B) (q4 : isB D) (q5 : B ≠ D) (PL : PLU r P) (T : XX m X) (hX : X.1 ≤ 200) (hn : (rdT X).1 = none) (h0 : bN (rdT X).2 ≠ 0) (fU fK : Nat → St) (fO : Nat → Nat × Nat) : ∃ m' r', f_X11_layText 0 (114, m, r) = some (nI (bN (rdT X).2), (114, m', r')) ∧ RelX m' r' (X, (rdT X).2, newS (rdT X).2, (0, fU), (0, fK), (0, fO)) ∧ ∀ a, 114 ≤ a → m' a = m a ∧ r' a = r a := by
  have hb := b_ly q3
  have hd := b_ly q4
  have Wd : WFd (rdT X).2 := rdA_wf _ _ _ wd0
  have w10 := Wd.1
  obtain ⟨m1, e1, e2, e3, e4⟩ := x_readq H q4 T hX
  have R1 := e2 hn
  rw [hn] at e1
  obtain ⟨r1, hr1⟩ : ∃ r1, r1 = mx_up (mx_up r 0 1 (some D)) 0 2 (some B) := ⟨_, rfl⟩
  have H1 : XR r1 := H.congr (fun a j h1 h2 => by rw [hr1, hb_up_ne (by omega), hb_up_ne (by omega)])
  have r01 : r1 0 1 = some D := by rw [hr1, hb_up_ne (by omega), hb_up_same]
  have r02 : r1 0 2 = some B := by rw [hr1, hb_up_same]
  have rfr : ∀ a, a ≠ 0 → r1 a = r a := fun a ha => by rw [hr1, up_ne ha, up_ne ha]
  have PL1 : PLU r1 P := fun i hi => by rw [rfr 18 (by decide)]; exact PL i hi
  obtain ⟨m2, e5, s2, f2⟩ := st_startq H1 q4 R1 st12
  obtain ⟨g, hg⟩ : ∃ g, g = mx_up (mx_up (mx_up (mx_up (mx_up (mx_up m2 17 1 0) 59 1 0) 106 1 0) 106 2 (nI 0)) 106 3 (nI 0)) 106 4 (nI 0) := ⟨_, rfl⟩
  have gfr : ∀ d, d ≠ 17 → d ≠ 59 → d ≠ 106 → g d = m2 d := fun d d1 d2 d3 => by rw [hg, up_ne d3, up_ne d3, up_ne d3, up_ne d3, up_ne d2, up_ne d1]
  have G1 : ∀ d, d ≠ 1 → d ≠ 3 → (d < D ∨ D + 3 < d) → (d < 12 ∨ 16 < d) → d ≠ 17 → d ≠ 59 → d ≠ 106 → g d = m d := fun d d1 d2 d3 d4 d5 d6 d7 => by rw [gfr d d5 d6 d7, f2 d d4, e3 d d1 d2 d3]
  have RD : BR g D (rdT X).2 := R1.congr (fun c c1 c2 => by rw [gfr c (by omega) (by omega) (by omega), f2 c (by omega)])
  have p1 : mx_pr (114, m1, r) 0 11 1 D = some (114, m1, mx_up r 0 1 (some D)) := by
    unfold mx_pr
    rw [if_pos ⟨by show 0 < 114; decide, by decide +kernel, by decide⟩]
  have p2 : mx_pr (114, m1, mx_up r 0 1 (some D)) 0 11 2 B = some (114, m1, r1) := by
    unfold mx_pr
    rw [if_pos ⟨by show 0 < 114; decide, by decide +kernel, by decide⟩, hr1]
  refine ⟨g, r1, ?_, ⟨D, B, ⟨H1, ⟨r01, r02, q4, q3, fun z => q5 z.symm⟩, ⟨?_, fun i hi => ?_⟩, RD, ⟨?_, fun i hi => absurd hi (Nat.not_lt_zero i)⟩, ?_⟩, s2.congr (fun c c1 c2 => gfr c (by omega) (by omega) (by omega)), P, PL1, ?_, fun i hi => absurd hi (Nat.not_lt_zero i)⟩, fun a ha => ⟨G1 a (by omega) (by omega) (by omega) (by omega) (by omega) (by omega) (by omega), rfr a (by omega)⟩⟩
  · unfold f_X11_layText
    simp only [nb_lit]
    rw [bnd (xtq H), bnd (xrq q2 (by decide)), if_pos tgdq, bnd e1]
    dsimp only
    rw [if_neg (show ¬ ¬ ansF none = -nI 4 from not_not_intro rfl), bnd (xrq q2 (by decide)), bnd (bgq q4 (by decide)), R1.1.1, if_pos (n_ne h0 (by omega) (by decide)), bnd (xrq q1 (by decide)), bnd (xrq q2 (by decide)), bnd p1, bnd p2, bnd (xnq H1), bnd (xrq r01 (by decide)), if_pos (sgdq st12), bnd e5, bnd (xuq H1), if_pos (pgdq (pl_uq H1))]
    unfold f_X6_clear f_X3_startAnew
    rw [bnd (pp_nq (pl_uq H1) _), Option.bind_some, bnd (xkq H1), if_pos (pgdq (pl_kq H1)), bnd (pp_nq (pl_kq H1) _), Option.bind_some, bnd (xqq H1), if_pos qgdq, bnd (qpbq (Or.inl rfl)), if_pos qgdq, bnd x_qclearq, Option.bind_some, ← hg, bnd (xrq r01 (by decide)), bnd (bgq q4 (by decide)), RD.1.1]
  · rw [gfr 1 (by decide) (by decide) (by decide), f2 1 (by decide), e4]; exact T.1
  · rw [G1 2 (by decide) (by decide) (by omega) (by decide) (by decide) (by decide) (by decide)]; exact T.2 i hi
  · rw [hg, up_ne (by decide), up_ne (by decide), up_ne (by decide), up_ne (by decide), hb_up_same]; rfl
  · refine ⟨?_, ?_, ?_, Or.inl ?_⟩
    · rw [hg, hb_up_ne (by omega), hb_up_ne (by omega), hb_up_same]; rfl
    · rw [hg, hb_up_ne (by omega), hb_up_same]; rfl
    · rw [hg, hb_up_same]; rfl
    · rw [hg, hb_up_ne (by omega), hb_up_ne (by omega), hb_up_ne (by omega), hb_up_same]; rfl
  · rw [hg, up_ne (by decide), up_ne (by decide), up_ne (by decide), up_ne (by decide), up_ne (by decide), hb_up_same]; rfl
end X15q
