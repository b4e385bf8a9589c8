/-! the other side: its cells, rows of words, boroughs -/
theorem n_nle {i j : Nat} (h : j < i) (hi : i < 2 ^ 31) : ¬ nI i ≤ nI j := by rw [nb_le hi (by omega)]; omega
theorem n_le {i j : Nat} (h : i ≤ j) (hj : j < 2 ^ 31) : nI i ≤ nI j := by rw [nb_le (by omega) hj]; exact h
theorem n_nlt {i j : Nat} (h : j ≤ i) (hi : i < 2 ^ 31) : ¬ nI i < nI j := by rw [nb_lt hi (by omega)]; omega
theorem n_lt {i j : Nat} (h : i < j) (hj : j < 2 ^ 31) : nI i < nI j := by rw [nb_lt (by omega) hj]; exact h
theorem n_ne {i j : Nat} (h : i ≠ j) (hi : i < 2 ^ 31) (hj : j < 2 ^ 31) : ¬ nI i = nI j := by rw [nb_eq hi hj]; exact h
theorem ng_lt {i j : Nat} (h0 : 0 < i) (hi : i ≤ 2 ^ 30) (hj : j < 2 ^ 31) : -nI i < nI j := by
  rw [Int32.lt_iff_toInt_lt, Int32.toInt_neg, show (nI i).toInt = (i : Int) from Int32.toInt_ofNat_of_lt (by omega), show (nI j).toInt = (j : Int) from Int32.toInt_ofNat_of_lt hj]
  rw [Int.bmod_eq_of_le (by omega) (by omega)]
  omega
theorem ng_ne {i j : Nat} (h0 : 0 < i) (hi : i ≤ 2 ^ 30) (hj : j < 2 ^ 31) : ¬ nI j = -nI i := fun q => absurd (ng_lt h0 hi hj) (by rw [q]; exact Int32.lt_irrefl)
def stL : List Nat := [12, 19, 24, 29, 34, 39, 44, 49, 54, 61, 66, 109]
def isSt (a : Nat) : Prop := a ∈ stL
def isB (B : Nat) : Prop := B = 4 ∨ B = 8
def isOp (a : Nat) : Prop := a = 78 ∨ a = 92
theorem st_ly {a : Nat} (h : isSt a) : (12 ≤ a ∧ a + 4 < 114) ∧ (mx_lay a).1 = 12 ∧ (mx_lay (a + 1)).1 = 10 ∧ mx_lay (a + 2) = (0, 12) ∧ (mx_lay (a + 3)).1 = 7 ∧ (mx_lay (a + 4)).1 = 7 := by
  have key : ∀ a ∈ stL, (12 ≤ a ∧ a + 4 < 114) ∧ (mx_lay a).1 = 12 ∧ (mx_lay (a + 1)).1 = 10 ∧ mx_lay (a + 2) = (0, 12) ∧ (mx_lay (a + 3)).1 = 7 ∧ (mx_lay (a + 4)).1 = 7 := by decide +kernel
  exact key a h
theorem st_ne {a c : Nat} (h : isSt a) (h' : isSt c) (hn : a ≠ c) : a + 4 < c ∨ c + 4 < a := by
  have key : ∀ a ∈ stL, ∀ c ∈ stL, a ≠ c → (a + 4 < c ∨ c + 4 < a) := by decide +kernel
  exact key a h c h' hn
theorem b_ly {B : Nat} (h : isB B) : (mx_lay B).1 = 3 ∧ mx_lay (B + 1) = (0, 10) ∧ mx_lay (B + 2) = (0, 10) ∧ mx_lay (B + 3) = (0, 10) ∧ B ≤ 8 ∧ 4 ≤ B := by
  rcases h with rfl | rfl <;> decide +kernel
theorem o_ly {a : Nat} (h : isOp a) : (mx_lay a).1 = 8 ∧ mx_lay (a + 1) = (0, 10) ∧ mx_lay (a + 2) = (0, 10) ∧ mx_lay (a + 3) = (2, 10) ∧ (∀ j, j < 10 → mx_lay (a + 4 + j) = (0, 10)) ∧ 78 ≤ a ∧ a ≤ 92 := by
  rcases h with rfl | rfl <;> decide +kernel
/-- the references that stay -/
def XR (r : Nat → Nat → Option Nat) : Prop := (r 0 0 = some 1 ∧ r 0 3 = some 12 ∧ r 0 4 = some 17 ∧ r 0 5 = some 59 ∧ r 0 6 = some 71 ∧ r 0 7 = some 75 ∧ r 0 8 = some 106 ∧ r 0 9 = some 108) ∧ (r 1 0 = some 2 ∧ r 1 1 = some 3) ∧ (∀ B, isB B → r B 0 = some (B + 1) ∧ r B 1 = some (B + 2) ∧ r B 2 = some (B + 3)) ∧
  (∀ a, isSt a → r a 0 = some (a + 1) ∧ r (a + 1) 0 = some (a + 2) ∧ r a 1 = some (a + 3) ∧ r a 2 = some (a + 4)) ∧ (r 17 0 = some 18 ∧ r 59 0 = some 60 ∧ r 60 0 = some 61 ∧ r 60 1 = some 66) ∧ (r 71 0 = some 72 ∧ r 72 0 = some 73 ∧ r 71 1 = some 74) ∧
  (r 75 0 = some 76 ∧ r 76 0 = some 77 ∧ r 75 1 = some 78 ∧ r 75 2 = some 92 ∧ r 75 3 = some 71) ∧ (∀ a, isOp a → r a 3 = some (a + 1) ∧ r a 4 = some (a + 2) ∧ r a 5 = some (a + 3) ∧ ∀ j, j < 10 → r (a + 3) j = some (a + 4 + j)) ∧ (r 106 0 = some 107 ∧ r 108 0 = some 109 ∧ r 108 1 = some 71)
theorem XR.congr {r r' : Nat → Nat → Option Nat} (H : XR r) (h : ∀ a j, ¬ (a = 0 ∧ (j = 1 ∨ j = 2)) → a ≠ 18 → r' a j = r a j) : XR r' := by
  obtain ⟨⟨a1, a2, a3, a4, a5, a6, a7, a8⟩, ⟨b1, b2⟩, hB, hS, ⟨c1, c2, c3, c4⟩, ⟨d1, d2, d3⟩, ⟨e1, e2, e3, e4, e5⟩, hO, ⟨g1, g2, g3⟩⟩ := H
  refine ⟨⟨?_, ?_, ?_, ?_, ?_, ?_, ?_, ?_⟩, ⟨?_, ?_⟩, fun B q => ?_, fun a q => ?_, ⟨?_, ?_, ?_, ?_⟩, ⟨?_, ?_, ?_⟩, ⟨?_, ?_, ?_, ?_, ?_⟩, fun a q => ?_, ⟨?_, ?_, ?_⟩⟩
  · rw [h _ _ (by omega) (by omega)]; assumption
  · rw [h _ _ (by omega) (by omega)]; assumption
  · rw [h _ _ (by omega) (by omega)]; assumption
  · rw [h _ _ (by omega) (by omega)]; assumption
  · rw [h _ _ (by omega) (by omega)]; assumption
  · rw [h _ _ (by omega) (by omega)]; assumption
  · rw [h _ _ (by omega) (by omega)]; assumption
  · rw [h _ _ (by omega) (by omega)]; assumption
  · rw [h _ _ (by omega) (by omega)]; assumption
  · rw [h _ _ (by omega) (by omega)]; assumption
  · have := b_ly q
    rw [h _ _ (by omega) (by omega), h _ _ (by omega) (by omega), h _ _ (by omega) (by omega)]
    exact hB B q
  · have := st_ly q
    have n1 : a ≠ 18 ∧ a + 1 ≠ 18 := by
      have key : ∀ a ∈ stL, a ≠ 18 ∧ a + 1 ≠ 18 := by decide +kernel
      exact key a q
    rw [h _ _ (by omega) (by omega), h _ _ (by omega) (by omega), h _ _ (by omega) (by omega), h _ _ (by omega) (by omega)]
    exact hS a q
  · rw [h _ _ (by omega) (by omega)]; assumption
  · rw [h _ _ (by omega) (by omega)]; assumption
  · rw [h _ _ (by omega) (by omega)]; assumption
  · rw [h _ _ (by omega) (by omega)]; assumption
  · rw [h _ _ (by omega) (by omega)]; assumption
  · rw [h _ _ (by omega) (by omega)]; assumption
  · rw [h _ _ (by omega) (by omega)]; assumption
  · rw [h _ _ (by omega) (by omega)]; assumption
  · rw [h _ _ (by omega) (by omega)]; assumption
  · rw [h _ _ (by omega) (by omega)]; assumption
  · rw [h _ _ (by omega) (by omega)]; assumption
  · rw [h _ _ (by omega) (by omega)]; assumption
  · have := o_ly q
    rw [h _ _ (by omega) (by omega), h _ _ (by omega) (by omega), h _ _ (by omega) (by omega)]
    refine ⟨(hO a q).1, (hO a q).2.1, (hO a q).2.2.1, fun j hj => ?_⟩
    rw [h _ _ (by omega) (by omega)]
    exact (hO a q).2.2.2 j hj
  · rw [h _ _ (by omega) (by omega)]; assumption
  · rw [h _ _ (by omega) (by omega)]; assumption
  · rw [h _ _ (by omega) (by omega)]; assumption
section X1
variable {m : Nat → Nat → Int32} {r : Nat → Nat → Option Nat} {a c n B k w : Nat} {f g : Nat → Nat} {b : Bo} {s : St} {x : Int32}
/-- a row of words at a -/
def isRw (r : Nat → Nat → Option Nat) (a : Nat) : Prop := a + 1 < 130 ∧ (mx_lay a).1 = 10 ∧ mx_lay (a + 1) = (0, 12) ∧ r a 0 = some (a + 1)
def RW (m : Nat → Nat → Int32) (a n : Nat) (f : Nat → Nat) : Prop := m a 1 = nI n ∧ ∀ i, i < n → m (a + 1) i = nI (f i)
theorem RW.congr {m' : Nat → Nat → Int32} (R : RW m a n f) (h0 : m' a = m a) (h1 : m' (a + 1) = m (a + 1)) : RW m' a n f := ⟨by rw [h0]; exact R.1, fun i hi => by rw [h1]; exact R.2 i hi⟩
theorem RW.ext (R : RW m a n f) (h : ∀ i, i < n → g i = f i) : RW m a n g := ⟨R.1, fun i hi => by rw [h i hi]; exact R.2 i hi⟩
theorem rg_n (H : isRw r a) : mx_gi (130, m, r) a 7 1 = some (m a 1) := hb_gi (by have := H.1; omega) H.2.1 (by decide)
theorem rp_n (H : isRw r a) (v : Int32) : mx_pi (130, m, r) a 7 1 v = some (130, mx_up m a 1 v, r) := hb_pi (by have := H.1; omega) H.2.1 (by decide) v
theorem rg_r (H : isRw r a) : mx_gr (130, m, r) a 7 0 = some (a + 1) := hb_gr (by have := H.1; omega) H.2.1 (by decide) H.2.2.2
theorem rl_n (H : isRw r a) : mx_ln (130, m, r) (a + 1) = some (nI 12) := by
  unfold mx_ln
  rw [if_pos ⟨H.1, Or.inl (by rw [H.2.2.1])⟩, H.2.2.1]
  rfl
theorem ra_l (H : isRw r a) (hk : k < 12) : mx_al (130, m, r) (a + 1) (nI k) = some (m (a + 1) k) := hb_al H.1 (by rw [H.2.2.1]) (by rw [H.2.2.1]; exact hk)
theorem ra_s (H : isRw r a) (hk : k < 12) (v : Int32) : mx_as (130, m, r) (a + 1) (nI k) v = some (130, mx_up m (a + 1) k v, r) := hb_as H.1 (by rw [H.2.2.1]) (by rw [H.2.2.1]; exact hk) v
theorem rgd (H : isRw r a) : a < 130 ∧ (mx_lay a).1 = 10 := ⟨by have := H.1; omega, H.2.1⟩
theorem rw_at (H : isRw r a) (R : RW m a n f) (hn : n ≤ 12) {i : Nat} (hi : i < n) : f_X7_at a (nI i) (130, m, r) = some (nI (f i)) := by
  unfold f_X7_at
  simp only [nb_lit]
  rw [if_neg (nI_pos0 (by omega)), bnd (rg_n H), R.1, if_neg (n_nle hi (by omega)), bnd (rg_r H), bnd (rl_n H), if_neg (n_nle (by omega) (by omega)), bnd (rg_r H), bnd (ra_l H (by omega)), R.2 i hi]
  rfl
theorem rw_out (H : isRw r a) (R : RW m a n f) (hx : x < 0 ∨ nI n ≤ x) : f_X7_at a x (130, m, r) = some (-nI 4) := by
  unfold f_X7_at
  by_cases h : x < 0
  · rw [if_pos h]
    rfl
  · rw [if_neg h, bnd (rg_n H), R.1, if_pos (hx.resolve_left h)]
    rfl
theorem rw_clear (H : isRw r a) : f_X7_clear a (130, m, r) = some (130, mx_up m a 1 (nI 0), r) := by
  unfold f_X7_clear
  rw [bnd (rp_n H 0)]
  rfl
theorem rw_add (H : isRw r a) (h1 : m a 1 = nI n) (hn : n < 12) (x : Int32) : f_X7_add a x (130, m, r) = some (130, mx_up (mx_up m (a + 1) n x) a 1 (nI (n + 1)), r) := by
  unfold f_X7_add
  simp only [nb_lit]
  rw [bnd (rg_n H), h1, if_neg (nI_pos0 (by omega)), bnd (rg_n H), bnd (rg_r H), bnd (rl_n H), h1, if_neg (n_nle hn (by omega)), bnd (rg_r H), bnd (rg_n H), h1, bnd (ra_s H hn x), bnd (rg_n H), hb_up_ne (by omega), h1, bnd (rp_n H _), nI_add]
  rfl
theorem RW.add (R : RW m a n f) : RW (mx_up (mx_up m (a + 1) n (nI w)) a 1 (nI (n + 1))) a (n + 1) (fun i => if i = n then w else f i) := by
  refine ⟨hb_up_same, fun i hi => ?_⟩
  rw [hb_up_ne (by omega)]
  show _ = nI (if i = n then w else f i)
  by_cases he : i = n
  · rw [he, hb_up_same, if_pos rfl]
  · rw [hb_up_ne (by omega), if_neg he]
    exact R.2 i (by omega)
/-- the next word of a row that is known ahead -/
theorem RW.add2 (R : RW m a n f) : RW (mx_up (mx_up m (a + 1) n (nI (f n))) a 1 (nI (n + 1))) a (n + 1) f := by
  refine RW.ext (R.add (w := f n)) (fun i hi => ?_)
  show f i = if i = n then f n else f i
  by_cases he : i = n
  · rw [if_pos he, he]
  · rw [if_neg he]
theorem rw_copy (H : isRw r a) (Hc : isRw r c) (R : RW m c n f) (hn : n ≤ 12) (hd : a ≠ c ∧ a ≠ c + 1 ∧ a + 1 ≠ c) : ∃ m', f_X7_copyFrom a c (130, m, r) = some (130, m', r) ∧ RW m' a n f ∧ ∀ d, d ≠ a → d ≠ a + 1 → m' d = m d := by
  unfold f_X7_copyFrom
  rw [if_pos (rgd H), bnd (rw_clear H)]
  refine fix_rel (fun i q => ∃ m1 : Nat → Nat → Int32, q = (nI i, (130, m1, r)) ∧ RW m1 a i f ∧ ∀ d, d ≠ a → d ≠ a + 1 → m1 d = m d) n (Q := fun o => ∃ m' : Nat → Nat → Int32, o = some (130, m', r) ∧ RW m' a n f ∧ ∀ d, d ≠ a → d ≠ a + 1 → m' d = m d) ?_ ?_ (by omega) ?_
  · rintro i q hi ⟨m1, rfl, h1, h2⟩
    have Rc : RW m1 c n f := R.congr (h2 c (by omega) (by omega)) (h2 (c + 1) (by omega) (by omega))
    refine ⟨(nI (i + 1), (130, mx_up (mx_up m1 (a + 1) i (nI (f i))) a 1 (nI (i + 1)), r)), ⟨_, rfl, h1.add2, fun d hd1 hd2 => ?_⟩, fun self => ?_⟩
    · rw [up_ne hd1, up_ne hd2]; exact h2 d hd1 hd2
    · unfold f_X7_copyFrom_L6
      simp only [nb_lit]
      rw [bnd (rg_n Hc), Rc.1, if_neg (n_nle hi (by omega)), if_pos (rgd Hc), bnd (rw_at Hc Rc hn hi), if_pos (rgd H), bnd (rw_add H h1.1 (by omega) _), nI_add]
  · rintro q ⟨m1, rfl, h1, h2⟩ self
    have Rc : RW m1 c n f := R.congr (h2 c (by omega) (by omega)) (h2 (c + 1) (by omega) (by omega))
    unfold f_X7_copyFrom_L6
    dsimp only
    rw [bnd (rg_n Hc), Rc.1, if_pos (n_le (Nat.le_refl _) (by omega))]
    exact ⟨m1, rfl, h1, h2⟩
  · exact ⟨_, rfl, ⟨hb_up_same, fun i hi => absurd hi (Nat.not_lt_zero i)⟩, fun d hd1 _ => up_ne hd1⟩
/-! boroughs -/
def kindS (b : Bo) (k : Nat) : Nat := mk (fun w => decide (bK b w = k)) (bN b)
theorem kindS_lt : kindS b k < 2 ^ bN b := mk_lt _ _
def BR (m : Nat → Nat → Int32) (B : Nat) (b : Bo) : Prop := (m B 3 = nI (bN b) ∧ m B 4 = nI (kindS b 1) ∧ m B 5 = nI (stopsB b) ∧ m B 6 = nI (kindS b 3) ∧ m B 7 = nI (bY b 0) ∧ m B 8 = nI (bY b 1) ∧ m B 9 = nI (bM b) ∧ m B 10 = nI (bC b)) ∧ ∀ w, w < bN b → m (B + 1) w = nI (bK b w) ∧ m (B + 2) w = nI (bW b w) ∧ m (B + 3) w = nI (bE b w)
theorem BR.congr {m' : Nat → Nat → Int32} (R : BR m B b) (h : ∀ c, B ≤ c → c ≤ B + 3 → m' c = m c) : BR m' B b := by
  unfold BR
  rw [h B (by omega) (by omega), h (B + 1) (by omega) (by omega), h (B + 2) (by omega) (by omega), h (B + 3) (by omega) (by omega)]
  exact R
theorem bg (hB : isB B) (hf : mx_fk 0 k = 0 ∨ mx_fk 0 k = 2) : mx_gi (130, m, r) B 0 k = some (m B k) := hb_gi (by have := b_ly hB; omega) (b_ly hB).1 hf
theorem bp (hB : isB B) (hf : mx_fk 0 k = 0) (v : Int32) : mx_pi (130, m, r) B 0 k v = some (130, mx_up m B k v, r) := hb_pi (by have := b_ly hB; omega) (b_ly hB).1 hf v
theorem bgd (hB : isB B) : B < 130 ∧ (mx_lay B).1 = 3 := ⟨by have := b_ly hB; omega, (b_ly hB).1⟩
theorem br0 (H : XR r) (hB : isB B) : mx_gr (130, m, r) B 0 0 = some (B + 1) := hb_gr (bgd hB).1 (bgd hB).2 (by decide) (H.2.2.1 B hB).1
theorem br1 (H : XR r) (hB : isB B) : mx_gr (130, m, r) B 0 1 = some (B + 2) := hb_gr (bgd hB).1 (bgd hB).2 (by decide) (H.2.2.1 B hB).2.1
theorem br2 (H : XR r) (hB : isB B) : mx_gr (130, m, r) B 0 2 = some (B + 3) := hb_gr (bgd hB).1 (bgd hB).2 (by decide) (H.2.2.1 B hB).2.2
theorem ba1 (hB : isB B) (hk : k < 10) : mx_al (130, m, r) (B + 1) (nI k) = some (m (B + 1) k) := hb_al (by have := b_ly hB; omega) (by rw [(b_ly hB).2.1]) (by rw [(b_ly hB).2.1]; exact hk)
theorem ba2 (hB : isB B) (hk : k < 10) : mx_al (130, m, r) (B + 2) (nI k) = some (m (B + 2) k) := hb_al (by have := b_ly hB; omega) (by rw [(b_ly hB).2.2.1]) (by rw [(b_ly hB).2.2.1]; exact hk)
theorem ba3 (hB : isB B) (hk : k < 10) : mx_al (130, m, r) (B + 3) (nI k) = some (m (B + 3) k) := hb_al (by have := b_ly hB; omega) (by rw [(b_ly hB).2.2.2.1]) (by rw [(b_ly hB).2.2.2.1]; exact hk)
theorem bs1 (hB : isB B) (hk : k < 10) (v : Int32) : mx_as (130, m, r) (B + 1) (nI k) v = some (130, mx_up m (B + 1) k v, r) := hb_as (by have := b_ly hB; omega) (by rw [(b_ly hB).2.1]) (by rw [(b_ly hB).2.1]; exact hk) v
theorem bs2 (hB : isB B) (hk : k < 10) (v : Int32) : mx_as (130, m, r) (B + 2) (nI k) v = some (130, mx_up m (B + 2) k v, r) := hb_as (by have := b_ly hB; omega) (by rw [(b_ly hB).2.2.1]) (by rw [(b_ly hB).2.2.1]; exact hk) v
theorem bs3 (hB : isB B) (hk : k < 10) (v : Int32) : mx_as (130, m, r) (B + 3) (nI k) v = some (130, mx_up m (B + 3) k v, r) := hb_as (by have := b_ly hB; omega) (by rw [(b_ly hB).2.2.2.1]) (by rw [(b_ly hB).2.2.2.1]; exact hk) v
theorem bo_hasN (hB : isB B) (h3 : m B 3 = nI n) (hn : n ≤ 10) (hw : w < n) : f_X0_has B (nI w) (130, m, r) = some (nI 1) := by
  unfold f_X0_has
  simp only [nb_lit]
  rw [if_neg (nI_pos0 (by omega)), bnd (bg hB (by decide)), h3, if_neg (n_nle hw (by omega)), if_neg (n_nle (by omega) (by omega)), Option.bind_some, if_pos (Or.inr rfl)]
theorem bo_noN (hB : isB B) (h3 : m B 3 = nI n) (hx : x < 0 ∨ nI n ≤ x) : f_X0_has B x (130, m, r) = some (nI 0) := by
  unfold f_X0_has
  by_cases h : x < 0
  · rw [if_pos h]
    rfl
  · rw [if_neg h, bnd (bg hB (by decide)), h3, if_pos (hx.resolve_left h)]
    rfl
theorem bo_has (hB : isB B) (R : BR m B b) (W : WFb b) (hw : w < bN b) : f_X0_has B (nI w) (130, m, r) = some (nI 1) := bo_hasN hB R.1.1 W.1.2 hw
theorem bo_no (hB : isB B) (R : BR m B b) (hx : x < 0 ∨ nI (bN b) ≤ x) : f_X0_has B x (130, m, r) = some (nI 0) := bo_noN hB R.1.1 hx
theorem bo_kind (H : XR r) (hB : isB B) (R : BR m B b) (W : WFb b) (hw : w < bN b) : f_X0_kindOf B (nI w) (130, m, r) = some (nI (bK b w)) := by
  have := W.1
  unfold f_X0_kindOf
  simp only [nb_lit]
  rw [if_pos (bgd hB), bnd (bo_has hB R W hw), if_neg (n_ne (by decide) (by decide) (by decide)), bnd (br0 H hB), bnd (ba1 hB (by omega)), (R.2 w hw).1]
  rfl
theorem bo_nkind (hB : isB B) (R : BR m B b) (hx : x < 0 ∨ nI (bN b) ≤ x) : f_X0_kindOf B x (130, m, r) = some (-nI 4) := by
  unfold f_X0_kindOf
  simp only [nb_lit]
  rw [if_pos (bgd hB), bnd (bo_no hB R hx), if_pos rfl]
  rfl
theorem bo_worth (H : XR r) (hB : isB B) (R : BR m B b) (W : WFb b) (hw : w < bN b) : f_X0_worthOf B (nI w) (130, m, r) = some (nI (bW b w)) := by
  have := W.1
  unfold f_X0_worthOf
  simp only [nb_lit]
  rw [if_pos (bgd hB), bnd (bo_has hB R W hw), if_neg (n_ne (by decide) (by decide) (by decide)), bnd (br1 H hB), bnd (ba2 hB (by omega)), (R.2 w hw).2.1]
  rfl
theorem bo_behind (H : XR r) (hB : isB B) (R : BR m B b) (W : WFb b) (hw : w < bN b) : f_X0_behindOf B (nI w) (130, m, r) = some (nI (bE b w)) := by
  have := W.1
  unfold f_X0_behindOf
  simp only [nb_lit]
  rw [if_pos (bgd hB), bnd (bo_has hB R W hw), if_neg (n_ne (by decide) (by decide) (by decide)), bnd (br2 H hB), bnd (ba3 hB (by omega)), (R.2 w hw).2.2]
  rfl
theorem bo_all (hB : isB B) (R : BR m B b) (W : WFb b) : f_X0_allWords B (130, m, r) = some (nI (aAll b)) := by
  have := W.1
  unfold f_X0_allWords
  simp only [nb_lit]
  rw [bnd (bg hB (by decide)), R.1.1, nb_shl (by omega), nb_sub (Nat.two_pow_pos _)]
  rfl
theorem bo_bit (hw : w < 10) (h : mx_Hp) : f_X11_bit (nI w) h = some (nI (2 ^ w)) := by
  unfold f_X11_bit
  simp only [nb_lit]
  rw [if_neg (nI_pos0 (by omega)), if_neg (n_nle hw (by omega)), nb_shl (by omega)]
  rfl
theorem bo_ahead (H : XR r) (hB : isB B) (R : BR m B b) (W : WFb b) (S : Nat) : f_X0_aheadOf B (nI S) (130, m, r) = some (nI (ahead b S)) := by
  have hn := W.1
  unfold f_X0_aheadOf ahead
  refine fix_up (fun i => (nI (mk (fun w => decide (bE b w &&& S ≠ 0)) i), nI i)) (bN b) (fun i hi self => ?_) (fun self => ?_) (by omega)
  · unfold f_X0_aheadOf_L4
    simp only [nb_lit]
    have hE := wf_E2 W hi
    have hA : bE b i &&& S < 2 ^ 31 := by
      have := @Nat.and_le_left (bE b i) S
      omega
    rw [bnd (bg hB (by decide)), R.1.1, if_neg (n_nle hi (by omega)), if_neg (n_nle (by omega) (by omega)), bnd (br2 H hB), bnd (ba3 hB (by omega)), (R.2 i hi).2.2, nb_and, nI_add, nb_shl (by omega), nb_or]
    simp only [mk]
    by_cases hz : bE b i &&& S = 0
    · rw [if_pos (by rw [hz])]
      simp [hz]
    · rw [if_neg (n_ne hz hA (by decide))]
      simp [hz]
  · unfold f_X0_aheadOf_L4
    simp only [nb_lit]
    rw [bnd (bg hB (by decide)), R.1.1, if_pos (n_le (Nat.le_refl _) (by omega))]
theorem bo_first (hB : isB B) (R : BR m B b) (W : WFb b) {S : Nat} (hS : S < 2 ^ 31) : f_X0_firstOf B (nI S) (130, m, r) = some (if fst (fun x => S.testBit x) (bN b) < bN b then nI (fst (fun x => S.testBit x) (bN b)) else -nI 4) := by
  have hn := W.1
  unfold f_X0_firstOf
  refine fix_find (fun i q => q = nI i ∧ ∀ j, j < i → S.testBit j = false) (bN b) (Q := fun o => o = some (if fst (fun x => S.testBit x) (bN b) < bN b then nI (fst (fun x => S.testBit x) (bN b)) else -nI 4)) ?_ ?_ (by omega) ⟨rfl, fun j hj => absurd hj (Nat.not_lt_zero j)⟩
  · rintro i q hi ⟨rfl, h1⟩
    by_cases hb : S.testBit i = true
    · refine Or.inr (fun self => ?_)
      unfold f_X0_firstOf_L2
      simp only [nb_lit]
      have e : ¬ ((nI S >>> (nI i &&& nI 31)) &&& nI 1) = nI 0 := by
        rw [(nb_has hS (by omega)).mpr hb]
        exact n_ne (by decide) (by decide) (by decide)
      rw [bnd (bg hB (by decide)), R.1.1, if_neg (n_nle hi (by omega)), if_neg e, fst_eq hi hb h1, if_pos hi]
    · refine Or.inl ⟨nI (i + 1), ⟨rfl, fun j hj => ?_⟩, fun self => ?_⟩
      · by_cases he : j = i
        · rw [he]; simpa using hb
        · exact h1 j (by omega)
      · unfold f_X0_firstOf_L2
        simp only [nb_lit]
        have e : ((nI S >>> (nI i &&& nI 31)) &&& nI 1) = nI 0 := by
          rw [nb_31 (by omega), pk_shrN hS (nI i) i (nb_sm i (by omega)), nb_and, Nat.and_one_is_mod]
          have hb2 : ¬ S / 2 ^ i % 2 = 1 := by
            intro q
            apply hb
            rw [Nat.testBit_eq_decide_div_mod_eq]
            simp [q]
          rw [show S / 2 ^ i % 2 = 0 by omega]
        rw [bnd (bg hB (by decide)), R.1.1, if_neg (n_nle hi (by omega)), if_pos e, nI_add]
  · rintro q ⟨rfl, h1⟩ self
    unfold f_X0_firstOf_L2
    simp only [nb_lit]
    rw [bnd (bg hB (by decide)), R.1.1, if_pos (n_le (Nat.le_refl _) (by omega)), fst_none h1, if_neg (Nat.lt_irrefl _)]
theorem rw_worth (H : XR r) (hB : isB B) (R : BR m B b) (W : WFb b) (Hr : isRw r a) (Rw : RW m a n f) (hn : n ≤ 12) (hf : ∀ i, i < n → f i < bN b) : f_X7_worthIn a B (130, m, r) = some (nI (sumW b f n)) := by
  unfold f_X7_worthIn
  refine fix_up (fun i => (nI (sumW b f i), nI i)) n (fun i hi self => ?_) (fun self => ?_) (by omega)
  · unfold f_X7_worthIn_L4
    simp only [nb_lit]
    rw [bnd (rg_n Hr), Rw.1, if_neg (n_nle hi (by omega)), bnd (rg_r Hr), bnd (rl_n Hr), if_neg (n_nle (by omega) (by omega)), bnd (rg_r Hr), bnd (ra_l Hr (by omega)), Rw.2 i hi, if_pos (bgd hB), bnd (bo_worth H hB R W (hf i hi)), nI_add, nI_add]
    rfl
  · unfold f_X7_worthIn_L4
    simp only [nb_lit]
    rw [bnd (rg_n Hr), Rw.1, if_pos (n_le (Nat.le_refl _) (by omega))]
theorem rw_holds (Hr : isRw r a) (Rw : RW m a n f) (hn : n ≤ 12) (hf : ∀ i, i < n → f i < 2 ^ 31) (hw : w < 2 ^ 31) : f_X7_holds a (nI w) (130, m, r) = some (if anyB (fun i => decide (f i = w)) n = true then nI 1 else nI 0) := by
  unfold f_X7_holds
  refine fix_find (fun i q => q = nI i ∧ ∀ j, j < i → f j ≠ w) n (Q := fun o => o = some (if anyB (fun i => decide (f i = w)) n = true then nI 1 else nI 0)) ?_ ?_ (by omega) ⟨rfl, fun j hj => absurd hj (Nat.not_lt_zero j)⟩
  · rintro i q hi ⟨rfl, h1⟩
    by_cases hb : f i = w
    · refine Or.inr (fun self => ?_)
      unfold f_X7_holds_L2
      simp only [nb_lit]
      rw [bnd (rg_n Hr), Rw.1, if_neg (n_nle hi (by omega)), bnd (rg_r Hr), bnd (rl_n Hr), if_neg (n_nle (by omega) (by omega)), bnd (rg_r Hr), bnd (ra_l Hr (by omega)), Rw.2 i hi, hb, if_neg (not_not_intro rfl), if_pos ((anyB_iff _ _).mpr ⟨i, hi, by simp [hb]⟩)]
    · refine Or.inl ⟨nI (i + 1), ⟨rfl, fun j hj => ?_⟩, fun self => ?_⟩
      · by_cases he : j = i
        · rw [he]; exact hb
        · exact h1 j (by omega)
      · unfold f_X7_holds_L2
        simp only [nb_lit]
        rw [bnd (rg_n Hr), Rw.1, if_neg (n_nle hi (by omega)), bnd (rg_r Hr), bnd (rl_n Hr), if_neg (n_nle (by omega) (by omega)), bnd (rg_r Hr), bnd (ra_l Hr (by omega)), Rw.2 i hi, if_pos (n_ne hb (hf i hi) hw), nI_add]
  · rintro q ⟨rfl, h1⟩ self
    unfold f_X7_holds_L2
    simp only [nb_lit]
    rw [bnd (rg_n Hr), Rw.1, if_pos (n_le (Nat.le_refl _) (by omega)), if_neg]
    intro q
    obtain ⟨i, h2, h3⟩ := (anyB_iff _ _).mp q
    simp only [decide_eq_true_eq] at h3
    exact h1 i h2 h3
end X1
