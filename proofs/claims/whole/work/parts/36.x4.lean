/-! the other side: piles, and what its cells say -/
def undL : List Nat := [19, 24, 29, 34, 39, 44, 49, 54]
def isUn (a : Nat) : Prop := a ∈ undL
theorem un_st {a : Nat} (h : isUn a) : isSt a ∧ 19 ≤ a ∧ a ≤ 54 := by
  have key : ∀ a ∈ undL, a ∈ stL ∧ 19 ≤ a ∧ a ≤ 54 := by decide +kernel
  exact key a h
def PLU (r : Nat → Nat → Option Nat) (P : Nat → Nat) : Prop := ∀ i, i < 8 → r 18 i = some (P i) ∧ isUn (P i) ∧ ∀ j, j < 8 → P i = P j → i = j
def isPl (r : Nat → Nat → Option Nat) (c n : Nat) : Prop := c + 1 < 130 ∧ (mx_lay c).1 = 9 ∧ mx_lay (c + 1) = (1, n) ∧ r c 0 = some (c + 1) ∧ n ≤ 8 ∧ 1 ≤ n
theorem pl_u {r : Nat → Nat → Option Nat} (H : XR r) : isPl r 17 8 := ⟨by decide, by decide +kernel, by decide +kernel, H.2.2.2.2.1.1, by decide, by decide⟩
theorem pl_k {r : Nat → Nat → Option Nat} (H : XR r) : isPl r 59 2 := ⟨by decide, by decide +kernel, by decide +kernel, H.2.2.2.2.1.2.1, by decide, by decide⟩
theorem st12 : isSt 12 := by
  show 12 ∈ stL
  decide +kernel
theorem cnt_m (t : Nat) : nI t - nI 1 = cnt t := rfl
section X4
variable {m m' : Nat → Nat → Int32} {r r' : Nat → Nat → Option Nat} {a c d n B D k w i u v : Nat} {f g P : Nat → Nat} {b : Bo} {s : St} {x : Int32} {A : Ab} {U : Nat × (Nat → St)}
theorem pgd (H : isPl r c n) : c < 130 ∧ (mx_lay c).1 = 9 := ⟨by have := H.1; omega, H.2.1⟩
theorem pg_n (H : isPl r c n) : mx_gi (130, m, r) c 6 1 = some (m c 1) := hb_gi (pgd H).1 (pgd H).2 (by decide)
theorem pp_n (H : isPl r c n) (v : Int32) : mx_pi (130, m, r) c 6 1 v = some (130, mx_up m c 1 v, r) := hb_pi (pgd H).1 (pgd H).2 (by decide) v
theorem pg_r (H : isPl r c n) : mx_gr (130, m, r) c 6 0 = some (c + 1) := hb_gr (pgd H).1 (pgd H).2 (by decide) H.2.2.2.1
theorem pln (H : isPl r c n) : mx_ln (130, m, r) (c + 1) = some (nI n) := by
  unfold mx_ln
  rw [if_pos ⟨H.1, Or.inr (Or.inl (by rw [H.2.2.1]))⟩, H.2.2.1]
  try rfl
theorem prl (H : isPl r c n) (hi : i < n) (hr : r (c + 1) i = some v) : mx_rl (130, m, r) (c + 1) (nI i) = some v := by
  have := H.2.2.2.2.1
  unfold mx_rl
  rw [if_pos ⟨H.1, Or.inl (by rw [H.2.2.1]), nb_pos (by omega), by rw [nb_cl (by omega), H.2.2.1]; exact hi⟩, nb_cl (by omega)]
  exact hr
theorem prs (H : isPl r c n) (hi : i < n) (hv : isSt v) : mx_rs (130, m, r) (c + 1) (nI i) v = some (130, m, mx_up r (c + 1) i (some v)) := by
  have := H.2.2.2.2.1
  unfold mx_rs
  rw [if_pos ⟨H.1, by rw [H.2.2.1], ⟨nb_pos (by omega), by rw [nb_cl (by omega), H.2.2.1]; exact hi⟩, sgd hv⟩, nb_cl (by omega)]
theorem pl_at (H : isPl r c n) (hi : i < n) (hr : r (c + 1) i = some v) : f_X6_placeAt c (nI i) (130, m, r) = some (some v) := by
  have := H.2.2.2.2.1
  unfold f_X6_placeAt
  simp only [nb_lit]
  rw [if_neg (nI_pos0 (by omega)), bnd (pg_r H), bnd (pln H), if_neg (n_nle hi (by omega)), bnd (pg_r H), bnd (prl H hi hr)]
  try rfl
theorem pl_no (hx : x < 0) {h : mx_Hp} : f_X6_placeAt c x h = some none := by
  unfold f_X6_placeAt
  rw [if_pos hx]
  try rfl
theorem pl_put (H : isPl r c n) (X : XR r) (hu : u < n) (h1 : m c 1 = nI u) (hr : r (c + 1) u = some v) (hv : isSt v) (h12 : v ≠ 12) (hc : c < v ∨ v + 4 < c) (S : SX m 12 s) (hs : sN s ≤ 12) : ∃ m', f_X6_put c 12 (130, m, r) = some (130, m', r) ∧ m' c 1 = nI (u + 1) ∧ SX m' v s ∧ ∀ d, d ≠ c → (d < v ∨ v + 4 < d) → m' d = m d := by
  have := H.2.2.2.2.1
  obtain ⟨m1, e1, s1, f1⟩ := st_copy X hv st12 h12 S hs
  have g1 : m1 c 1 = nI u := by rw [f1 c hc]; exact h1
  refine ⟨mx_up m1 c 1 (nI (u + 1)), ?_, hb_up_same, s1.congr (fun d d1 d2 => up_ne (by omega)), fun d d1 d2 => by rw [up_ne d1]; exact f1 d d2⟩
  unfold f_X6_put
  simp only [nb_lit]
  rw [bnd (pg_n H), bnd (pg_r H), bnd (pln H), h1, if_pos (n_lt hu (by omega)), Option.bind_some, bnd (pg_n H), h1, if_pos (pgd H), bnd (pl_at H hu hr)]
  dsimp only
  rw [if_pos (sgd hv), bnd e1, bnd (pg_n H), g1, nI_add, bnd (pp_n H _)]
theorem pl_take (H : isPl r c n) (X : XR r) (hu : u < n) (h1 : m c 1 = nI (u + 1)) (hr : r (c + 1) u = some v) (hv : isSt v) (h12 : 12 ≠ v) (hc : c < 12 ∨ 16 < c) (S : SX m v s) (hs : sN s ≤ 12) : ∃ m', f_X6_takeInto c 12 (130, m, r) = some (nI 1, (130, m', r)) ∧ m' c 1 = nI u ∧ SX m' 12 s ∧ ∀ d, d ≠ c → (d < 12 ∨ 16 < d) → m' d = m d := by
  have := H.2.2.2.2.1
  obtain ⟨m1, e1, s1, f1⟩ := st_copy X st12 hv h12 S hs
  have g1 : m1 c 1 = nI (u + 1) := by rw [f1 c hc]; exact h1
  refine ⟨mx_up m1 c 1 (nI u), ?_, hb_up_same, s1.congr (fun d d1 d2 => up_ne (by omega)), fun d d1 d2 => by rw [up_ne d1]; exact f1 d d2⟩
  unfold f_X6_takeInto
  simp only [nb_lit]
  rw [bnd (pg_n H), h1, nb_sub (by omega), Nat.add_sub_cancel, if_pos (pgd H), bnd (pl_at H hu hr)]
  dsimp only
  rw [if_pos (sgd st12), bnd e1, bnd (pg_n H), g1, nb_sub (by omega), Nat.add_sub_cancel, bnd (pp_n H _)]
theorem pl_take0 (H : isPl r c n) (h1 : m c 1 = nI 0) : f_X6_takeInto c 12 (130, m, r) = some (nI 0, (130, m, r)) := by
  unfold f_X6_takeInto
  simp only [nb_lit]
  rw [bnd (pg_n H), h1, if_pos (pgd H), bnd (pl_no (by decide))]
theorem pu_give (X : XR r) (PL : PLU r P) : ∃ r', f_X6_giveOldestToNewest 17 (130, m, r) = some (130, mx_up m 17 1 (nI 7), r') ∧ XR r' ∧ PLU r' (fun i => if i = 7 then P 0 else P (i + 1)) ∧ ∀ a, a ≠ 18 → r' a = r a := by
  have H := pl_u X
  have key : ∀ r' : Nat → Nat → Option Nat, (∀ j, j < 8 → r' 18 j = some (if j = 7 then P 0 else P (j + 1))) → (∀ a, a ≠ 18 → r' a = r a) → XR r' ∧ PLU r' (fun i => if i = 7 then P 0 else P (i + 1)) ∧ ∀ a, a ≠ 18 → r' a = r a := by
    intro r' h1 h2
    refine ⟨X.congr (fun a j _ h18 => by rw [h2 a h18]), fun i hi => ⟨h1 i hi, ?_, fun j hj q => ?_⟩, h2⟩
    · show isUn (if i = 7 then P 0 else P (i + 1))
      by_cases he : i = 7
      · rw [if_pos he]; exact (PL 0 (by decide)).2.1
      · rw [if_neg he]; exact (PL (i + 1) (by omega)).2.1
    · have q : (if i = 7 then P 0 else P (i + 1)) = (if j = 7 then P 0 else P (j + 1)) := q
      by_cases he : i = 7
      · rw [if_pos he] at q
        by_cases hf : j = 7
        · omega
        · rw [if_neg hf] at q
          have := (PL 0 (by decide)).2.2 (j + 1) (by omega) q
          omega
      · rw [if_neg he] at q
        by_cases hf : j = 7
        · rw [if_pos hf] at q
          have := (PL (i + 1) (by omega)).2.2 0 (by decide) q
          omega
        · rw [if_neg hf] at q
          have := (PL (i + 1) (by omega)).2.2 (j + 1) (by omega) q
          omega
  unfold f_X6_giveOldestToNewest
  simp only [nb_lit]
  rw [if_pos (pgd H), bnd (pl_at H (i := 0) (by decide) (PL 0 (by decide)).1)]
  dsimp only
  refine fix_rel (fun t q => ∃ r1 : Nat → Nat → Option Nat, q = (nI (t + 1), (130, m, r1)) ∧ (∀ j, j < 8 → r1 18 j = some (if j < t then P (j + 1) else P j)) ∧ ∀ a, a ≠ 18 → r1 a = r a) 7 (Q := fun o => ∃ r', o = some (130, mx_up m 17 1 (nI 7), r') ∧ XR r' ∧ PLU r' (fun i => if i = 7 then P 0 else P (i + 1)) ∧ ∀ a, a ≠ 18 → r' a = r a) ?_ ?_ (by omega) ?_
  · rintro t q ht ⟨r1, rfl, h1, h2⟩
    have X1 : XR r1 := X.congr (fun a j _ h18 => by rw [h2 a h18])
    have H1 := pl_u X1
    refine ⟨(nI (t + 1 + 1), (130, m, mx_up r1 (17 + 1) t (some (P (t + 1))))), ⟨_, rfl, fun j hj => ?_, fun a ha => ?_⟩, fun self => ?_⟩
    · by_cases he : j = t
      · rw [he, if_pos (by omega)]; exact hb_up_same
      · rw [hb_up_ne (by omega), h1 j hj]
        by_cases hq : j < t
        · rw [if_pos hq, if_pos (by omega)]
        · rw [if_neg hq, if_neg (by omega)]
    · rw [up_ne (by omega)]; exact h2 a ha
    · have e : r1 18 (t + 1) = some (P (t + 1)) := by rw [h1 _ (by omega), if_neg (by omega)]
      unfold f_X6_giveOldestToNewest_L8
      simp only [nb_lit]
      rw [bnd (pg_r H1), bnd (pln H1), if_neg (n_nle (by omega) (by omega)), bnd (pg_r H1), bnd (pg_r H1), bnd (prl H1 (by omega) e), nb_sub (by omega), Nat.add_sub_cancel, bnd (prs H1 (by omega) (un_st (PL _ (by omega)).2.1).1), nI_add]
  · rintro q ⟨r1, rfl, h1, h2⟩ self
    have X1 : XR r1 := X.congr (fun a j _ h18 => by rw [h2 a h18])
    have H1 := pl_u X1
    unfold f_X6_giveOldestToNewest_L8
    simp only [nb_lit]
    rw [bnd (pg_r H1), bnd (pln H1), if_pos (n_le (by decide) (by decide))]
    rw [bnd (pg_r H1), bnd (pln H1), nb_sub (by decide), bnd (pp_n H1 _), bnd (pg_n H1), hb_up_same, if_neg (nI_pos0 (by decide)), bnd (pg_r H1), bnd (pg_n H1), hb_up_same, bnd (prs H1 (by decide) (un_st (PL 0 (by decide)).2.1).1)]
    refine ⟨_, rfl, key _ (fun j hj => ?_) (fun a ha => ?_)⟩
    · by_cases he : j = 7
      · rw [he, if_pos rfl]; exact hb_up_same
      · rw [hb_up_ne (by omega), h1 j hj, if_pos (by omega), if_neg he]
    · rw [up_ne (by omega)]; exact h2 a ha
  · exact ⟨r, rfl, fun j hj => by rw [if_neg (Nat.not_lt_zero j)]; exact (PL j hj).1, fun _ _ => rfl⟩
theorem pu_put (X : XR r) (PL : PLU r P) (S : SX m 12 s) (hs : sN s ≤ 12) (hU : U.1 ≤ 8) (h17 : m 17 1 = nI U.1) (hp : ∀ i, i < U.1 → SX m (P i) (U.2 i)) : ∃ m' r' P', f_X6_put 17 12 (130, m, r) = some (130, m', r') ∧ XR r' ∧ (PLU r' P' ∧ m' 17 1 = nI (putU U s).1 ∧ ∀ i, i < (putU U s).1 → SX m' (P' i) ((putU U s).2 i)) ∧ (∀ a, a ≠ 18 → r' a = r a) ∧ ∀ d, d ≠ 17 → (d < 19 ∨ 58 < d) → m' d = m d := by
  have H := pl_u X
  by_cases h8 : U.1 = 8
  · obtain ⟨r1, e1, X1, PL1, f1⟩ := pu_give (m := m) X PL
    have H1 := pl_u X1
    have q7 := PL1 7 (by decide)
    have uv := un_st q7.2.1
    have S1 : SX (mx_up m 17 1 (nI 7)) 12 s := S.congr (fun c c1 c2 => up_ne (by omega))
    obtain ⟨m2, e2, s2, f2⟩ := st_copy X1 uv.1 st12 (by omega) S1 hs
    have g2 : m2 17 1 = nI 7 := by rw [f2 17 (by omega)]; exact hb_up_same
    have eU : putU U s = (8, fun i => if i = 7 then s else U.2 (i + 1)) := by unfold putU; rw [if_pos h8]
    rw [eU]
    refine ⟨mx_up m2 17 1 (nI 8), r1, _, ?_, X1, ⟨PL1, hb_up_same, fun i hi => ?_⟩, f1, fun d d1 d2 => ?_⟩
    · unfold f_X6_put
      simp only [nb_lit]
      rw [bnd (pg_n H), bnd (pg_r H), bnd (pln H), h17, h8, if_neg (n_nlt (Nat.le_refl _) (by decide)), if_pos (pgd H), bnd e1, Option.bind_some, bnd (pg_n H1), hb_up_same, if_pos (pgd H1), bnd (pl_at H1 (i := 7) (by decide) q7.1)]
      dsimp only
      rw [if_pos (sgd uv.1), bnd e2, bnd (pg_n H1), g2, nI_add, bnd (pp_n H1 _)]
    · have hi : i < 8 := hi
      show SX _ _ (if i = 7 then s else U.2 (i + 1))
      by_cases he : i = 7
      · subst he
        rw [if_pos rfl]
        exact s2.congr (fun c c1 c2 => up_ne (by omega))
      · have eg : (if i = 7 then s else U.2 (i + 1)) = U.2 (i + 1) := if_neg he
        rw [eg]
        have q0 := hp (i + 1) (by omega)
        have ui := un_st (PL1 i hi).2.1
        have hne : (fun i => if i = 7 then P 0 else P (i + 1)) i ≠ (fun i => if i = 7 then P 0 else P (i + 1)) 7 := fun q => he ((PL1 i hi).2.2 7 (by decide) q)
        have hd := st_ne ui.1 uv.1 hne
        have ei : (fun i => if i = 7 then P 0 else P (i + 1)) i = P (i + 1) := if_neg he
        rw [← ei] at q0
        refine q0.congr (fun c c1 c2 => ?_)
        rw [up_ne (by omega), f2 c (by omega), up_ne (by omega)]
    · rw [up_ne d1, f2 d (by omega), up_ne d1]
  · have qu := PL U.1 (by omega)
    have uv := un_st qu.2.1
    obtain ⟨m2, e2, c2, s2, f2⟩ := pl_put H X (by omega) h17 qu.1 uv.1 (by omega) (by omega) S hs
    have eU : putU U s = (U.1 + 1, fun i => if i = U.1 then s else U.2 i) := by unfold putU; rw [if_neg h8]
    rw [eU]
    refine ⟨m2, r, P, e2, X, ⟨PL, c2, fun i hi => ?_⟩, fun _ _ => rfl, fun d d1 d2 => f2 d d1 (by omega)⟩
    have hi : i < U.1 + 1 := hi
    show SX _ _ (if i = U.1 then s else U.2 i)
    by_cases he : i = U.1
    · rw [if_pos he, he]; exact s2
    · rw [if_neg he]
      have ui := un_st (PL i (by omega)).2.1
      have hd := st_ne ui.1 uv.1 (fun q => he ((PL i (by omega)).2.2 U.1 (by omega) q))
      exact (hp i (by omega)).congr (fun c c1 c2 => f2 c (by omega) (by omega))
/-! what all its cells say -/
def cS (O : Nat × (Nat → Nat × Nat)) (v : Nat) : Nat → Nat
  | 0 => 0
  | k + 1 => if (O.2 k).2 = v then cS O v k ||| 2 ^ (O.2 k).1 else cS O v k
def GX (m : Nat → Nat → Int32) (b : Bo) (O : Nat × (Nat → Nat × Nat)) : Prop := m 106 2 = nI O.1 ∧ m 106 3 = nI (cS O 1 O.1) ∧ m 106 4 = nI (cS O 0 O.1) ∧ (m 106 1 = nI 0 ∨ (m 106 1 = nI 1 ∧ ∀ t, t < 2 ^ bN b → m 107 t = nI (lostF b t)))
theorem GX.congr {O : Nat × (Nat → Nat × Nat)} (G : GX m b O) (h1 : m' 106 = m 106) (h2 : m' 107 = m 107) : GX m' b O := by
  unfold GX
  rw [h1, h2]
  exact G
/-- all but the standing that is now and those that can be undone -/
def RelY (m : Nat → Nat → Int32) (r : Nat → Nat → Option Nat) (B D : Nat) (A : Ab) : Prop := XR r ∧ (r 0 1 = some B ∧ r 0 2 = some D ∧ isB B ∧ isB D ∧ B ≠ D) ∧ (m 1 2 = nI (aX A).1 ∧ ∀ i, i < (aX A).1 → m 2 i = (aX A).2 i) ∧ BR m B (aB A) ∧ (m 59 1 = nI (aK A).1 ∧ ∀ i, i < (aK A).1 → SX m (61 + 5 * i) ((aK A).2 i)) ∧ GX m (aB A) (aO A)
def UX (m : Nat → Nat → Int32) (r : Nat → Nat → Option Nat) (U : Nat × (Nat → St)) : Prop := ∃ P, PLU r P ∧ m 17 1 = nI U.1 ∧ ∀ i, i < U.1 → SX m (P i) (U.2 i)
def RelX (m : Nat → Nat → Int32) (r : Nat → Nat → Option Nat) (A : Ab) : Prop := ∃ B D, RelY m r B D A ∧ SX m 12 (aS A) ∧ UX m r (aU A)
def XOk (res : Option (Int32 × mx_Hp)) (m : Nat → Nat → Int32) (r : Nat → Nat → Option Nat) (v : Int32) (A : Ab) : Prop := ∃ m' r', res = some (v, (130, m', r')) ∧ RelX m' r' A ∧ ∀ a, 114 ≤ a → m' a = m a ∧ r' a = r a
theorem XOk.mk0 (R : RelX m r A) {v : Int32} {res : Option (Int32 × mx_Hp)} (e : res = some (v, (130, m, r))) : XOk res m r v A := ⟨m, r, e, R, fun _ _ => ⟨rfl, rfl⟩⟩
theorem kst {i : Nat} (h : i < 2) : isSt (61 + 5 * i) := by
  have : i = 0 ∨ i = 1 := by omega
  rcases this with rfl | rfl
  · show 61 + 5 * 0 ∈ stL
    decide +kernel
  · show 61 + 5 * 1 ∈ stL
    decide +kernel
/-- cells that no picture speaks of may change -/
def qt (d : Nat) : Prop := (12 ≤ d ∧ d ≤ 58) ∨ (71 ≤ d ∧ d ≤ 105) ∨ (108 ≤ d ∧ d ≤ 113)
theorem RelY.same (R : RelY m r B D A) (hK : (aK A).1 ≤ 2) (e : ∀ d, ¬ qt d → m' d = m d) : RelY m' r B D A := by
  obtain ⟨X, ⟨q1, q2, q3, q4, q5⟩, ⟨t1, t2⟩, Rb, ⟨k1, k2⟩, G⟩ := R
  have hb := b_ly q3
  refine ⟨X, ⟨q1, q2, q3, q4, q5⟩, ⟨?_, fun i hi => ?_⟩, Rb.congr (fun c c1 c2 => e c (by unfold qt; omega)), ⟨?_, fun i hi => ?_⟩, G.congr (e 106 (by unfold qt; omega)) (e 107 (by unfold qt; omega))⟩
  · rw [e 1 (by unfold qt; omega)]; exact t1
  · rw [e 2 (by unfold qt; omega)]; exact t2 i hi
  · rw [e 59 (by unfold qt; omega)]; exact k1
  · exact (k2 i hi).congr (fun c c1 c2 => e c (by unfold qt; omega))
theorem RelY.ref (R : RelY m r B D A) (h : ∀ a, a ≠ 18 → r' a = r a) : RelY m r' B D A := by
  obtain ⟨X, ⟨q1, q2, q3, q4, q5⟩, t, Rb, k, G⟩ := R
  exact ⟨X.congr (fun a j _ h18 => by rw [h a h18]), ⟨by rw [h 0 (by decide)]; exact q1, by rw [h 0 (by decide)]; exact q2, q3, q4, q5⟩, t, Rb, k, G⟩
theorem UX.congr (R : UX m r U) (hU : U.1 ≤ 8) (h : ∀ d, 17 ≤ d → d ≤ 58 → m' d = m d) : UX m' r U := by
  obtain ⟨P, p1, p2, p3⟩ := R
  refine ⟨P, p1, by rw [h 17 (by omega) (by omega)]; exact p2, fun i hi => (p3 i hi).congr (fun c c1 c2 => ?_)⟩
  have := (un_st (p1 i (by omega)).2.1).2
  exact h c (by omega) (by omega)
/-- the standing that is now has changed -/
theorem RelX.std (R : RelX m r A) (W : WFa A) (S : SX m' 12 s) (h : ∀ d, (d < 12 ∨ 16 < d) → m' d = m d) : RelX m' r (setS A s) := by
  obtain ⟨B, D, Y, _, U⟩ := R
  exact ⟨B, D, Y.same W.2.2.2.2.1.1 (fun d hd => h d (by unfold qt at hd; omega)), S, U.congr W.2.2.2.1.1 (fun d d1 d2 => h d (by omega))⟩
/-- cells of searches have changed -/
theorem RelX.quiet (R : RelX m r A) (W : WFa A) (h : ∀ d, ¬ ((71 ≤ d ∧ d ≤ 105) ∨ (108 ≤ d ∧ d ≤ 113)) → m' d = m d) : RelX m' r A := by
  obtain ⟨B, D, Y, S, U⟩ := R
  exact ⟨B, D, Y.same W.2.2.2.2.1.1 (fun d hd => h d (by unfold qt at hd; omega)), S.congr (fun c c1 c2 => h c (by omega)), U.congr W.2.2.2.1.1 (fun d d1 d2 => h d (by omega))⟩
theorem x_put (R : RelX m r A) (W : WFa A) : ∃ m1 r1, f_X6_put 17 12 (130, m, r) = some (130, m1, r1) ∧ RelX m1 r1 (actA A (aS A)) ∧ (∀ a, a ≠ 18 → r1 a = r a) ∧ ∀ d, d ≠ 17 → (d < 19 ∨ 58 < d) → m1 d = m d := by
  obtain ⟨B, D, Y, S, P, p1, p2, p3⟩ := R
  obtain ⟨m1, r1, P1, e, X1, u, f1, f2⟩ := pu_put Y.1 p1 S W.2.2.1.1 W.2.2.2.1.1 p2 p3
  refine ⟨m1, r1, e, ⟨B, D, ?_, S.congr (fun c c1 c2 => f2 c (by omega) (by omega)), P1, u⟩, f1, f2⟩
  exact (Y.ref f1).same W.2.2.2.2.1.1 (fun d hd => f2 d (by unfold qt at hd; omega) (by unfold qt at hd; omega))
end X4
