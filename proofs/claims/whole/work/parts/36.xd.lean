/-! the other side: the text as it is read -/
def lX (X : Nat × (Nat → Int32)) (p : Nat) : Int32 := if p < X.1 then X.2 p else -nI 4
def nfig (X : Nat × (Nat → Int32)) (p : Nat) : Nat := if figB X p = true then (if figB X (p + 1) = true then 2 else 1) else 0
/-- one item's numbers, whatever its letter: the first, the second if there is one, the place behind -/
def rdX (X : Nat × (Nat → Int32)) (p : Nat) : Option (Nat × Option Nat × Nat) :=
  match numB X (p + 1) with
  | none => none
  | some t => if chrB X t.2 59 = true then some (t.1, none, t.2 + 1) else if chrB X t.2 44 = true then (match numB X (t.2 + 1) with
    | none => none
    | some u => if chrB X u.2 59 = true then some (t.1, some u.1, u.2 + 1) else none) else none
def tkS (b : Bo) (l : Int32) (v q : Nat) : Option (Nat × Bo) := if l = nI 99 then (if v < 2 then some (q, setC b v) else none) else if l = nI 108 then (if 1 ≤ v ∧ v < 5 then some (q, setM b v) else none) else none
def tkP (b : Bo) (l : Int32) (v u q : Nat) : Option (Nat × Bo) := if l = nI 103 then (if v < bN b ∧ u < bN b then some (q, addG b v u) else none) else if l = nI 107 then (if v < 2 ∧ u < bN b then some (q, addK b v u) else none) else
  if l = nI 119 then (if v < 4 ∧ u < 10 ∧ bN b ≠ 10 then some (q, addW b v u) else none) else none
theorem chr_ex {X : Nat × (Nat → Int32)} {p : Nat} (h : chrB X p 59 = true) : chrB X p 44 = false := by
  unfold chrB at h ⊢
  simp only [decide_eq_true_eq, decide_eq_false_iff_not] at h ⊢
  rintro ⟨-, q⟩
  rw [h.2] at q
  exact absurd q (by decide)
theorem numE_eq {X : Nat × (Nat → Int32)} {p lo hx c : Nat} {t : Nat × Nat} (h : numB X p = some t) : numE X p lo hx c = if chrB X t.2 c = true ∧ lo ≤ t.1 ∧ t.1 < hx then some (t.1, t.2 + 1) else none := by
  unfold numE
  rw [h]
  rfl
theorem numE_no {X : Nat × (Nat → Int32)} {p lo hx c : Nat} (h : numB X p = none) : numE X p lo hx c = none := by
  unfold numE
  rw [h]
  rfl
def tkA (b : Bo) (l : Int32) (o : Option (Nat × Option Nat × Nat)) : Option (Nat × Bo) := match o with
  | none => none
  | some (v, none, q) => tkS b l v q
  | some (v, some u, q) => tkP b l v u q
theorem rdI_eq (X : Nat × (Nat → Int32)) (b : Bo) (p : Nat) : rdI X b p = tkA b (X.2 p) (rdX X p) := by
  cases h1 : numB X (p + 1) with
  | none =>
    have e : rdX X p = none := by unfold rdX; simp only [h1]
    rw [e]
    show rdI X b p = none
    unfold rdI
    simp only [numE_no h1, Option.bind_none]
    repeat' split
    all_goals rfl
  | some t =>
    by_cases c59 : chrB X t.2 59 = true
    · have c44 := chr_ex c59
      have e : rdX X p = some (t.1, none, t.2 + 1) := by unfold rdX; simp only [h1, c59, if_true]
      rw [e]
      show rdI X b p = tkS b (X.2 p) t.1 (t.2 + 1)
      unfold rdI tkS
      simp only [numE_eq h1, c59, c44, Bool.false_eq_true, false_and, true_and, if_false, if_true, Option.bind_none, Nat.zero_le]
      by_cases l1 : X.2 p = nI 99
      · rw [if_pos l1, if_pos l1]
        by_cases hv : t.1 < 2
        · rw [if_pos hv, if_pos hv]; rfl
        · rw [if_neg hv, if_neg hv]; rfl
      · rw [if_neg l1, if_neg l1]
        by_cases l2 : X.2 p = nI 103
        · have l4 : ¬ X.2 p = nI 108 := by rw [l2]; decide
          rw [if_pos l2, if_neg l4]
        · rw [if_neg l2]
          by_cases l3 : X.2 p = nI 107
          · have l4 : ¬ X.2 p = nI 108 := by rw [l3]; decide
            rw [if_pos l3, if_neg l4]
          · rw [if_neg l3]
            by_cases l4 : X.2 p = nI 108
            · rw [if_pos l4, if_pos l4]
              by_cases hv : 1 ≤ t.1 ∧ t.1 < 5
              · rw [if_pos hv, if_pos hv]; rfl
              · rw [if_neg hv, if_neg hv]; rfl
            · rw [if_neg l4, if_neg l4]
              split <;> rfl
    · by_cases c44 : chrB X t.2 44 = true
      · cases h2 : numB X (t.2 + 1) with
        | none =>
          have e : rdX X p = none := by unfold rdX; simp only [h1, h2, c59, c44, if_true, if_false, Bool.false_eq_true]
          rw [e]
          show rdI X b p = none
          unfold rdI
          simp only [numE_eq h1, c59, c44, Bool.false_eq_true, false_and, true_and, if_false, if_true, Option.bind_none, Nat.zero_le]
          have k : ∀ (lo hx : Nat) (f : Nat × Nat → Option (Nat × Bo)), ((if t.1 < hx then some (t.1, t.2 + 1) else none).bind fun q => (numE X q.2 0 lo 59).bind fun z => f z) = none := by
            intro lo hx f
            split
            · rw [Option.bind_some, numE_no h2]; rfl
            · rfl
          repeat' split
          all_goals first
            | rfl
            | (split <;> first | rfl | (rw [Option.bind_some, numE_no h2]; rfl))
            | (rw [Option.bind_some, numE_no h2]; rfl)
        | some u =>
          by_cases d59 : chrB X u.2 59 = true
          · have e : rdX X p = some (t.1, some u.1, u.2 + 1) := by unfold rdX; simp only [h1, h2, c59, c44, d59, if_true, if_false, Bool.false_eq_true]
            rw [e]
            show rdI X b p = tkP b (X.2 p) t.1 u.1 (u.2 + 1)
            unfold rdI tkP
            simp only [numE_eq h1, c59, c44, Bool.false_eq_true, false_and, true_and, if_false, if_true, Option.bind_none, Nat.zero_le]
            by_cases l1 : X.2 p = nI 99
            · have l2 : ¬ X.2 p = nI 103 := by rw [l1]; decide
              have l3 : ¬ X.2 p = nI 107 := by rw [l1]; decide
              have l5 : ¬ X.2 p = nI 119 := by rw [l1]; decide
              rw [if_pos l1, if_neg l2, if_neg l3, if_neg l5]
            · rw [if_neg l1]
              by_cases l2 : X.2 p = nI 103
              · rw [if_pos l2, if_pos l2]
                by_cases hv : t.1 < bN b
                · rw [if_pos hv, Option.bind_some, numE_eq h2]
                  by_cases hu : u.1 < bN b
                  · rw [if_pos ⟨d59, Nat.zero_le _, hu⟩, if_pos ⟨hv, hu⟩]; rfl
                  · rw [if_neg (fun q => hu q.2.2), if_neg (fun q => hu q.2)]; rfl
                · rw [if_neg hv, if_neg (fun q => hv q.1)]; rfl
              · rw [if_neg l2, if_neg l2]
                by_cases l3 : X.2 p = nI 107
                · rw [if_pos l3, if_pos l3]
                  by_cases hv : t.1 < 2
                  · rw [if_pos hv, Option.bind_some, numE_eq h2]
                    by_cases hu : u.1 < bN b
                    · rw [if_pos ⟨d59, Nat.zero_le _, hu⟩, if_pos ⟨hv, hu⟩]; rfl
                    · rw [if_neg (fun q => hu q.2.2), if_neg (fun q => hu q.2)]; rfl
                  · rw [if_neg hv, if_neg (fun q => hv q.1)]; rfl
                · rw [if_neg l3, if_neg l3]
                  by_cases l4 : X.2 p = nI 108
                  · have l5 : ¬ X.2 p = nI 119 := by rw [l4]; decide
                    rw [if_pos l4, if_neg l5]
                  · rw [if_neg l4]
                    by_cases l5 : X.2 p = nI 119
                    · rw [if_pos l5, if_pos l5]
                      by_cases hv : t.1 < 4
                      · rw [if_pos hv, Option.bind_some, numE_eq h2]
                        by_cases hu : u.1 < 10
                        · rw [if_pos ⟨d59, Nat.zero_le _, hu⟩, Option.bind_some]
                          by_cases h10 : bN b = 10
                          · rw [if_pos h10, if_neg (fun q => q.2.2 h10)]
                          · rw [if_neg h10, if_pos ⟨hv, hu, h10⟩]
                        · rw [if_neg (fun q => hu q.2.2), if_neg (fun q => hu q.2.1)]; rfl
                      · rw [if_neg hv, if_neg (fun q => hv q.1)]; rfl
                    · rw [if_neg l5, if_neg l5]
          · have e : rdX X p = none := by unfold rdX; simp only [h1, h2, c59, c44, d59, if_true, if_false, Bool.false_eq_true]
            rw [e]
            show rdI X b p = none
            unfold rdI
            simp only [numE_eq h1, c59, c44, Bool.false_eq_true, false_and, true_and, if_false, if_true, Option.bind_none, Nat.zero_le]
            repeat' split
            all_goals first
              | rfl
              | (split <;> first | rfl | (rw [Option.bind_some, numE_eq h2, if_neg (fun q => d59 q.1)]; rfl))
              | (rw [Option.bind_some, numE_eq h2, if_neg (fun q => d59 q.1)]; rfl)
      · have e : rdX X p = none := by unfold rdX; simp only [h1, c59, c44, if_false, Bool.false_eq_true]
        rw [e]
        show rdI X b p = none
        unfold rdI
        simp only [numE_eq h1, c59, c44, Bool.false_eq_true, false_and, if_false, Option.bind_none]
        repeat' split
        all_goals rfl
section X13
variable {m m' : Nat → Nat → Int32} {r r' : Nat → Nat → Option Nat} {a c d n B D k w i j u v t p : Nat} {b : Bo} {x y : Int32} {A : Ab} {X : Nat × (Nat → Int32)}
def XX (m : Nat → Nat → Int32) (X : Nat × (Nat → Int32)) : Prop := m 1 2 = nI X.1 ∧ ∀ i, i < X.1 → m 2 i = X.2 i
theorem x_let (H : XR r) (T : XX m X) (hX : X.1 ≤ 200) (hp : p < 1000) : f_X10_letterAt 1 (nI p) (130, m, r) = some (lX X p) := by
  unfold f_X10_letterAt lX
  simp only [nb_lit]
  rw [if_neg (nI_pos0 (by omega)), bnd (tg (by decide)), T.1]
  by_cases h : p < X.1
  · rw [if_neg (n_nle h (by omega)), bnd (tr0 H), bnd tln, if_neg (n_nle (by omega) (by decide)), bnd (tr0 H), bnd (ta (by omega)), T.2 p h, if_pos h]
    rfl
  · rw [if_pos (n_le (by omega) (by omega)), if_neg h]
    rfl
theorem lX_chr {c : Nat} (hc : c < 2 ^ 31) : (lX X p = nI c) ↔ chrB X p c = true := by
  unfold lX chrB
  simp only [decide_eq_true_eq]
  by_cases h : p < X.1
  · rw [if_pos h]
    exact ⟨fun q => ⟨h, q⟩, fun q => q.2⟩
  · rw [if_neg h]
    exact ⟨fun q => absurd q.symm (ng_ne (by decide) (by decide) hc), fun q => absurd q.1 h⟩
theorem x_fig {h : mx_Hp} : f_X10_isFigure (lX X p) h = some (if figB X p = true then nI 1 else nI 0) := by
  have e : figB X p = true ↔ (¬ lX X p < nI 48 ∧ ¬ nI 57 < lX X p) := by
    unfold lX figB
    simp only [decide_eq_true_eq]
    by_cases h : p < X.1
    · rw [if_pos h]
      exact ⟨fun q => q.2, fun q => ⟨h, q⟩⟩
    · rw [if_neg h]
      exact ⟨fun q => absurd q.1 h, fun q => absurd (show (-nI 4 : Int32) < nI 48 by decide) q.1⟩
  unfold f_X10_isFigure
  simp only [nb_lit]
  by_cases h1 : lX X p < nI 48
  · rw [if_pos h1, if_neg (fun q => (e.mp q).1 h1), Option.bind_some, if_pos (Or.inl rfl)]
  · rw [if_neg h1]
    by_cases h2 : nI 57 < lX X p
    · rw [if_pos h2, if_neg (fun q => (e.mp q).2 h2), Option.bind_some, if_pos (Or.inl rfl)]
    · rw [if_neg h2, if_pos (e.mpr ⟨h1, h2⟩), Option.bind_some, if_pos (Or.inr rfl)]
theorem x_figs (H : XR r) (T : XX m X) (hX : X.1 ≤ 200) (hp : p < 900) : f_X10_figuresAt 1 (nI p) (130, m, r) = some (nI (nfig X p)) := by
  unfold f_X10_figuresAt nfig
  simp only [nb_lit]
  rw [if_pos tgd, bnd (x_let H T hX (by omega)), bnd x_fig]
  by_cases h1 : figB X p = true
  · rw [if_pos h1, if_pos h1, if_pos (n_ne (by decide) (by decide) (by decide) : ¬ nI 1 = nI 0), if_pos tgd, nI_add, bnd (x_let H T hX (by omega)), bnd x_fig]
    by_cases h2 : figB X (p + 1) = true
    · rw [if_pos h2, if_pos h2, if_neg (n_ne (by decide) (by decide) (by decide) : ¬ nI 1 = nI 0)]
      rfl
    · rw [if_neg h2, if_neg h2, if_pos rfl]
      rfl
  · rw [if_neg h1, if_neg h1, if_neg (not_not_intro rfl)]
theorem lX_fig (h : figB X p = true) : lX X p = nI (48 + figV X p) := by
  obtain ⟨a1, a2, a3⟩ := figV_of h
  unfold lX
  rw [if_pos a1, a3]
theorem numB_fig {q : Nat × Nat} (h : numB X p = some q) : figB X p = true ∧ q.2 = p + nfig X p ∧ 1 ≤ nfig X p ∧ nfig X p ≤ 2 := by
  unfold numB at h
  unfold nfig
  split at h
  · rename_i h1
    rw [if_pos h1]
    split at h
    · rename_i h2
      cases h
      rw [if_pos h2]
      exact ⟨h1, rfl, by decide, by decide⟩
    · rename_i h2
      cases h
      rw [if_neg h2]
      exact ⟨h1, rfl, by decide, by decide⟩
  · cases h
theorem numB_nofig (h : numB X p = none) : nfig X p = 0 := by
  unfold numB at h
  unfold nfig
  split at h
  · split at h <;> cases h
  · rename_i h1
    rw [if_neg h1]
theorem x_val (H : XR r) (T : XX m X) (hX : X.1 ≤ 200) (hp : p < 900) {q : Nat × Nat} (h : numB X p = some q) : f_X10_valueAt 1 (nI p) (nI (nfig X p)) (130, m, r) = some (nI q.1) := by
  obtain ⟨h1, -, -, -⟩ := numB_fig h
  have v1 := (figV_of h1).2.1
  unfold f_X10_valueAt
  simp only [nb_lit]
  rw [if_pos tgd, bnd (x_let H T hX (by omega)), lX_fig h1]
  have s1 : nI (48 + figV X p) - nI 48 = nI (figV X p) := by rw [nb_sub (by omega), show 48 + figV X p - 48 = figV X p by omega]
  unfold numB at h
  unfold nfig
  rw [if_pos h1] at h ⊢
  by_cases h2 : figB X (p + 1) = true
  · rw [if_pos h2] at h ⊢
    cases h
    have v2 := (figV_of h2).2.1
    rw [if_neg (not_not_intro rfl), if_pos tgd, nI_add, bnd (x_let H T hX (by omega)), lX_fig h2, s1, Option.bind_some, pk_mul, nI_add, nb_sub (by omega)]
    congr 2
    show figV X p * 10 + (48 + figV X (p + 1)) - 48 = 10 * figV X p + figV X (p + 1)
    omega
  · rw [if_neg h2] at h ⊢
    cases h
    rw [if_pos (n_ne (by decide) (by decide) (by decide) : ¬ nI 1 = nI 2), s1]
    rfl
/-- one number of an item -/
theorem x_one (H : XR r) (T : XX m X) (hX : X.1 ≤ 200) (hp : p < 800) (hi : i < 2) {self : Int32 × Int32 × mx_Hp → Option (Int32 × mx_Hp)} : f_X10_readItem_L11 1 self (nI p, nI i, (130, m, r)) = match numB X p with
    | none => some (-nI 1, (130, m, r))
    | some t => if chrB X t.2 59 = true then some (nI (t.2 + 1), (130, mx_up (mx_up m 3 i (nI t.1)) 1 3 (nI (i + 1)), r)) else if chrB X t.2 44 = true then self (nI (t.2 + 1), nI (i + 1), (130, mx_up (mx_up m 3 i (nI t.1)) 1 3 (nI (i + 1)), r)) else some (-nI 1, (130, mx_up (mx_up m 3 i (nI t.1)) 1 3 (nI (i + 1)), r)) := by
  unfold f_X10_readItem_L11
  simp only [nb_lit]
  rw [bnd (tr1 H), bnd tln3, if_neg (n_nle hi (by omega)), if_pos tgd, bnd (x_figs H T hX (by omega))]
  cases hn : numB X p with
  | none =>
    rw [numB_nofig hn, if_neg (not_not_intro rfl)]
  | some t =>
    obtain ⟨f1, f2, f3, f4⟩ := numB_fig hn
    have T2 : XX (mx_up (mx_up m 3 i (nI t.1)) 1 3 (nI (i + 1))) X := ⟨by rw [hb_up_ne (by omega), up_ne (by decide)]; exact T.1, fun j hj => by rw [up_ne (by decide), up_ne (by decide)]; exact T.2 j hj⟩
    rw [if_pos (n_ne (by omega) (by omega) (by decide)), bnd (tr1 H), if_pos tgd, bnd (x_val H T hX (by omega) hn), bnd (tas3 hi _), nI_add, bnd (tp (by decide) _), if_pos tgd, nI_add, ← f2, bnd (x_let H T2 hX (by omega))]
    by_cases c59 : chrB X t.2 59 = true
    · rw [if_neg (not_not_intro ((lX_chr (by decide)).mpr c59)), nI_add]
      simp only [c59, if_true]
    · rw [if_pos (fun q => c59 ((lX_chr (by decide)).mp q)), if_pos tgd, bnd (x_let H T2 hX (by omega))]
      by_cases c44 : chrB X t.2 44 = true
      · rw [if_pos ((lX_chr (by decide)).mpr c44), nI_add]
        simp only [c59, c44, if_true, if_false, Bool.false_eq_true]
      · rw [if_neg (fun q => c44 ((lX_chr (by decide)).mp q))]
        simp only [c59, c44, if_false, Bool.false_eq_true]
theorem numB_le {q : Nat × Nat} (h : numB X p = some q) : q.2 ≤ X.1 := by
  unfold numB at h
  split at h
  · rename_i h1
    have a1 := (figV_of h1).1
    split at h
    · rename_i h2
      have a2 := (figV_of h2).1
      cases h
      show p + 2 ≤ X.1
      omega
    · cases h
      show p + 1 ≤ X.1
      omega
  · cases h
theorem x_ritem (H : XR r) (T : XX m X) (hX : X.1 ≤ 200) (hp : p < 400) : ∃ m', f_X10_readItem 1 (nI p) (130, m, r) = some ((match rdX X p with | none => -nI 1 | some z => nI z.2.2), (130, m', r)) ∧ (∀ z, rdX X p = some z → m' 3 0 = nI z.1 ∧ (match z.2.1 with | none => m' 1 3 = nI 1 | some u => m' 1 3 = nI 2 ∧ m' 3 1 = nI u)) ∧ (∀ d, d ≠ 1 → d ≠ 3 → m' d = m d) ∧ m' 1 2 = m 1 2 := by
  have T0 : XX (mx_up m 1 3 (nI 0)) X := ⟨by rw [hb_up_ne (by omega)]; exact T.1, fun j hj => by rw [up_ne (by decide)]; exact T.2 j hj⟩
  unfold f_X10_readItem
  simp only [nb_lit]
  rw [bnd (tp (by decide) _), nI_add, show (2000 : Nat) = 1999 + 1 from rfl, fix_1, x_one H T0 hX (by omega) (by decide)]
  unfold rdX
  cases hn : numB X (p + 1) with
  | none =>
    exact ⟨_, rfl, fun z q => (by cases q), fun d d1 d3 => up_ne d1, by rw [hb_up_ne (by omega)]⟩
  | some t =>
    have hl := numB_le hn
    have T1 : XX (mx_up (mx_up (mx_up m 1 3 (nI 0)) 3 0 (nI t.1)) 1 3 (nI (0 + 1))) X := ⟨by rw [hb_up_ne (by omega), up_ne (by decide)]; exact T0.1, fun j hj => by rw [up_ne (by decide), up_ne (by decide)]; exact T0.2 j hj⟩
    have F1 : ∀ d, d ≠ 1 → d ≠ 3 → (mx_up (mx_up (mx_up m 1 3 (nI 0)) 3 0 (nI t.1)) 1 3 (nI (0 + 1))) d = m d := fun d d1 d3 => by rw [up_ne d1, up_ne d3, up_ne d1]
    have F2 : (mx_up (mx_up (mx_up m 1 3 (nI 0)) 3 0 (nI t.1)) 1 3 (nI (0 + 1))) 1 2 = m 1 2 := by rw [hb_up_ne (by omega), up_ne (by decide), hb_up_ne (by omega)]
    have F3 : (mx_up (mx_up (mx_up m 1 3 (nI 0)) 3 0 (nI t.1)) 1 3 (nI (0 + 1))) 3 0 = nI t.1 := by rw [up_ne (by decide), hb_up_same]
    dsimp only
    by_cases c59 : chrB X t.2 59 = true
    · rw [if_pos c59, if_pos c59]
      refine ⟨_, rfl, fun z q => ?_, F1, F2⟩
      cases q
      exact ⟨F3, hb_up_same⟩
    · rw [if_neg c59, if_neg c59]
      by_cases c44 : chrB X t.2 44 = true
      · rw [if_pos c44, if_pos c44, show (1999 : Nat) = 1998 + 1 from rfl, fix_1, x_one H T1 hX (by omega) (by decide)]
        generalize mx_up (mx_up (mx_up m 1 3 (nI 0)) 3 0 (nI t.1)) 1 3 (nI (0 + 1)) = g at *
        cases hu : numB X (t.2 + 1) with
        | none => exact ⟨g, rfl, fun z q => (by cases q), F1, F2⟩
        | some u =>
          have G1 : ∀ d, d ≠ 1 → d ≠ 3 → (mx_up (mx_up g 3 (0 + 1) (nI u.1)) 1 3 (nI (0 + 1 + 1))) d = m d := fun d d1 d3 => by rw [up_ne d1, up_ne d3, F1 d d1 d3]
          have G2 : (mx_up (mx_up g 3 (0 + 1) (nI u.1)) 1 3 (nI (0 + 1 + 1))) 1 2 = m 1 2 := by rw [hb_up_ne (by omega), up_ne (by decide), F2]
          dsimp only
          by_cases d59 : chrB X u.2 59 = true
          · rw [if_pos d59, if_pos d59]
            refine ⟨_, rfl, fun z q => ?_, G1, G2⟩
            cases q
            refine ⟨by rw [up_ne (by decide), hb_up_ne (by omega), F3], hb_up_same, by rw [up_ne (by decide), hb_up_same]⟩
          · rw [if_neg d59, if_neg d59]
            by_cases d44 : chrB X u.2 44 = true
            · rw [if_pos d44, show (1998 : Nat) = 1997 + 1 from rfl, fix_1]
              refine ⟨_, ?_, fun z q => (by cases q), G1, G2⟩
              unfold f_X10_readItem_L11
              simp only [nb_lit]
              rw [bnd (tr1 H), bnd tln3, if_pos (n_le (by decide) (by decide))]
            · rw [if_neg d44]
              exact ⟨_, rfl, fun z q => (by cases q), G1, G2⟩
      · rw [if_neg c44, if_neg c44]
        exact ⟨_, rfl, fun z q => (by cases q), F1, F2⟩
end X13
