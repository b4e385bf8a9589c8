/-! loops, and sets of words -/
theorem fix_gen {α ρ : Type} {F : (α → Option ρ) → α → Option ρ} {P : Nat → α → Prop} {Q : Option ρ → Prop} {n : Nat} (hb : ∀ i s, P i s → i ≤ n) (hs : ∀ i s, P i s → (∃ s', P (i + 1) s' ∧ ∀ self, F self s = self s') ∨ (∀ self, Q (F self s))) : ∀ fuel i s, n < fuel + i → P i s → Q (mx_fix F fuel s) := by
  intro fuel
  induction fuel with
  | zero =>
    intro i s hn hp
    have := hb i s hp
    omega
  | succ f ih =>
    intro i s hn hp
    show Q (F (mx_fix F f) s)
    rcases hs i s hp with ⟨s', hp', he⟩ | hq
    · rw [he]
      exact ih (i + 1) s' (by omega) hp'
    · exact hq _
/-- a loop whose state at i is known, to n -/
theorem fix_up {α ρ : Type} {F : (α → Option ρ) → α → Option ρ} (enc : Nat → α) (n : Nat) {y : Option ρ} (hs : ∀ i, i < n → ∀ self, F self (enc i) = self (enc (i + 1))) (he : ∀ self, F self (enc n) = y) {fuel : Nat} (hf : n < fuel) : mx_fix F fuel (enc 0) = y := by
  refine fix_gen (P := fun i s => i ≤ n ∧ s = enc i) (Q := fun o => o = y) (n := n) (fun i s h => h.1) ?_ fuel 0 (enc 0) (by omega) ⟨by omega, rfl⟩
  rintro i s ⟨h1, rfl⟩
  by_cases h : i < n
  · exact Or.inl ⟨enc (i + 1), ⟨by omega, rfl⟩, hs i h⟩
  · have : i = n := by omega
    subst this
    exact Or.inr he
/-- a loop whose state is not known, but what holds of it, to n -/
theorem fix_rel {α ρ : Type} {F : (α → Option ρ) → α → Option ρ} (P : Nat → α → Prop) (n : Nat) {Q : Option ρ → Prop} (hs : ∀ i s, i < n → P i s → ∃ s', P (i + 1) s' ∧ ∀ self, F self s = self s') (he : ∀ s, P n s → ∀ self, Q (F self s)) {fuel : Nat} (hf : n < fuel) {s : α} (h0 : P 0 s) : Q (mx_fix F fuel s) := by
  refine fix_gen (P := fun i s => i ≤ n ∧ P i s) (Q := Q) (n := n) (fun i s h => h.1) ?_ fuel 0 s (by omega) ⟨by omega, h0⟩
  rintro i s ⟨h1, h2⟩
  by_cases h : i < n
  · obtain ⟨s', h3, h4⟩ := hs i s h h2
    exact Or.inl ⟨s', ⟨by omega, h3⟩, h4⟩
  · have : i = n := by omega
    subst this
    exact Or.inr (he s h2)
/-- a loop that ends at the first place where it finds something, or at n -/
theorem fix_find {α ρ : Type} {F : (α → Option ρ) → α → Option ρ} (P : Nat → α → Prop) (n : Nat) {Q : Option ρ → Prop} (hs : ∀ i s, i < n → P i s → (∃ s', P (i + 1) s' ∧ ∀ self, F self s = self s') ∨ (∀ self, Q (F self s))) (he : ∀ s, P n s → ∀ self, Q (F self s)) {fuel : Nat} (hf : n < fuel) {s : α} (h0 : P 0 s) : Q (mx_fix F fuel s) := by
  refine fix_gen (P := fun i s => i ≤ n ∧ P i s) (Q := Q) (n := n) (fun i s h => h.1) ?_ fuel 0 s (by omega) ⟨by omega, h0⟩
  rintro i s ⟨h1, h2⟩
  by_cases h : i < n
  · rcases hs i s h h2 with ⟨s', h3, h4⟩ | hq
    · exact Or.inl ⟨s', ⟨by omega, h3⟩, h4⟩
    · exact Or.inr hq
  · have : i = n := by omega
    subst this
    exact Or.inr (he s h2)
/-- the words below n that p has, as a set -/
def mk (p : Nat → Bool) : Nat → Nat
  | 0 => 0
  | n + 1 => if p n then mk p n ||| 2 ^ n else mk p n
theorem mk_bit (p : Nat → Bool) (n i : Nat) : (mk p n).testBit i = (decide (i < n) && p i) := by
  induction n with
  | zero => simp [mk]
  | succ n ih =>
    unfold mk
    by_cases hi : i = n
    · subst hi
      cases hp : p i <;> simp [ih, Nat.testBit_two_pow_self]
    · by_cases h : p n
      · rw [if_pos h, Nat.testBit_or, ih, Nat.testBit_two_pow_of_ne (by omega)]
        by_cases h2 : i < n
        · simp [h2, show i < n + 1 by omega]
        · simp [h2, show ¬ i < n + 1 by omega]
      · rw [if_neg h, ih]
        by_cases h2 : i < n
        · simp [h2, show i < n + 1 by omega]
        · simp [h2, show ¬ i < n + 1 by omega]
theorem mk_lt (p : Nat → Bool) (n : Nat) : mk p n < 2 ^ n := by
  apply Nat.lt_pow_two_of_testBit
  intro i hi
  rw [mk_bit]
  simp [show ¬ i < n by omega]
theorem lt_bit {a n i : Nat} (h : a < 2 ^ n) (hi : n ≤ i) : a.testBit i = false :=
  Nat.testBit_lt_two_pow (Nat.lt_of_lt_of_le h (Nat.pow_le_pow_right (by decide) hi))
theorem bit_ext {n a b : Nat} (ha : a < 2 ^ n) (hb : b < 2 ^ n) (h : ∀ i, i < n → a.testBit i = b.testBit i) : a = b := by
  apply Nat.eq_of_testBit_eq
  intro i
  by_cases hi : i < n
  · exact h i hi
  · rw [lt_bit ha (by omega), lt_bit hb (by omega)]
theorem p1024 {n : Nat} (h : n ≤ 10) : 2 ^ n ≤ 1024 := Nat.pow_le_pow_right (by decide) h
theorem lt1024 {a n : Nat} (ha : a < 2 ^ n) (h : n ≤ 10) : a < 1024 := Nat.lt_of_lt_of_le ha (p1024 h)
theorem or_lt {a b n : Nat} (ha : a < 2 ^ n) (hb : b < 2 ^ n) : a ||| b < 2 ^ n := Nat.or_lt_two_pow ha hb
theorem and_lt {a b n : Nat} (ha : a < 2 ^ n) : a &&& b < 2 ^ n := Nat.lt_of_le_of_lt Nat.and_le_left ha
theorem bit_lt {w n : Nat} (h : w < n) : 2 ^ w < 2 ^ n := Nat.pow_lt_pow_right (by decide) h
theorem and_ne0 {a b n : Nat} (ha : a < 2 ^ n) : (a &&& b ≠ 0) ↔ ∃ i, i < n ∧ a.testBit i = true ∧ b.testBit i = true := by
  constructor
  · intro h
    obtain ⟨i, hi⟩ := Nat.exists_testBit_of_ne_zero h
    rw [Nat.testBit_and] at hi
    simp only [Bool.and_eq_true] at hi
    refine ⟨i, ?_, hi⟩
    apply Decidable.byContradiction
    intro hn
    rw [lt_bit ha (by omega)] at hi
    exact absurd hi.1 (by decide)
  · rintro ⟨i, -, h1, h2⟩ h0
    have : (a &&& b).testBit i = true := by rw [Nat.testBit_and, h1, h2]; rfl
    rw [h0] at this
    simp at this
theorem ne0_bit {a n : Nat} (ha : a < 2 ^ n) : (a ≠ 0) ↔ ∃ i, i < n ∧ a.testBit i = true := by
  constructor
  · intro h
    obtain ⟨i, hi⟩ := Nat.exists_testBit_of_ne_zero h
    refine ⟨i, ?_, hi⟩
    apply Decidable.byContradiction
    intro hn
    rw [lt_bit ha (by omega)] at hi
    exact absurd hi (by decide)
  · rintro ⟨i, -, h1⟩ h0
    rw [h0] at h1
    simp at h1
/-- the least i below n that p has, or n -/
def fst (p : Nat → Bool) : Nat → Nat
  | 0 => 0
  | n + 1 => if p (fst p n) then fst p n else if fst p n = n then n + 1 else fst p n
theorem fst_spec (p : Nat → Bool) (n : Nat) : (fst p n = n ∨ (fst p n < n ∧ p (fst p n) = true)) ∧ ∀ j, j < fst p n → j < n ∧ p j = false := by
  induction n with
  | zero => simp [fst]
  | succ n ih =>
    obtain ⟨h1, h2⟩ := ih
    unfold fst
    by_cases hp : p (fst p n) = true
    · rw [if_pos hp]
      refine ⟨Or.inr ⟨?_, hp⟩, fun j hj => ⟨?_, (h2 j hj).2⟩⟩
      · rcases h1 with h1 | h1 <;> omega
      · have := (h2 j hj).1; omega
    · rw [if_neg hp]
      rcases h1 with h1 | h1
      · rw [if_pos h1]
        refine ⟨Or.inl rfl, fun j hj => ⟨hj, ?_⟩⟩
        by_cases hj2 : j < n
        · exact (h2 j (by omega)).2
        · have : j = fst p n := by omega
          rw [this]
          simpa using hp
      · exact absurd h1.2 hp
theorem fst_le (p : Nat → Bool) (n : Nat) : fst p n ≤ n := by
  rcases (fst_spec p n).1 with h | h <;> omega
theorem fst_eq {p : Nat → Bool} {n i : Nat} (hi : i < n) (hp : p i = true) (hm : ∀ j, j < i → p j = false) : fst p n = i := by
  obtain ⟨h1, h2⟩ := fst_spec p n
  rcases Nat.lt_trichotomy (fst p n) i with h | h | h
  · rcases h1 with h1 | h1
    · omega
    · rw [hm _ h] at h1
      exact absurd h1.2 (by decide)
  · exact h
  · have := (h2 i h).2
    rw [hp] at this
    exact absurd this (by decide)
theorem fst_none {p : Nat → Bool} {n : Nat} (hm : ∀ j, j < n → p j = false) : fst p n = n := by
  rcases (fst_spec p n).1 with h | h
  · exact h
  · rw [hm _ h.1] at h
    exact absurd h.2 (by decide)
theorem fst_lt {p : Nat → Bool} {n i : Nat} (hi : i < n) (hp : p i = true) : fst p n < n ∧ p (fst p n) = true := by
  obtain ⟨h1, h2⟩ := fst_spec p n
  rcases h1 with h1 | h1
  · have := (h2 i (by omega)).2
    rw [hp] at this
    exact absurd this (by decide)
  · exact h1
theorem fst_congr {p q : Nat → Bool} {n : Nat} (h : ∀ i, i < n → p i = q i) : fst p n = fst q n := by
  obtain ⟨h1, h2⟩ := fst_spec q n
  rcases h1 with h1 | h1
  · rw [h1]
    exact fst_none (fun j hj => by rw [h j hj]; exact (h2 j (by omega)).2)
  · exact fst_eq h1.1 (by rw [h _ h1.1]; exact h1.2) (fun j hj => by rw [h j (by omega)]; exact (h2 j hj).2)
theorem mk_congr {p q : Nat → Bool} {n : Nat} (h : ∀ i, i < n → p i = q i) : mk p n = mk q n := by
  refine bit_ext (mk_lt p n) (mk_lt q n) (fun i hi => ?_)
  rw [mk_bit, mk_bit, h i hi]
/-- copies along a loop -/
def cpy (m : Nat → Nat → Int32) (d o : Nat) (f : Nat → Int32) (i : Nat) : Nat → Nat → Int32 := fun a j => if a = d ∧ o ≤ j ∧ j < o + i then f (j - o) else m a j
theorem cpy_0 {m : Nat → Nat → Int32} {d o : Nat} {f : Nat → Int32} : cpy m d o f 0 = m := by
  funext a j
  unfold cpy
  rw [if_neg (by omega)]
theorem cpy_s {m : Nat → Nat → Int32} {d o i : Nat} {f : Nat → Int32} : mx_up (cpy m d o f i) d (o + i) (f i) = cpy m d o f (i + 1) := by
  funext a j
  unfold mx_up cpy
  by_cases h : a = d ∧ j = o + i
  · rw [if_pos h, if_pos ⟨h.1, by omega, by omega⟩, show j - o = i by omega]
  · rw [if_neg h]
    by_cases h2 : a = d ∧ o ≤ j ∧ j < o + i
    · rw [if_pos h2, if_pos ⟨h2.1, h2.2.1, by omega⟩]
    · rw [if_neg h2, if_neg (by omega)]
theorem cpy_in {m : Nat → Nat → Int32} {d o i j : Nat} {f : Nat → Int32} (h : o ≤ j) (h2 : j < o + i) : cpy m d o f i d j = f (j - o) := by
  unfold cpy
  rw [if_pos ⟨rfl, h, h2⟩]
theorem cpy_out {m : Nat → Nat → Int32} {d o i a j : Nat} {f : Nat → Int32} (h : a ≠ d ∨ j < o ∨ o + i ≤ j) : cpy m d o f i a j = m a j := by
  unfold cpy
  rw [if_neg (by omega)]
theorem fix_genS {α ρ : Type} {F : (α → Option ρ) → α → Option ρ} {P : Nat → α → Prop} {Q : Option ρ → Prop} {n : Nat} (hb : ∀ i s, P i s → i ≤ n) (hs : ∀ i s, P i s → ∀ self, (∃ s', P (i + 1) s' ∧ F self s = self s') ∨ Q (F self s)) : ∀ fuel i s, n < fuel + i → P i s → Q (mx_fix F fuel s) := by
  intro fuel
  induction fuel with
  | zero =>
    intro i s hn hp
    have := hb i s hp
    omega
  | succ f ih =>
    intro i s hn hp
    show Q (F (mx_fix F f) s)
    rcases hs i s hp (mx_fix F f) with ⟨s', hp', he⟩ | hq
    · rw [he]
      exact ih (i + 1) s' (by omega) hp'
    · exact hq
/-- the same, where what comes behind a round may hang on the loops within -/
theorem fix_findS {α ρ : Type} {F : (α → Option ρ) → α → Option ρ} (P : Nat → α → Prop) (n : Nat) {Q : Option ρ → Prop} (hs : ∀ i s, i < n → P i s → ∀ self, (∃ s', P (i + 1) s' ∧ F self s = self s') ∨ Q (F self s)) (he : ∀ s, P n s → ∀ self, Q (F self s)) {fuel : Nat} (hf : n < fuel) {s : α} (h0 : P 0 s) : Q (mx_fix F fuel s) := by
  refine fix_genS (P := fun i s => i ≤ n ∧ P i s) (Q := Q) (n := n) (fun i s h => h.1) ?_ fuel 0 s (by omega) ⟨by omega, h0⟩
  rintro i s ⟨h1, h2⟩ self
  by_cases h : i < n
  · rcases hs i s h h2 self with ⟨s', h3, h4⟩ | hq
    · exact Or.inl ⟨s', ⟨by omega, h3⟩, h4⟩
    · exact Or.inr hq
  · have : i = n := by omega
    subst this
    exact Or.inr (he s h2 self)
theorem fix_relS {α ρ : Type} {F : (α → Option ρ) → α → Option ρ} (P : Nat → α → Prop) (n : Nat) {Q : Option ρ → Prop} (hs : ∀ i s, i < n → P i s → ∀ self, ∃ s', P (i + 1) s' ∧ F self s = self s') (he : ∀ s, P n s → ∀ self, Q (F self s)) {fuel : Nat} (hf : n < fuel) {s : α} (h0 : P 0 s) : Q (mx_fix F fuel s) :=
  fix_findS P n (fun i s hi hp self => Or.inl (hs i s hi hp self)) he hf h0
