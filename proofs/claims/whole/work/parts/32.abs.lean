/-! what a state IS: the text, the borough, the standing, those that can be undone, those kept, what was seen -/
/-- a borough: words, kinds, worths, behind, most, chain, known -/
abbrev Bo : Type := Nat × (Nat → Nat) × (Nat → Nat) × (Nat → Nat) × Nat × Nat × (Nat → Nat)
def bN (b : Bo) : Nat := b.1
def bK (b : Bo) : Nat → Nat := b.2.1
def bW (b : Bo) : Nat → Nat := b.2.2.1
def bE (b : Bo) : Nat → Nat := b.2.2.2.1
def bM (b : Bo) : Nat := b.2.2.2.2.1
def bC (b : Bo) : Nat := b.2.2.2.2.2.1
def bY (b : Bo) : Nat → Nat := b.2.2.2.2.2.2
/-- a standing: how many are said, which, decrees, gained, known, the chain, the minute, how often it went over -/
abbrev St : Type := Nat × (Nat → Nat) × (Nat → Int32) × (Nat → Int32) × (Nat → Nat) × Nat × Int32 × Int32
def sN (s : St) : Nat := s.1
def sW (s : St) : Nat → Nat := s.2.1
def sD (s : St) : Nat → Int32 := s.2.2.1
def sG (s : St) : Nat → Int32 := s.2.2.2.1
def sY (s : St) : Nat → Nat := s.2.2.2.2.1
def sC (s : St) : Nat := s.2.2.2.2.2.1
def sT (s : St) : Int32 := s.2.2.2.2.2.2.1
def sP (s : St) : Int32 := s.2.2.2.2.2.2.2
/-- all: text, borough, now, undoable (oldest first), kept, seen -/
abbrev Ab : Type := (Nat × (Nat → Int32)) × Bo × St × (Nat × (Nat → St)) × (Nat × (Nat → St)) × (Nat × (Nat → Nat × Nat))
def aX (A : Ab) : Nat × (Nat → Int32) := A.1
def aB (A : Ab) : Bo := A.2.1
def aS (A : Ab) : St := A.2.2.1
def aU (A : Ab) : Nat × (Nat → St) := A.2.2.2.1
def aK (A : Ab) : Nat × (Nat → St) := A.2.2.2.2.1
def aO (A : Ab) : Nat × (Nat → Nat × Nat) := A.2.2.2.2.2
def WFb (b : Bo) : Prop := (1 ≤ bN b ∧ bN b ≤ 10) ∧ (∀ w, w < bN b → bK b w < 4 ∧ bW b w < 10 ∧ bE b w < 2 ^ bN b) ∧ (1 ≤ bM b ∧ bM b ≤ 4) ∧ bC b < 2 ∧ ∀ i, i < 2 → bY b i < 2 ^ bN b
def WFs (n : Nat) (s : St) : Prop := sN s ≤ 12 ∧ (∀ i, i < sN s → sW s i < n) ∧ (∀ i, i < 2 → sY s i < 2 ^ n) ∧ sC s < 2
def WFa (A : Ab) : Prop := (aX A).1 ≤ 200 ∧ WFb (aB A) ∧ WFs (bN (aB A)) (aS A) ∧ ((aU A).1 ≤ 8 ∧ ∀ i, i < (aU A).1 → WFs (bN (aB A)) ((aU A).2 i)) ∧ ((aK A).1 ≤ 2 ∧ ∀ i, i < (aK A).1 → WFs (bN (aB A)) ((aK A).2 i)) ∧ ((aO A).1 ≤ 8 ∧ ∀ i, i < (aO A).1 → ((aO A).2 i).1 < bN (aB A) ∧ ((aO A).2 i).2 < 2)
/-! the reference's picture of it -/
def TO (f : Nat → Int32) (b : Bo) : Prop := f 0 = nI (bN b) ∧ f 1 = nI (bM b) ∧ f 2 = nI (bC b) ∧ (∀ w, w < bN b → f (3 + w) = nI (bK b w) ∧ f (13 + w) = nI (bW b w) ∧ f (23 + w) = nI (bE b w)) ∧ ∀ i, i < 2 → f (33 + i) = nI (bY b i)
def SM (f : Nat → Int32) (o : Nat) (s : St) : Prop := (∀ i, i < sN s → f (o + i) = nI (sW s i)) ∧ f (o + 12) = nI (sN s) ∧ f (o + 13) = nI (sC s) ∧ f (o + 14) = sT s ∧ (∀ i, i < 2 → f (o + 15 + i) = sD s i ∧ f (o + 17 + i) = sG s i ∧ f (o + 19 + i) = nI (sY s i)) ∧ f (o + 21) = sP s
theorem SM.congr {f g : Nat → Int32} {o p : Nat} {s : St} (h : SM f o s) (hn : sN s ≤ 12) (e : ∀ k, k < 22 → g (p + k) = f (o + k)) : SM g p s := by
  obtain ⟨h1, h2, h3, h4, h5, h6⟩ := h
  refine ⟨fun i hi => ?_, ?_, ?_, ?_, fun i hi => ⟨?_, ?_, ?_⟩, ?_⟩
  · rw [e i (by omega), h1 i hi]
  · rw [e 12 (by omega), h2]
  · rw [e 13 (by omega), h3]
  · rw [e 14 (by omega), h4]
  · have := e (15 + i) (by omega)
    rw [← Nat.add_assoc, ← Nat.add_assoc] at this
    rw [this, (h5 i hi).1]
  · have := e (17 + i) (by omega)
    rw [← Nat.add_assoc, ← Nat.add_assoc] at this
    rw [this, (h5 i hi).2.1]
  · have := e (19 + i) (by omega)
    rw [← Nat.add_assoc, ← Nat.add_assoc] at this
    rw [this, (h5 i hi).2.2]
  · rw [e 21 (by omega), h6]
def RelM (m : Nat → Nat → Int32) (A : Ab) : Prop :=
  (m 114 1 = nI (aX A).1 ∧ ∀ i, i < (aX A).1 → m 115 i = (aX A).2 i) ∧ TO (m 116) (aB A) ∧ SM (m 118) 0 (aS A) ∧
  (m 114 6 = nI (aU A).1 ∧ ∀ i, i < (aU A).1 → SM (m 119) (22 * i) ((aU A).2 i)) ∧
  (m 114 8 = nI (aK A).1 ∧ ∀ i, i < (aK A).1 → SM (m 120) (22 * i) ((aK A).2 i)) ∧
  (m 114 10 = nI (aO A).1 ∧ ∀ i, i < (aO A).1 → m 121 i = nI (2 * ((aO A).2 i).1 + ((aO A).2 i).2))
/-- a call of the reference: what it answers, what comes of the state -/
def MOk (res : Option (Int32 × mx_Hp)) (m : Nat → Nat → Int32) (r : Nat → Nat → Option Nat) (v : Int32) (A : Ab) : Prop := ∃ m', res = some (v, (130, m', r)) ∧ RelM m' A ∧ ∀ a, a < 114 → m' a = m a
theorem mb_in (x lo hi : Int32) (h : mx_Hp) : f_X12_in x lo hi h = some (if x < lo ∨ hi < x then 0 else 1) := by
  unfold f_X12_in
  by_cases h1 : x < lo
  · simp [h1]
  · by_cases h2 : hi < x
    · simp [h1, h2]
    · simp [h1, h2]
theorem mb_has {a w : Nat} (ha : a < 2 ^ 31) (hw : w < 31) (h : mx_Hp) : f_X12_has (nI a) (nI w) h = some (if a.testBit w = true then 1 else 0) := by
  unfold f_X12_has
  have e : ((nI a >>> (nI w &&& 31)) &&& 1 = 1) ↔ a.testBit w = true := nb_has ha hw
  by_cases hb : a.testBit w = true
  · rw [if_neg (fun z => z (e.mpr hb)), if_pos hb]
    simp
  · rw [if_pos (fun z => hb (e.mp z)), if_neg hb]
    simp
/-! what the calls ask of it -/
def isW (b : Bo) (x : Int32) : Prop := 0 ≤ x ∧ x.toNatClampNeg < bN b
theorem isW_or (b : Bo) (hb : WFb b) (x : Int32) : (∃ w, w < bN b ∧ x = nI w) ∨ (x < 0 ∨ nI (bN b) ≤ x) := by
  rcases nb_three x (bN b) (by have := hb.1; omega) with h | h | ⟨j, hj, rfl⟩
  · exact Or.inr (Or.inl h)
  · exact Or.inr (Or.inr h)
  · exact Or.inl ⟨j, hj, rfl⟩
/-- one standing put upon those that can be undone -/
def putU (U : Nat × (Nat → St)) (s : St) : Nat × (Nat → St) := if U.1 = 8 then (8, fun i => if i = 7 then s else U.2 (i + 1)) else (U.1 + 1, fun i => if i = U.1 then s else U.2 i)
def lastW (s : St) : Nat := sW s (sN s - 1)
def fitsW (b : Bo) (s : St) (w : Nat) : Bool := decide (sN s = 0) || (bE b (lastW s)).testBit w
def saidS (s : St) (w : Nat) : St := (sN s + 1, fun i => if i = sN s then w else sW s i, sD s, sG s, sY s, sC s, sT s + 1, sP s)
def sumW (b : Bo) (f : Nat → Nat) : Nat → Nat
  | 0 => 0
  | k + 1 => sumW b f k + bW b (f k)
/-- a decree of mayor i, of that worth -/
def decS (s : St) (i v : Nat) : St := (0, sW s, fun j => if j = i then sD s j + 1 else sD s j, fun j => if j = i then sG s j + nI v else sG s j, sY s, sC s, sT s, sP s)
def mayEnd (b : Bo) (s : St) : Bool := decide (0 < sN s) && decide (bK b (lastW s) = 2)
def dropS (s : St) : St := (0, sW s, sD s, sG s, sY s, sC s, sT s + 1, sP s)
def learnS (s : St) (i w : Nat) : St := (sN s, sW s, sD s, sG s, fun j => if j = i then sY s j ^^^ 2 ^ w else sY s j, sC s, sT s, sP s)
def aAll (b : Bo) : Nat := 2 ^ bN b - 1
def stopsB (b : Bo) : Nat := mk (fun w => decide (bK b w = 2)) (bN b)
/-- the words behind which one of these may come -/
def ahead (b : Bo) (S : Nat) : Nat := mk (fun w => decide (bE b w &&& S ≠ 0)) (bN b)
/-- the words behind which k words of those known come to a stop -/
def Lv (b : Bo) (kn : Nat) : Nat → Nat
  | 0 => stopsB b
  | k + 1 => ahead b (kn &&& Lv b kn k)
/-- with how many words a sentence whose last one is w is finished, or 0 -/
def fmany (b : Bo) (kn w : Nat) : Nat := if bK b w = 1 then 0 else
  if (Lv b kn 1).testBit w then 1 else if 2 ≤ bM b ∧ (Lv b kn 2).testBit w then 2 else if 3 ≤ bM b ∧ (Lv b kn 3).testBit w then 3 else if 4 ≤ bM b ∧ (Lv b kn 4).testBit w then 4 else 0
/-- the next word, when j words more are to come behind it -/
def fnext (b : Bo) (kn j w : Nat) : Nat := fst (fun x => (bE b w &&& (kn &&& Lv b kn j)).testBit x) (bN b)
/-- the word at place i of a finishing of k words behind w -/
def fword (b : Bo) (kn k w : Nat) : Nat → Nat
  | 0 => fnext b kn (k - 1) w
  | i + 1 => fnext b kn (k - 1 - (i + 1)) (fword b kn k w i)
/-- the words that may be said by the other in a sentence that begins with w -/
def knF (b : Bo) (s : St) (w : Nat) : Nat := if bK b w = 3 then aAll b else sY s (1 - sC s)
def finNow (b : Bo) (s : St) : Nat := if sN s = 0 then 0 else fmany b (knF b s (sW s 0)) (lastW s)
def finW (b : Bo) (s : St) (i : Nat) : Nat := fword b (knF b s (sW s 0)) (finNow b s) (lastW s) i
def passW (b : Bo) (s : St) : Nat := sumW b (sW s) (sN s) + sumW b (finW b s) (finNow b s)
def passS (b : Bo) (s : St) : St := decS (sN s, sW s, sD s, sG s, sY s, 1 - sC s, sT s + nI (finNow b s), sP s + 1) (1 - sC s) (passW b s)
/-- the words whose sentence the other finishes, when it began with w -/
def lostF (b : Bo) (kn : Nat) : Nat := mk (fun w => decide (0 < fmany b kn w)) (bN b)
