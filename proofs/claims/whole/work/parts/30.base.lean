/-! numbers and bits as naturals -/
theorem nb_lit (n : Nat) : (OfNat.ofNat n : Int32) = nI n := by cases n <;> rfl
theorem nb_and (a b : Nat) : nI a &&& nI b = nI (a &&& b) := by
  apply Int32.toBitVec_inj.1
  show BitVec.ofNat 32 a &&& BitVec.ofNat 32 b = BitVec.ofNat 32 (a &&& b)
  apply BitVec.eq_of_getLsbD_eq
  intro i hi
  simp [hi]
theorem nb_or (a b : Nat) : nI a ||| nI b = nI (a ||| b) := by
  apply Int32.toBitVec_inj.1
  show BitVec.ofNat 32 a ||| BitVec.ofNat 32 b = BitVec.ofNat 32 (a ||| b)
  apply BitVec.eq_of_getLsbD_eq
  intro i hi
  simp [hi]
theorem nb_xor (a b : Nat) : nI a ^^^ nI b = nI (a ^^^ b) := by
  apply Int32.toBitVec_inj.1
  show BitVec.ofNat 32 a ^^^ BitVec.ofNat 32 b = BitVec.ofNat 32 (a ^^^ b)
  apply BitVec.eq_of_getLsbD_eq
  intro i hi
  simp [hi]
/-- the words of a that are not of b -/
def nb_dif (a b : Nat) : Nat := a &&& (1023 ^^^ b)
theorem nb_1023 (i : Nat) : (1023 : Nat).testBit i = decide (i < 10) := by
  rw [show (1023 : Nat) = 2 ^ 10 - 1 by rfl, Nat.testBit_two_pow_sub_one]
theorem nb_lt_bit {a i : Nat} (ha : a < 1024) (hi : 10 ≤ i) : a.testBit i = false := by
  apply Nat.testBit_lt_two_pow
  exact Nat.lt_of_lt_of_le ha (show 2 ^ 10 ≤ 2 ^ i from Nat.pow_le_pow_right (by decide) hi)
theorem nb_dif_bit {a b i : Nat} (ha : a < 1024) : (nb_dif a b).testBit i = (a.testBit i && !b.testBit i) := by
  unfold nb_dif
  rw [Nat.testBit_and, Nat.testBit_xor, nb_1023]
  by_cases h : i < 10
  · simp [h]
  · rw [nb_lt_bit ha (by omega)]
    simp
theorem nb_dif_lt {a b : Nat} (ha : a < 1024) : nb_dif a b < 1024 := Nat.lt_of_le_of_lt Nat.and_le_left ha
theorem nb_andn {a b : Nat} (ha : a < 1024) : nI a &&& (nI b ^^^ (-1)) = nI (nb_dif a b) := by
  apply Int32.toBitVec_inj.1
  show BitVec.ofNat 32 a &&& (BitVec.ofNat 32 b ^^^ BitVec.ofInt 32 (-1)) = BitVec.ofNat 32 (nb_dif a b)
  apply BitVec.eq_of_getLsbD_eq
  intro i hi
  have h1 : (BitVec.ofInt 32 (-1)).getLsbD i = true := by
    have : (BitVec.ofInt 32 (-1)) = BitVec.allOnes 32 := by decide
    rw [this, BitVec.getLsbD_allOnes]
    simpa using hi
  simp only [BitVec.getLsbD_and, BitVec.getLsbD_xor, h1, BitVec.getLsbD_ofNat, nb_dif_bit ha]
  simp [hi]
theorem nb_31 {w : Nat} (hw : w < 32) : nI w &&& nI 31 = nI w := by
  rw [nb_and, show (31 : Nat) = 2 ^ 5 - 1 by rfl, Nat.and_two_pow_sub_one_eq_mod, Nat.mod_eq_of_lt (by omega)]
theorem nb_sm : ∀ w, w < 32 → ((nI w).toBitVec.smod 32).toNat = w := by decide
theorem nb_shl {w : Nat} (hw : w < 31) : nI 1 <<< (nI w &&& nI 31) = nI (2 ^ w) := by
  rw [nb_31 (by omega), pk_shlN (nI w) w (nb_sm w (by omega)), Nat.one_mul]
  rw [Nat.one_mul]
  exact Nat.pow_lt_pow_right (by decide) (by omega)
theorem nb_has {a w : Nat} (ha : a < 2 ^ 31) (hw : w < 31) : ((nI a >>> (nI w &&& nI 31)) &&& nI 1 = nI 1) ↔ a.testBit w = true := by
  rw [nb_31 (by omega), pk_shrN ha (nI w) w (nb_sm w (by omega)), nb_and, nI_eq (Nat.lt_of_le_of_lt Nat.and_le_right (by decide)) (by decide), Nat.and_one_is_mod, Nat.testBit_eq_decide_div_mod_eq]
  simp
theorem nb_lt {a b : Nat} (ha : a < 2 ^ 31) (hb : b < 2 ^ 31) : nI a < nI b ↔ a < b := nI_ltI ha hb
theorem nb_le {a b : Nat} (ha : a < 2 ^ 31) (hb : b < 2 ^ 31) : nI a ≤ nI b ↔ a ≤ b := nI_leI ha hb
theorem nb_eq {a b : Nat} (ha : a < 2 ^ 31) (hb : b < 2 ^ 31) : nI a = nI b ↔ a = b := nI_eq ha hb
theorem nb_sub {a b : Nat} (h : b ≤ a) : nI a - nI b = nI (a - b) := pk_sub h
theorem nb_cl {j : Nat} (h : j < 2 ^ 31) : (nI j).toNatClampNeg = j := nI_clamp h
theorem nb_pos {j : Nat} (h : j < 2 ^ 31) : 0 ≤ nI j := nI_pos' h
theorem nb_bit_ext {a b : Nat} (ha : a < 1024) (hb : b < 1024) (h : ∀ i, i < 10 → a.testBit i = b.testBit i) : a = b := by
  apply Nat.eq_of_testBit_eq
  intro i
  by_cases hi : i < 10
  · exact h i hi
  · rw [nb_lt_bit ha (by omega), nb_lt_bit hb (by omega)]
/-- an int is negative, small, or not small -/
theorem nb_three (x : Int32) (n : Nat) (hn : n < 2 ^ 31) : x < 0 ∨ nI n ≤ x ∨ ∃ j, j < n ∧ x = nI j := pk_ix x hn
/-! reads and writes of the light heap at known cells -/
theorem hb_len : ∀ a, (mx_lay a).2 ≤ 1024 := by
  intro a
  by_cases h : a < 130
  · have key : ∀ a, a < 130 → (mx_lay a).2 ≤ 1024 := by decide +kernel
    exact key a h
  · unfold mx_lay
    rw [List.getD_eq_getElem?_getD, List.getElem?_eq_none (by
      have : mx_layL.length = 130 := by decide +kernel
      omega)]
    decide
section Hb
variable {n : Nat} {m : Nat → Nat → Int32} {r : Nat → Nat → Option Nat} {a c k j : Nat}
theorem hb_al (ha : a < n) (hk : (mx_lay a).1 = 0) (hj : j < (mx_lay a).2) : mx_al (n, m, r) a (nI j) = some (m a j) := by
  have h1 := hb_len a
  unfold mx_al
  rw [if_pos ⟨ha, hk, nb_pos (by omega), by rw [nb_cl (by omega)]; exact hj⟩, nb_cl (by omega)]
theorem hb_as (ha : a < n) (hk : (mx_lay a).1 = 0) (hj : j < (mx_lay a).2) (v : Int32) : mx_as (n, m, r) a (nI j) v = some (n, mx_up m a j v, r) := by
  have h1 := hb_len a
  unfold mx_as
  rw [if_pos ⟨ha, hk, nb_pos (by omega), by rw [nb_cl (by omega)]; exact hj⟩, nb_cl (by omega)]
theorem hb_gi (ha : a < n) (hk : (mx_lay a).1 = c + 3) (hf : mx_fk c k = 0 ∨ mx_fk c k = 2) : mx_gi (n, m, r) a c k = some (m a k) := by
  unfold mx_gi
  rw [if_pos ⟨ha, hk, hf⟩]
theorem hb_pi (ha : a < n) (hk : (mx_lay a).1 = c + 3) (hf : mx_fk c k = 0) (v : Int32) : mx_pi (n, m, r) a c k v = some (n, mx_up m a k v, r) := by
  unfold mx_pi
  rw [if_pos ⟨ha, hk, Or.inl hf⟩]
theorem hb_gr {v : Nat} (ha : a < n) (hk : (mx_lay a).1 = c + 3) (hf : mx_fk c k = 1) (hr : r a k = some v) : mx_gr (n, m, r) a c k = some v := by
  unfold mx_gr
  rw [if_pos ⟨ha, hk, hf⟩]
  exact hr
end Hb
theorem hb_up_same {α : Type} {m : Nat → Nat → α} {a j : Nat} {v : α} : mx_up m a j v a j = v := by simp [mx_up]
theorem hb_up_ne {α : Type} {m : Nat → Nat → α} {a j b i : Nat} {v : α} (h : b ≠ a ∨ i ≠ j) : mx_up m a j v b i = m b i := by
  unfold mx_up
  rw [if_neg (by omega)]
/-! the reference's own cells -/
def MR (r : Nat → Nat → Option Nat) : Prop := r 114 0 = some 115 ∧ r 114 2 = some 116 ∧ r 114 3 = some 117 ∧ r 114 4 = some 118 ∧ r 114 5 = some 119 ∧ r 114 7 = some 120 ∧ r 114 9 = some 121 ∧ r 114 12 = some 122 ∧ r 114 13 = some 123 ∧ r 114 14 = some 124 ∧ r 114 15 = some 125 ∧ r 114 16 = some 126 ∧ r 114 17 = some 127 ∧ r 114 18 = some 128 ∧ r 114 19 = some 129
section Mc
variable {m : Nat → Nat → Int32} {r : Nat → Nat → Option Nat} {j : Nat}
theorem gr_text (H : MR r) : mx_gr (130, m, r) 114 12 0 = some 115 := hb_gr (by decide) (by decide) (by decide) H.1
theorem al_text (hj : j < 200) : mx_al (130, m, r) 115 (nI j) = some (m 115 j) := hb_al (by decide) (by decide) hj
theorem as_text (hj : j < 200) (v : Int32) : mx_as (130, m, r) 115 (nI j) v = some (130, mx_up m 115 j v, r) := hb_as (by decide) (by decide) hj v
theorem gr_told (H : MR r) : mx_gr (130, m, r) 114 12 2 = some 116 := hb_gr (by decide) (by decide) (by decide) H.2.1
theorem al_told (hj : j < 35) : mx_al (130, m, r) 116 (nI j) = some (m 116 j) := hb_al (by decide) (by decide) hj
theorem as_told (hj : j < 35) (v : Int32) : mx_as (130, m, r) 116 (nI j) v = some (130, mx_up m 116 j v, r) := hb_as (by decide) (by decide) hj v
theorem gr_draft (H : MR r) : mx_gr (130, m, r) 114 12 3 = some 117 := hb_gr (by decide) (by decide) (by decide) H.2.2.1
theorem al_draft (hj : j < 35) : mx_al (130, m, r) 117 (nI j) = some (m 117 j) := hb_al (by decide) (by decide) hj
theorem as_draft (hj : j < 35) (v : Int32) : mx_as (130, m, r) 117 (nI j) v = some (130, mx_up m 117 j v, r) := hb_as (by decide) (by decide) hj v
theorem gr_s (H : MR r) : mx_gr (130, m, r) 114 12 4 = some 118 := hb_gr (by decide) (by decide) (by decide) H.2.2.2.1
theorem al_s (hj : j < 22) : mx_al (130, m, r) 118 (nI j) = some (m 118 j) := hb_al (by decide) (by decide) hj
theorem as_s (hj : j < 22) (v : Int32) : mx_as (130, m, r) 118 (nI j) v = some (130, mx_up m 118 j v, r) := hb_as (by decide) (by decide) hj v
theorem gr_past (H : MR r) : mx_gr (130, m, r) 114 12 5 = some 119 := hb_gr (by decide) (by decide) (by decide) H.2.2.2.2.1
theorem al_past (hj : j < 176) : mx_al (130, m, r) 119 (nI j) = some (m 119 j) := hb_al (by decide) (by decide) hj
theorem as_past (hj : j < 176) (v : Int32) : mx_as (130, m, r) 119 (nI j) v = some (130, mx_up m 119 j v, r) := hb_as (by decide) (by decide) hj v
theorem gr_images (H : MR r) : mx_gr (130, m, r) 114 12 7 = some 120 := hb_gr (by decide) (by decide) (by decide) H.2.2.2.2.2.1
theorem al_images (hj : j < 44) : mx_al (130, m, r) 120 (nI j) = some (m 120 j) := hb_al (by decide) (by decide) hj
theorem as_images (hj : j < 44) (v : Int32) : mx_as (130, m, r) 120 (nI j) v = some (130, mx_up m 120 j v, r) := hb_as (by decide) (by decide) hj v
theorem gr_notes (H : MR r) : mx_gr (130, m, r) 114 12 9 = some 121 := hb_gr (by decide) (by decide) (by decide) H.2.2.2.2.2.2.1
theorem al_notes (hj : j < 8) : mx_al (130, m, r) 121 (nI j) = some (m 121 j) := hb_al (by decide) (by decide) hj
theorem as_notes (hj : j < 8) (v : Int32) : mx_as (130, m, r) 121 (nI j) v = some (130, mx_up m 121 j v, r) := hb_as (by decide) (by decide) hj v
theorem gr_levels (H : MR r) : mx_gr (130, m, r) 114 12 12 = some 122 := hb_gr (by decide) (by decide) (by decide) H.2.2.2.2.2.2.2.1
theorem al_levels (hj : j < 5) : mx_al (130, m, r) 122 (nI j) = some (m 122 j) := hb_al (by decide) (by decide) hj
theorem as_levels (hj : j < 5) (v : Int32) : mx_as (130, m, r) 122 (nI j) v = some (130, mx_up m 122 j v, r) := hb_as (by decide) (by decide) hj v
theorem gr_row (H : MR r) : mx_gr (130, m, r) 114 12 13 = some 123 := hb_gr (by decide) (by decide) (by decide) H.2.2.2.2.2.2.2.2.1
theorem al_row (hj : j < 10) : mx_al (130, m, r) 123 (nI j) = some (m 123 j) := hb_al (by decide) (by decide) hj
theorem as_row (hj : j < 10) (v : Int32) : mx_as (130, m, r) 123 (nI j) v = some (130, mx_up m 123 j v, r) := hb_as (by decide) (by decide) hj v
theorem gr_reach (H : MR r) : mx_gr (130, m, r) 114 12 14 = some 124 := hb_gr (by decide) (by decide) (by decide) H.2.2.2.2.2.2.2.2.2.1
theorem al_reach (hj : j < 20) : mx_al (130, m, r) 124 (nI j) = some (m 124 j) := hb_al (by decide) (by decide) hj
theorem as_reach (hj : j < 20) (v : Int32) : mx_as (130, m, r) 124 (nI j) v = some (130, mx_up m 124 j v, r) := hb_as (by decide) (by decide) hj v
theorem gr_gains (H : MR r) : mx_gr (130, m, r) 114 12 15 = some 125 := hb_gr (by decide) (by decide) (by decide) H.2.2.2.2.2.2.2.2.2.2.1
theorem al_gains (hj : j < 100) : mx_al (130, m, r) 125 (nI j) = some (m 125 j) := hb_al (by decide) (by decide) hj
theorem as_gains (hj : j < 100) (v : Int32) : mx_as (130, m, r) 125 (nI j) v = some (130, mx_up m 125 j v, r) := hb_as (by decide) (by decide) hj v
theorem gr_line (H : MR r) : mx_gr (130, m, r) 114 12 16 = some 126 := hb_gr (by decide) (by decide) (by decide) H.2.2.2.2.2.2.2.2.2.2.2.1
theorem al_line (hj : j < 10) : mx_al (130, m, r) 126 (nI j) = some (m 126 j) := hb_al (by decide) (by decide) hj
theorem as_line (hj : j < 10) (v : Int32) : mx_as (130, m, r) 126 (nI j) v = some (130, mx_up m 126 j v, r) := hb_as (by decide) (by decide) hj v
theorem gr_rows (H : MR r) : mx_gr (130, m, r) 114 12 17 = some 127 := hb_gr (by decide) (by decide) (by decide) H.2.2.2.2.2.2.2.2.2.2.2.2.1
theorem al_rows (hj : j < 10) : mx_al (130, m, r) 127 (nI j) = some (m 127 j) := hb_al (by decide) (by decide) hj
theorem as_rows (hj : j < 10) (v : Int32) : mx_as (130, m, r) 127 (nI j) v = some (130, mx_up m 127 j v, r) := hb_as (by decide) (by decide) hj v
theorem gr_next (H : MR r) : mx_gr (130, m, r) 114 12 18 = some 128 := hb_gr (by decide) (by decide) (by decide) H.2.2.2.2.2.2.2.2.2.2.2.2.2.1
theorem al_next (hj : j < 10) : mx_al (130, m, r) 128 (nI j) = some (m 128 j) := hb_al (by decide) (by decide) hj
theorem as_next (hj : j < 10) (v : Int32) : mx_as (130, m, r) 128 (nI j) v = some (130, mx_up m 128 j v, r) := hb_as (by decide) (by decide) hj v
theorem gr_held (H : MR r) : mx_gr (130, m, r) 114 12 19 = some 129 := hb_gr (by decide) (by decide) (by decide) H.2.2.2.2.2.2.2.2.2.2.2.2.2.2
theorem al_held (hj : j < 22) : mx_al (130, m, r) 129 (nI j) = some (m 129 j) := hb_al (by decide) (by decide) hj
theorem as_held (hj : j < 22) (v : Int32) : mx_as (130, m, r) 129 (nI j) v = some (130, mx_up m 129 j v, r) := hb_as (by decide) (by decide) hj v
theorem gi_typed : mx_gi (130, m, r) 114 12 1 = some (m 114 1) := hb_gi (by decide) (by decide) (by decide)
theorem pi_typed (v : Int32) : mx_pi (130, m, r) 114 12 1 v = some (130, mx_up m 114 1 v, r) := hb_pi (by decide) (by decide) (by decide) v
theorem gi_known : mx_gi (130, m, r) 114 12 6 = some (m 114 6) := hb_gi (by decide) (by decide) (by decide)
theorem pi_known (v : Int32) : mx_pi (130, m, r) 114 12 6 v = some (130, mx_up m 114 6 v, r) := hb_pi (by decide) (by decide) (by decide) v
theorem gi_kept : mx_gi (130, m, r) 114 12 8 = some (m 114 8) := hb_gi (by decide) (by decide) (by decide)
theorem pi_kept (v : Int32) : mx_pi (130, m, r) 114 12 8 v = some (130, mx_up m 114 8 v, r) := hb_pi (by decide) (by decide) (by decide) v
theorem gi_noted : mx_gi (130, m, r) 114 12 10 = some (m 114 10) := hb_gi (by decide) (by decide) (by decide)
theorem pi_noted (v : Int32) : mx_pi (130, m, r) 114 12 10 v = some (130, mx_up m 114 10 v, r) := hb_pi (by decide) (by decide) (by decide) v
theorem gi_at : mx_gi (130, m, r) 114 12 11 = some (m 114 11) := hb_gi (by decide) (by decide) (by decide)
theorem pi_at (v : Int32) : mx_pi (130, m, r) 114 12 11 v = some (130, mx_up m 114 11 v, r) := hb_pi (by decide) (by decide) (by decide) v
theorem gd_m : (114 < (130, m, r).1 ∧ (mx_lay 114).1 = 15) = True := by simp; decide
end Mc
