/-! the lowest bit -/
theorem odd_part : ∀ n a, 0 < a → a < 2 ^ n → ∃ k q, k < n ∧ a = 2 ^ k * (2 * q + 1) := by
  intro n
  induction n with
  | zero => intro a h1 h2; exact absurd h2 (by simp; omega)
  | succ n ih =>
    intro a h1 h2
    rcases Nat.mod_two_eq_zero_or_one a with h | h
    · obtain ⟨k, q, hk, e⟩ := ih (a / 2) (by omega) (by rw [Nat.pow_succ] at h2; omega)
      exact ⟨k + 1, q, by omega, by rw [Nat.pow_succ, Nat.mul_comm (2 ^ k) 2, Nat.mul_assoc, ← e]; omega⟩
    · exact ⟨0, a / 2, by omega, by rw [Nat.pow_zero]; omega⟩
/-- the lowest bit as the program finds it -/
def lowb (a : Nat) : Nat := a &&& (2 ^ 64 - a)
theorem lowb_eq {k q : Nat} (h : 2 ^ k * (2 * q + 1) < 2 ^ 64) : lowb (2 ^ k * (2 * q + 1)) = 2 ^ k := by
  have hp : 0 < 2 ^ k := Nat.pow_pos (by decide)
  have hpos : 0 < 2 ^ k * (2 * q + 1) := Nat.mul_pos hp (by omega)
  have e1 : 2 ^ k * (2 * q + 1) - 1 = 2 ^ k * (2 * q) + (2 ^ k - 1) := by
    rw [Nat.mul_add, Nat.mul_one]; omega
  unfold lowb
  apply Nat.eq_of_testBit_eq
  intro i
  have e2 : 2 ^ 64 - 2 ^ k * (2 * q + 1) = 2 ^ 64 - ((2 ^ k * (2 * q + 1) - 1) + 1) := by
    rw [Nat.sub_add_cancel hpos]
  rw [Nat.testBit_and, e2, Nat.testBit_two_pow_sub_succ (by omega), e1, Nat.testBit_two_pow]
  have f1 := Nat.testBit_two_pow_mul_add (2 * q) (i := k) (b := 2 ^ k - 1) (by omega) i
  have f2 := Nat.testBit_two_pow_mul_add (2 * q + 1) (i := k) (b := 0) hp i
  rw [Nat.add_zero] at f2
  rw [f1, f2]
  rcases Nat.lt_trichotomy i k with h1 | h1 | h1
  · rw [if_pos h1]
    simp [show ¬ k = i by omega]
  · subst h1
    have hk : i < 64 := Decidable.byContradiction fun hc => by
      have : 2 ^ 64 ≤ 2 ^ i := Nat.pow_le_pow_right (by decide) (by omega)
      have : 2 ^ i * 1 ≤ 2 ^ i * (2 * q + 1) := Nat.mul_le_mul_left _ (by omega)
      omega
    rw [if_neg (by omega), if_neg (by omega), Nat.sub_self]
    simp [hk]
  · rw [if_neg (by omega), if_neg (by omega)]
    have hj : ∃ j, i - k = j + 1 := ⟨i - k - 1, by omega⟩
    obtain ⟨j, hj⟩ := hj
    rw [hj]
    have g1 : (2 * q + 1).testBit (j + 1) = q.testBit j := by
      rw [Nat.testBit_succ]; congr 1; omega
    have g2 : (2 * q).testBit (j + 1) = q.testBit j := by
      rw [Nat.testBit_succ]; congr 1; omega
    rw [g1, g2]
    simp [show ¬ k = i by omega]
    intro z _
    exact z
theorem pop_two_mul (j q : Nat) : pop (j + 1) (2 * q) = pop j q := by
  rw [pop, Nat.mul_mod_right, Nat.mul_div_cancel_left _ (by decide), Nat.zero_add]
theorem pop_two_mul1 (j q : Nat) : pop (j + 1) (2 * q + 1) = pop j q + 1 := by
  rw [pop, show (2 * q + 1) % 2 = 1 by omega, show (2 * q + 1) / 2 = q by omega, Nat.add_comm]
theorem pop_zero : ∀ j, pop j 0 = 0 := by
  intro j
  induction j with
  | zero => rfl
  | succ j ih => rw [pop, Nat.zero_mod, Nat.zero_div, ih]
theorem pop_shift {k j x : Nat} : pop (k + j) (2 ^ k * x) = pop j x := by
  rw [pop_add, Nat.mul_div_cancel_left _ (Nat.pow_pos (by decide)), ← pop_mod k, Nat.mul_mod_right, pop_zero, Nat.zero_add]
theorem pop_ones : ∀ k, pop k (2 ^ k - 1) = k := by
  intro k
  induction k with
  | zero => rfl
  | succ k ih =>
    have hp : 0 < 2 ^ k := Nat.pow_pos (by decide)
    rw [pop, Nat.pow_succ, show (2 ^ k * 2 - 1) % 2 = 1 by omega, show (2 ^ k * 2 - 1) / 2 = 2 ^ k - 1 by omega, ih, Nat.add_comm]
theorem pop_low {k : Nat} (hk : k < 64) : pop 64 (2 ^ k - 1) = k := by
  have hp : 0 < 2 ^ k := Nat.pow_pos (by decide)
  rw [show 64 = k + (64 - k) by omega, pop_add, pop_ones, Nat.div_eq_of_lt (by omega), pop_zero, Nat.add_zero]
/-- the lowest bit k of a: its number, and what is left without it -/
theorem low_all {a : Nat} (h0 : 0 < a) (h : a < 2 ^ 36) : ∃ k q, k < 36 ∧ a = 2 ^ k * (2 * q + 1) ∧ lowb a = 2 ^ k ∧ pop 64 (lowb a - 1) = k ∧ a ^^^ lowb a = 2 ^ k * (2 * q) ∧ a ^^^ lowb a < 2 ^ 36 ∧ pop 64 (a ^^^ lowb a) + 1 = pop 64 a := by
  obtain ⟨k, q, hk, e⟩ := odd_part 36 a h0 h
  have hp : 0 < 2 ^ k := Nat.pow_pos (by decide)
  have hl : lowb a = 2 ^ k := by rw [e]; exact lowb_eq (by rw [← e]; omega)
  have hx : a ^^^ lowb a = 2 ^ k * (2 * q) := by
    rw [hl, e]
    apply Nat.eq_of_testBit_eq
    intro i
    have f1 := Nat.testBit_two_pow_mul_add (2 * q) (i := k) (b := 0) hp i
    have f2 := Nat.testBit_two_pow_mul_add (2 * q + 1) (i := k) (b := 0) hp i
    rw [Nat.add_zero] at f1 f2
    rw [Nat.testBit_xor, f1, f2, Nat.testBit_two_pow]
    rcases Nat.lt_trichotomy i k with h1 | h1 | h1
    · rw [if_pos h1, if_pos h1]
      simp [show ¬ k = i by omega]
    · subst h1
      rw [if_neg (by omega), if_neg (by omega), Nat.sub_self]
      simp
    · rw [if_neg (by omega), if_neg (by omega)]
      obtain ⟨j, hj⟩ : ∃ j, i - k = j + 1 := ⟨i - k - 1, by omega⟩
      rw [hj, Nat.testBit_succ, Nat.testBit_succ, show (2 * q + 1) / 2 = q by omega, show 2 * q / 2 = q by omega]
      simp [show ¬ k = i by omega]
  refine ⟨k, q, hk, e, hl, by rw [hl]; exact pop_low (by omega), hx, ?_, ?_⟩
  · rw [hx]
    have : 2 ^ k * (2 * q) ≤ 2 ^ k * (2 * q + 1) := Nat.mul_le_mul_left _ (by omega)
    omega
  · rw [hx, e, show 64 = k + ((63 - k) + 1) by omega, pop_shift, pop_shift, pop_two_mul, pop_two_mul1]
