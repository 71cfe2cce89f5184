/-! how many bits: pop n a counts bits 0 to n - 1 of a; bitCount's five and six steps give it -/
def pop : Nat → Nat → Nat
  | 0, _ => 0
  | n + 1, a => a % 2 + pop n (a / 2)
theorem pop_add (k : Nat) : ∀ j a, pop (j + k) a = pop j a + pop k (a / 2 ^ j) := by
  intro j
  induction j with
  | zero => intro a; simp [pop]
  | succ j ih =>
    intro a
    rw [show j + 1 + k = (j + k) + 1 by omega, pop, ih, pop, Nat.div_div_eq_div_mul, ← Nat.pow_succ', Nat.add_assoc]
theorem pop_mod : ∀ j a, pop j (a % 2 ^ j) = pop j a := by
  intro j
  induction j with
  | zero => intro a; rfl
  | succ j ih =>
    intro a
    rw [pop, pop, Nat.pow_succ', Nat.mod_mul_right_div_self, ih, Nat.mod_mul_right_mod]
theorem pop_le : ∀ n a, pop n a ≤ n := by
  intro n
  induction n with
  | zero => intro a; exact Nat.le_refl 0
  | succ n ih => intro a; rw [pop]; have := ih (a / 2); omega
def rep (m : Nat) : Nat → Nat
  | 0 => 0
  | k + 1 => 256 * rep m k + m
theorem and256 (u v s t : Nat) (hv : v < 256) (ht : t < 256) : (256 * u + v) &&& (256 * s + t) = 256 * (u &&& s) + (v &&& t) := by
  apply Nat.eq_of_testBit_eq
  intro i
  have h1 := Nat.testBit_two_pow_mul_add u (i := 8) (b := v) hv i
  have h2 := Nat.testBit_two_pow_mul_add s (i := 8) (b := t) ht i
  have h3 := Nat.testBit_two_pow_mul_add (u &&& s) (i := 8) (b := v &&& t) (Nat.and_lt_two_pow v ht) i
  simp only [show (2 : Nat) ^ 8 = 256 from rfl] at h1 h2 h3
  rw [Nat.testBit_and, h1, h2, h3]
  split <;> simp [Nat.testBit_and]
def s1 (k a : Nat) : Nat := a - (a / 2 &&& rep 0x55 k)
def s2 (k a : Nat) : Nat := (a &&& rep 0x33 k) + (a / 4 &&& rep 0x33 k)
def s3 (k a : Nat) : Nat := (a + a / 16) &&& rep 0x0f k
theorem s_d1 : ∀ e, e < 2 → ∀ b, b < 256 → (128 * e + b / 2) &&& 0x55 = b / 2 &&& 0x55 := by decide +kernel
theorem s_d2 : ∀ e, e < 4 → ∀ b, b < 256 → (64 * e + b / 4) &&& 0x33 = b / 4 &&& 0x33 := by decide +kernel
theorem s_d3 : ∀ e, e < 5 → ∀ b, b < 256 → b % 16 ≤ 4 → b / 16 ≤ 4 → (b + (16 * e + b / 16)) % 256 &&& 0x0f = (b + b / 16) &&& 0x0f ∧ b + (16 * e + b / 16) < 256 := by decide +kernel
theorem s1_split (k q b : Nat) (hb : b < 256) : s1 (k + 1) (256 * q + b) = 256 * s1 k q + s1 1 b ∧ s1 1 b < 256 := by
  have e1 : (256 * q + b) / 2 = 256 * (q / 2) + (128 * (q % 2) + b / 2) := by omega
  have e2 := s_d1 (q % 2) (by omega) b hb
  have l1 : q / 2 &&& rep 0x55 k ≤ q := Nat.le_trans Nat.and_le_left (Nat.div_le_self _ _)
  have l2 : b / 2 &&& 0x55 ≤ b := Nat.le_trans Nat.and_le_left (Nat.div_le_self _ _)
  have r1 : rep 0x55 1 = 0x55 := rfl
  unfold s1
  rw [e1, rep, and256 _ _ _ _ (by omega) (by decide), e2, r1]
  omega
theorem s2_split (k q b : Nat) (hb : b < 256) : s2 (k + 1) (256 * q + b) = 256 * s2 k q + s2 1 b ∧ s2 1 b < 256 := by
  have e1 : (256 * q + b) / 4 = 256 * (q / 4) + (64 * (q % 4) + b / 4) := by omega
  have e2 := s_d2 (q % 4) (by omega) b hb
  have l1 : b &&& 0x33 ≤ 0x33 := Nat.and_le_right
  have l2 : b / 4 &&& 0x33 ≤ 0x33 := Nat.and_le_right
  have r1 : rep 0x33 1 = 0x33 := rfl
  unfold s2
  rw [e1, rep, and256 _ _ _ _ hb (by decide), and256 _ _ _ _ (by omega) (by decide), e2, r1]
  omega
theorem s3_split (k q b : Nat) (hb : b < 256) (h1 : b % 16 ≤ 4) (h2 : b / 16 ≤ 4) (hq : q % 16 ≤ 4) : s3 (k + 1) (256 * q + b) = 256 * s3 k q + s3 1 b := by
  have e1 : (256 * q + b) + (256 * q + b) / 16 = 256 * (q + q / 16) + (b + (16 * (q % 16) + b / 16)) := by omega
  obtain ⟨e2, e3⟩ := s_d3 (q % 16) (by omega) b hb h1 h2
  have r1 : rep 0x0f 1 = 0x0f := rfl
  rw [Nat.mod_eq_of_lt e3] at e2
  unfold s3
  rw [e1, rep, and256 _ _ _ _ e3 (by decide), e2, r1]
theorem s_byte : ∀ b, b < 256 → s2 1 (s1 1 b) < 256 ∧ s2 1 (s1 1 b) % 16 ≤ 4 ∧ s2 1 (s1 1 b) / 16 ≤ 4 ∧ s3 1 (s2 1 (s1 1 b)) = pop 8 b ∧ pop 8 b ≤ 8 := by decide +kernel
/-- the numbers of the bytes' bits, side by side -/
def pops : Nat → Nat → Nat
  | 0, _ => 0
  | k + 1, a => 256 * pops k (a / 256) + pop 8 a
theorem s_all : ∀ k a, a < 256 ^ k → s3 k (s2 k (s1 k a)) = pops k a ∧ s2 k (s1 k a) % 16 ≤ 4 := by
  intro k
  induction k with
  | zero => intro a ha; have : a = 0 := by simpa using ha
            subst this; decide
  | succ k ih =>
    intro a ha
    have hq : a / 256 < 256 ^ k := by
      rw [Nat.pow_succ] at ha
      exact Nat.div_lt_of_lt_mul (by rw [Nat.mul_comm]; exact ha)
    obtain ⟨i1, i2⟩ := ih _ hq
    have hb : a % 256 < 256 := Nat.mod_lt _ (by decide)
    obtain ⟨b1, b2, b3, b4, b5⟩ := s_byte _ hb
    have ea : a = 256 * (a / 256) + a % 256 := by omega
    obtain ⟨f1, f1b⟩ := s1_split k (a / 256) (a % 256) hb
    obtain ⟨f2, f2b⟩ := s2_split k (s1 k (a / 256)) (s1 1 (a % 256)) f1b
    have f3 := s3_split k (s2 k (s1 k (a / 256))) (s2 1 (s1 1 (a % 256))) b1 b2 b3 i2
    have e : s2 (k + 1) (s1 (k + 1) a) = 256 * s2 k (s1 k (a / 256)) + s2 1 (s1 1 (a % 256)) := by
      rw [ea, f1, f2, ← ea]
    rw [e]
    refine ⟨?_, by omega⟩
    rw [f3, i1, b4, pops, show pop 8 (a % 256) = pop 8 a from pop_mod 8 a]
theorem pop_bytes : ∀ k a, pop (8 * (k + 1)) a = pop 8 a + pop (8 * k) (a / 256) := by
  intro k a
  rw [show 8 * (k + 1) = 8 + 8 * k by omega, pop_add]
theorem pop8_le (a : Nat) : pop 8 a ≤ 8 := pop_le 8 a
/-- Long.bitCount -/
def p1 (a : Nat) : Nat := a - (a / 2 ^ 1 &&& 6148914691236517205)
def p2 (a : Nat) : Nat := (a &&& 3689348814741910323) + (a / 2 ^ 2 &&& 3689348814741910323)
def p3 (a : Nat) : Nat := (a + a / 2 ^ 4) &&& 1085102592571150095
def p4 (a : Nat) : Nat := a + a / 2 ^ 8
def p5 (a : Nat) : Nat := a + a / 2 ^ 16
def p6 (a : Nat) : Nat := a + a / 2 ^ 32
theorem p_s1 (a : Nat) : p1 a = s1 8 a := rfl
theorem p_s2 (a : Nat) : p2 a = s2 8 a := rfl
theorem p_s3 (a : Nat) : p3 a = s3 8 a := rfl
theorem p_sum (x0 x1 x2 x3 x4 x5 x6 x7 : Nat) (h0 : x0 ≤ 8) (h1 : x1 ≤ 8) (h2 : x2 ≤ 8) (h3 : x3 ≤ 8) (h4 : x4 ≤ 8) (h5 : x5 ≤ 8) (h6 : x6 ≤ 8) (h7 : x7 ≤ 8) :
    p6 (p5 (p4 (256 * (256 * (256 * (256 * (256 * (256 * (256 * (256 * 0 + x7) + x6) + x5) + x4) + x3) + x2) + x1) + x0))) % 128 = x0 + x1 + x2 + x3 + x4 + x5 + x6 + x7 := by
  have e4 : p4 (256 * (256 * (256 * (256 * (256 * (256 * (256 * (256 * 0 + x7) + x6) + x5) + x4) + x3) + x2) + x1) + x0) = 256 * (256 * (256 * (256 * (256 * (256 * (256 * x7 + (x6 + x7)) + (x5 + x6)) + (x4 + x5)) + (x3 + x4)) + (x2 + x3)) + (x1 + x2)) + (x0 + x1) := by
    unfold p4; omega
  have e5 : p5 (256 * (256 * (256 * (256 * (256 * (256 * (256 * x7 + (x6 + x7)) + (x5 + x6)) + (x4 + x5)) + (x3 + x4)) + (x2 + x3)) + (x1 + x2)) + (x0 + x1)) = 256 * (256 * (256 * (256 * (256 * (256 * (256 * x7 + (x6 + x7)) + (x5 + x6 + x7)) + (x4 + x5 + x6 + x7)) + (x3 + x4 + x5 + x6)) + (x2 + x3 + x4 + x5)) + (x1 + x2 + x3 + x4)) + (x0 + x1 + x2 + x3) := by
    unfold p5; omega
  have e6 : (256 * (256 * (256 * (256 * (256 * (256 * (256 * x7 + (x6 + x7)) + (x5 + x6 + x7)) + (x4 + x5 + x6 + x7)) + (x3 + x4 + x5 + x6)) + (x2 + x3 + x4 + x5)) + (x1 + x2 + x3 + x4)) + (x0 + x1 + x2 + x3)) / 2 ^ 32 = 256 * (256 * (256 * x7 + (x6 + x7)) + (x5 + x6 + x7)) + (x4 + x5 + x6 + x7) := by
    omega
  rw [e4, e5]
  unfold p6
  rw [e6]
  omega
theorem p_ok (a : Nat) (ha : a < 2 ^ 64) : p6 (p5 (p4 (p3 (p2 (p1 a))))) &&& 127 = pop 64 a := by
  have h : s3 8 (s2 8 (s1 8 a)) = pops 8 a := (s_all 8 a (by simpa using ha)).1
  rw [p_s1, p_s2, p_s3, h, show (127 : Nat) = 2 ^ 7 - 1 from rfl, Nat.and_two_pow_sub_one_eq_mod]
  have e := p_sum _ _ _ _ _ _ _ _ (pop8_le a) (pop8_le (a / 256)) (pop8_le (a / 256 / 256)) (pop8_le (a / 256 / 256 / 256)) (pop8_le (a / 256 / 256 / 256 / 256)) (pop8_le (a / 256 / 256 / 256 / 256 / 256)) (pop8_le (a / 256 / 256 / 256 / 256 / 256 / 256)) (pop8_le (a / 256 / 256 / 256 / 256 / 256 / 256 / 256))
  have e2 : pops 8 a = 256 * (256 * (256 * (256 * (256 * (256 * (256 * (256 * 0 + pop 8 (a / 256 / 256 / 256 / 256 / 256 / 256 / 256)) + pop 8 (a / 256 / 256 / 256 / 256 / 256 / 256)) + pop 8 (a / 256 / 256 / 256 / 256 / 256)) + pop 8 (a / 256 / 256 / 256 / 256)) + pop 8 (a / 256 / 256 / 256)) + pop 8 (a / 256 / 256)) + pop 8 (a / 256)) + pop 8 a := by
    simp only [pops]
  rw [e2, show (2 : Nat) ^ 7 = 128 from rfl, e, show (64 : Nat) = 8 * (7 + 1) from rfl, pop_bytes, show (8 * 7 : Nat) = 8 * (6 + 1) from rfl, pop_bytes, show (8 * 6 : Nat) = 8 * (5 + 1) from rfl, pop_bytes, show (8 * 5 : Nat) = 8 * (4 + 1) from rfl, pop_bytes, show (8 * 4 : Nat) = 8 * (3 + 1) from rfl, pop_bytes, show (8 * 3 : Nat) = 8 * (2 + 1) from rfl, pop_bytes, show (8 * 2 : Nat) = 8 * (1 + 1) from rfl, pop_bytes, show (8 * 1 : Nat) = 8 * (0 + 1) from rfl, pop_bytes]
  simp only [pop]
  omega
theorem p_b1 {a : Nat} (h : a < 2 ^ 64) : p1 a < 2 ^ 64 := by unfold p1; omega
theorem p_b2 (a : Nat) : p2 a < 2 ^ 64 := by
  unfold p2
  have l1 : a &&& 3689348814741910323 ≤ 3689348814741910323 := Nat.and_le_right
  have l2 : a / 2 ^ 2 &&& 3689348814741910323 ≤ 3689348814741910323 := Nat.and_le_right
  omega
theorem p_b3 (a : Nat) : p3 a ≤ 1085102592571150095 := Nat.and_le_right
theorem p_b4 {a : Nat} (h : a ≤ 1085102592571150095) : p4 a ≤ 1089341276759256150 := by unfold p4; omega
theorem p_b5 {a : Nat} (h : a ≤ 1089341276759256150) : p5 a < 2 ^ 64 := by unfold p5; omega
/-- Integer.bitCount -/
def q1 (a : Nat) : Nat := a - (a / 2 ^ 1 &&& 1431655765)
def q2 (a : Nat) : Nat := (a &&& 858993459) + (a / 2 ^ 2 &&& 858993459)
def q3 (a : Nat) : Nat := (a + a / 2 ^ 4) &&& 252645135
def q4 (a : Nat) : Nat := a + a / 2 ^ 8
def q5 (a : Nat) : Nat := a + a / 2 ^ 16
theorem q_sum (x0 x1 x2 x3 : Nat) (h0 : x0 ≤ 8) (h1 : x1 ≤ 8) (h2 : x2 ≤ 8) (h3 : x3 ≤ 8) : q5 (q4 (256 * (256 * (256 * (256 * 0 + x3) + x2) + x1) + x0)) % 64 = x0 + x1 + x2 + x3 := by
  have e4 : q4 (256 * (256 * (256 * (256 * 0 + x3) + x2) + x1) + x0) = 256 * (256 * (256 * x3 + (x2 + x3)) + (x1 + x2)) + (x0 + x1) := by
    unfold q4; omega
  have e5 : (256 * (256 * (256 * x3 + (x2 + x3)) + (x1 + x2)) + (x0 + x1)) / 2 ^ 16 = 256 * x3 + (x2 + x3) := by
    omega
  rw [e4]
  unfold q5
  rw [e5]
  omega
theorem q_ok (a : Nat) (ha : a < 2 ^ 32) : q5 (q4 (q3 (q2 (q1 a)))) &&& 63 = pop 32 a := by
  have h : s3 4 (s2 4 (s1 4 a)) = pops 4 a := (s_all 4 a (by simpa using ha)).1
  rw [show q1 a = s1 4 a from rfl, show q2 (s1 4 a) = s2 4 (s1 4 a) from rfl, show q3 (s2 4 (s1 4 a)) = s3 4 (s2 4 (s1 4 a)) from rfl, h, show (63 : Nat) = 2 ^ 6 - 1 from rfl, Nat.and_two_pow_sub_one_eq_mod]
  have e := q_sum _ _ _ _ (pop8_le a) (pop8_le (a / 256)) (pop8_le (a / 256 / 256)) (pop8_le (a / 256 / 256 / 256))
  have e2 : pops 4 a = 256 * (256 * (256 * (256 * 0 + pop 8 (a / 256 / 256 / 256)) + pop 8 (a / 256 / 256)) + pop 8 (a / 256)) + pop 8 a := by
    simp only [pops]
  rw [e2, show (2 : Nat) ^ 6 = 64 from rfl, e, show (32 : Nat) = 8 * (3 + 1) from rfl, pop_bytes, show (8 * 3 : Nat) = 8 * (2 + 1) from rfl, pop_bytes, show (8 * 2 : Nat) = 8 * (1 + 1) from rfl, pop_bytes, show (8 * 1 : Nat) = 8 * (0 + 1) from rfl, pop_bytes]
  simp only [pop]
  omega
theorem q_b1 {a : Nat} (h : a < 2 ^ 32) : q1 a < 2 ^ 32 := by unfold q1; omega
theorem q_b2 (a : Nat) : q2 a < 2 ^ 32 := by
  unfold q2
  have l1 : a &&& 858993459 ≤ 858993459 := Nat.and_le_right
  have l2 : a / 2 ^ 2 &&& 858993459 ≤ 858993459 := Nat.and_le_right
  omega
theorem q_b3 (a : Nat) : q3 a ≤ 252645135 := Nat.and_le_right
theorem q_b4 {a : Nat} (h : a ≤ 252645135) : q4 a < 2 ^ 32 := by unfold q4; omega
