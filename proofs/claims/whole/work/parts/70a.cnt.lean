/-! counting and masks -/
def cnq (q : Nat → Bool) : Nat → Nat
  | 0 => 0
  | n + 1 => cnq q n + (if q n = true then 1 else 0)
def mkq (q : Nat → Bool) : Nat → Nat
  | 0 => 0
  | n + 1 => mkq q n + (if q n = true then 2 ^ n else 0)
theorem mkq_lt (q : Nat → Bool) : ∀ n, mkq q n < 2 ^ n := by
  intro n
  induction n with
  | zero => simp [mkq]
  | succ n ih => rw [mkq, Nat.pow_succ]; split <;> omega
theorem mkq_tb (q : Nat → Bool) (i : Nat) : ∀ n, (mkq q n).testBit i = (decide (i < n) && q i) := by
  intro n
  induction n with
  | zero => simp [mkq]
  | succ n ih =>
    rw [mkq]
    have hl := mkq_lt q n
    by_cases h : q n = true
    · rw [if_pos h]
      have e := Nat.testBit_two_pow_mul_add 1 (i := n) (b := mkq q n) hl i
      rw [Nat.mul_one, Nat.add_comm] at e
      rw [e]
      rcases Nat.lt_trichotomy i n with h1 | h1 | h1
      · rw [if_pos h1, ih]; simp [h1, show i < n + 1 by omega]
      · subst h1; simp [h]
      · rw [if_neg (by omega)]
        rw [show i - n = (i - n - 1) + 1 by omega, Nat.testBit_succ]
        simp [show ¬ i < n + 1 by omega]
    · rw [if_neg h, Nat.add_zero, ih]
      rcases Nat.lt_trichotomy i n with h1 | h1 | h1
      · simp [h1, show i < n + 1 by omega]
      · subst h1; simp at h; simp [h]
      · simp [show ¬ i < n + 1 by omega, show ¬ i < n by omega]
theorem mkq_and (q r : Nat → Bool) (n : Nat) : mkq q n &&& mkq r n = mkq (fun c => q c && r c) n := by
  apply Nat.eq_of_testBit_eq
  intro i
  rw [Nat.testBit_and, mkq_tb, mkq_tb, mkq_tb]
  cases decide (i < n) <;> simp
theorem mkq_congr {q r : Nat → Bool} {n : Nat} (h : ∀ c, c < n → q c = r c) : mkq q n = mkq r n := by
  apply Nat.eq_of_testBit_eq
  intro i
  rw [mkq_tb, mkq_tb]
  by_cases hi : i < n
  · rw [h i hi]
  · simp [hi]
theorem cnq_congr {q r : Nat → Bool} : ∀ n, (∀ c, c < n → q c = r c) → cnq q n = cnq r n := by
  intro n
  induction n with
  | zero => intro _; rfl
  | succ n ih => intro h; rw [cnq, cnq, ih (fun c hc => h c (by omega)), h n (by omega)]
theorem cnq_sh (q : Nat → Bool) : ∀ n, cnq q (n + 1) = (if q 0 = true then 1 else 0) + cnq (fun i => q (i + 1)) n := by
  intro n
  induction n with
  | zero => simp [cnq]
  | succ n ih => rw [cnq, ih, cnq]; omega
theorem pop_cnq : ∀ k a, pop k a = cnq (fun i => a.testBit i) k := by
  intro k
  induction k with
  | zero => intro a; rfl
  | succ k ih =>
    intro a
    rw [pop, ih, cnq_sh]
    have e : a % 2 = (if a.testBit 0 = true then 1 else 0) := by
      rw [Nat.testBit_zero]; rcases Nat.mod_two_eq_zero_or_one a with h | h <;> simp [h]
    rw [e]
    congr 1
    apply cnq_congr
    intro c _
    rw [Nat.testBit_succ]
theorem cnq_ext (q : Nat → Bool) (n : Nat) : ∀ k, cnq (fun i => decide (i < n) && q i) (n + k) = cnq q n := by
  intro k
  induction k with
  | zero => apply cnq_congr; intro c hc; simp at hc; simp [hc]
  | succ k ih => rw [← Nat.add_assoc, cnq, ih, if_neg (by simp [show ¬ n + k < n by omega]), Nat.add_zero]
theorem pop_mk (q : Nat → Bool) {n k : Nat} (h : n ≤ k) : pop k (mkq q n) = cnq q n := by
  rw [pop_cnq, show k = n + (k - n) by omega, ← cnq_ext q n (k - n)]
  apply cnq_congr
  intro c _
  exact mkq_tb q c n
theorem cnq_le (q : Nat → Bool) : ∀ n, cnq q n ≤ n := by
  intro n
  induction n with
  | zero => exact Nat.le_refl 0
  | succ n ih => rw [cnq]; split <;> omega
theorem cnq_mono {q r : Nat → Bool} : ∀ n, (∀ c, c < n → q c = true → r c = true) → cnq q n ≤ cnq r n := by
  intro n
  induction n with
  | zero => intro _; exact Nat.le_refl 0
  | succ n ih =>
    intro h
    have i1 := ih (fun c hc => h c (by omega))
    rw [cnq, cnq]
    by_cases hq : q n = true
    · rw [if_pos hq, if_pos (h n (by omega) hq)]; omega
    · rw [if_neg hq]; omega
theorem cnq_pos {q : Nat → Bool} : ∀ n, 0 < cnq q n → ∃ c, c < n ∧ q c = true := by
  intro n
  induction n with
  | zero => intro h; simp [cnq] at h
  | succ n ih =>
    intro h
    rw [cnq] at h
    by_cases hq : q n = true
    · exact ⟨n, by omega, hq⟩
    · rw [if_neg hq] at h
      obtain ⟨c, h1, h2⟩ := ih (by omega)
      exact ⟨c, by omega, h2⟩
theorem cnq_none {q : Nat → Bool} {n : Nat} (h : ∀ c, c < n → q c = false) : cnq q n = 0 := by
  rcases Nat.eq_zero_or_pos (cnq q n) with h1 | h1
  · exact h1
  · obtain ⟨c, h2, h3⟩ := cnq_pos n h1
    rw [h c h2] at h3; cases h3
theorem cnq_z {q : Nat → Bool} : ∀ n, cnq q n = 0 → ∀ c, c < n → q c = false := by
  intro n
  induction n with
  | zero => intro _ c hc; omega
  | succ n ih =>
    intro h c hc
    rw [cnq] at h
    by_cases e : c = n
    · subst e
      cases hq : q c
      · rfl
      · rw [hq] at h; simp at h
    · exact ih (by omega) c (by omega)
/-- one less -/
theorem cnq_rm {q : Nat → Bool} {d : Nat} : ∀ n, d < n → q d = true → cnq (fun c => q c && decide (c ≠ d)) n + 1 = cnq q n := by
  intro n
  induction n with
  | zero => intro h; omega
  | succ n ih =>
    intro h hq
    rw [cnq, cnq]
    by_cases e : d = n
    · subst e
      rw [if_pos hq, if_neg (by simp)]
      have : cnq (fun c => q c && decide (c ≠ d)) d = cnq q d := cnq_congr d (fun c hc => by simp [show c ≠ d by omega])
      rw [this]
    · have i1 := ih (by omega) hq
      have e2 : (if (q n && decide (n ≠ d)) = true then 1 else 0) = (if q n = true then 1 else 0) := by
        simp [show n ≠ d by omega]
      rw [e2]; omega
theorem cnq_full {q : Nat → Bool} : ∀ n, cnq q n = n → ∀ c, c < n → q c = true := by
  intro n
  induction n with
  | zero => intro _ c hc; omega
  | succ n ih =>
    intro h c hc
    have l := cnq_le q n
    rw [cnq] at h
    by_cases hq : q n = true
    · rw [if_pos hq] at h
      by_cases e : c = n
      · rw [e]; exact hq
      · exact ih (by omega) c (by omega)
    · rw [if_neg hq] at h; omega
/-- more pigeons than holes -/
theorem pigeon : ∀ (k : Nat) (q : Nat → Bool) (n : Nat) (f : Nat → Nat), (∀ i, i < k → f i < n ∧ q (f i) = true) → (∀ i j, i < j → j < k → f i ≠ f j) → k ≤ cnq q n := by
  intro k
  induction k with
  | zero => intro _ _ _ _ _; omega
  | succ k ih =>
    intro q n f h1 h2
    have hk := h1 k (by omega)
    have := ih (fun c => q c && decide (c ≠ f k)) n f (fun i hi => ⟨(h1 i (by omega)).1, by
      have := h2 i k hi (by omega)
      simp [(h1 i (by omega)).2, this]⟩) (fun i j hi hj => h2 i j hi (by omega))
    have e := cnq_rm n hk.1 hk.2
    omega
theorem cnq_up (q : Nat → Bool) (c : Nat) : ∀ k, cnq q c ≤ cnq q (c + k) := by
  intro k
  induction k with
  | zero => exact Nat.le_refl _
  | succ k ih => have e : cnq q (c + (k + 1)) = cnq q (c + k) + (if q (c + k) = true then 1 else 0) := rfl
                 omega
theorem mCt_all (n : Nat) (q : Nat → Bool) : ∀ m c x, c ≤ n → n < c + m → mCt n q m c x = x + (cnq q n - cnq q c) := by
  intro m
  induction m with
  | zero => intro c x h1 h2; omega
  | succ m ih =>
    intro c x h1 h2
    rw [mCt]
    by_cases h : c < n
    · have mono := cnq_up q (c + 1) (n - (c + 1))
      rw [show c + 1 + (n - (c + 1)) = n by omega] at mono
      rw [if_pos h, ih (c + 1) _ (by omega) (by omega)]
      have e : cnq q (c + 1) = cnq q c + (if q c = true then 1 else 0) := rfl
      by_cases hq : q c = true
      · rw [if_pos hq] at e ⊢; omega
      · rw [if_neg hq] at e ⊢; omega
    · have : c = n := by omega
      subst this
      rw [if_neg h]; omega
theorem mCt_0 (n : Nat) (q : Nat → Bool) : mCt n q (n + 1) 0 0 = cnq q n := by
  rw [mCt_all n q (n + 1) 0 0 (by omega) (by omega)]; simp [cnq]
theorem div_tb (a k : Nat) : a / 2 ^ k % 2 = if a.testBit k = true then 1 else 0 := by
  rw [← Nat.shiftRight_eq_div_pow, Nat.testBit_eq_decide_div_mod_eq, ← Nat.shiftRight_eq_div_pow]
  rcases Nat.mod_two_eq_zero_or_one (a >>> k) with h | h <;> simp [h]
theorem up_s {α : Type} (f : Nat → α) (k : Nat) (v : α) : va_up f k v k = v := va_up_self f k v
theorem up_n {α : Type} (f : Nat → α) {k j : Nat} (v : α) (h : j ≠ k) : va_up f k v j = f j := va_up_ne f v h
