/-! the magic square: the way of the reference and the numbers of the program -/
def mgQ (n v : Nat) : Nat × Nat := ((n / 2 + n - v / n + v % n) % n, (2 * (v / n) + n - v % n) % n)
def mgV (n x y : Nat) : Nat := ((x + y + n - n / 2) % n) * n + (2 * ((x + y + n - n / 2) % n) + n - y) % n
def mgc (n : Nat) : Bool := decide (mgQ n 0 = (n / 2, 0)) && alb (fun v => decide (mgSt n (v + 1) (mgQ n v).1 (mgQ n v).2 = mgQ n (v + 1))) (n * n - 1)
def mgd (n : Nat) : Bool := alb (fun x => alb (fun y => decide (mgV n x y < n * n) && decide (mgQ n (mgV n x y) = (x, y)) && decide (mgF (nI n) (nI x) (nI y) = nI (mgV n x y + 1))) n) n
def mge (n : Nat) : Bool := alb (fun v => decide (mgV n (mgQ n v).1 (mgQ n v).2 = v)) (n * n)
theorem mg_dec : alb (fun k => mgc (2 * k + 1) && mgd (2 * k + 1) && mge (2 * k + 1)) 8 = true := by decide +kernel
theorem mg_all {n x y : Nat} (h15 : n ≤ 15) (ho : n % 2 = 1) (hx : x < n) (hy : y < n) : mgV n x y < 2 ^ 20 ∧ mgPs n (mgV n x y) = (x, y) ∧ (∀ u, mgPs n u = (x, y) → u ≤ mgV n x y → u = mgV n x y) ∧ mgF (nI n) (nI x) (nI y) = nI (mgV n x y + 1) := by
  have h := alb_all 8 mg_dec (n / 2) (by omega)
  rw [show 2 * (n / 2) + 1 = n by omega] at h
  simp only [Bool.and_eq_true] at h
  obtain ⟨⟨hc, hd⟩, he⟩ := h
  have hn2 : n * n ≤ 225 := Nat.mul_le_mul h15 h15
  rw [mgc, Bool.and_eq_true, decide_eq_true_eq] at hc
  have ps : ∀ v, v < n * n → mgPs n v = mgQ n v := by
    intro v
    induction v with
    | zero => intro _; rw [mgPs, hc.1]
    | succ v ih =>
      intro hv
      rw [mgPs, ih (by omega)]
      have := alb_all _ hc.2 v (by omega)
      rwa [decide_eq_true_eq] at this
  have hd2 := alb_all _ (alb_all _ hd x hx) y hy
  simp only [Bool.and_eq_true, decide_eq_true_eq] at hd2
  obtain ⟨⟨d1, d2⟩, d3⟩ := hd2
  refine ⟨by omega, by rw [ps _ d1, d2], ?_, d3⟩
  intro u hu hle
  rw [ps u (by omega)] at hu
  have := alb_all _ he u (by omega)
  rw [decide_eq_true_eq, hu] at this
  exact this.symm
