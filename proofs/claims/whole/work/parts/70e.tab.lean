/-! the tables -/
def reb (w h p c : Nat) : Bool := (eT w h (p * 36 + c) == mkq (gq w p c) (w * h)) && decide (cnq (gq w p c) (w * h) ≤ 8)
def alb (q : Nat → Bool) : Nat → Bool
  | 0 => true
  | n + 1 => q n && alb q n
theorem alb_all {q : Nat → Bool} : ∀ n, alb q n = true → ∀ i, i < n → q i = true := by
  intro n
  induction n with
  | zero => intro _ i hi; omega
  | succ n ih =>
    intro h i hi
    rw [alb, Bool.and_eq_true] at h
    by_cases e : i = n
    · rw [e]; exact h.1
    · exact ih h.2 i (by omega)
def rec2 (w h : Nat) : Bool := alb (fun p => alb (fun c => reb w h p c) (w * h)) 3
theorem re_1 : alb (fun h => rec2 1 h) 7 = true := by decide +kernel
theorem re_2 : alb (fun h => rec2 2 h) 7 = true := by decide +kernel
theorem re_3 : alb (fun h => rec2 3 h) 7 = true := by decide +kernel
theorem re_4 : alb (fun h => rec2 4 h) 7 = true := by decide +kernel
theorem re_5 : alb (fun h => rec2 5 h) 7 = true := by decide +kernel
theorem re_6 : alb (fun h => rec2 6 h) 7 = true := by decide +kernel
theorem re_all {w h p : Nat} (h1 : 1 ≤ w) (h2 : w ≤ 6) (h3 : h ≤ 6) (hp : p < 3) : RE w (w * h) p (eT w h) := by
  have hh : rec2 w h = true := by
    rcases (by omega : w = 1 ∨ w = 2 ∨ w = 3 ∨ w = 4 ∨ w = 5 ∨ w = 6) with e | e | e | e | e | e <;> subst e
    · exact alb_all 7 re_1 h (by omega)
    · exact alb_all 7 re_2 h (by omega)
    · exact alb_all 7 re_3 h (by omega)
    · exact alb_all 7 re_4 h (by omega)
    · exact alb_all 7 re_5 h (by omega)
    · exact alb_all 7 re_6 h (by omega)
  intro c hc
  have := alb_all _ (alb_all 3 hh p hp) c hc
  rw [reb, Bool.and_eq_true, beq_iff_eq, decide_eq_true_eq] at this
  exact this
def crb (w h : Nat) : Bool := alb (fun c => (cR w h).1 c == c % w && (cR w h).2 c == c / w && decide (c / w < h)) (w * h) && alb (fun c => decide ((cR w h).1 c < 6) && decide ((cR w h).2 c < 6)) 36
theorem cr_dec : alb (fun w => alb (fun h => crb (w + 1) h) 7) 6 = true := by decide +kernel
theorem cR_sp {w h : Nat} (h1 : 1 ≤ w) (h2 : w ≤ 6) (h3 : h ≤ 6) : (∀ c, c < w * h → (cR w h).1 c = c % w ∧ (cR w h).2 c = c / w ∧ c / w < h) ∧ ∀ c, c < 36 → (cR w h).1 c < 6 ∧ (cR w h).2 c < 6 := by
  have := alb_all 7 (alb_all 6 cr_dec (w - 1) (by omega)) h (by omega)
  rw [show w - 1 + 1 = w by omega, crb, Bool.and_eq_true] at this
  refine ⟨fun c hc => ?_, fun c hc => ?_⟩
  · have z := alb_all _ this.1 c hc
    simp only [Bool.and_eq_true, beq_iff_eq, decide_eq_true_eq] at z
    exact ⟨z.1.1, z.1.2, z.2⟩
  · have z := alb_all _ this.2 c hc
    simp only [Bool.and_eq_true, decide_eq_true_eq] at z
    exact z
theorem mkq_ones : ∀ n, mkq (fun _ => true) n = 2 ^ n - 1 := by
  intro n
  induction n with
  | zero => rfl
  | succ n ih => rw [mkq, ih, if_pos rfl, Nat.pow_succ]; have := Nat.pow_pos (a := 2) (n := n) (by decide); omega
