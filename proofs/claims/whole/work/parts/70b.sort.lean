/-! the list of ways, sorted by its keys -/
theorem iW_sp (key fr : Nat) : ∀ m q wo, q ≤ m → ∃ j, j ≤ q ∧ (∀ x, iW key fr m (fr + q) wo x = if x = fr + j then key else if fr + j < x ∧ x ≤ fr + q then wo (x - 1) else wo x) ∧ (j = 0 ∨ wo (fr + j - 1) ≤ key) ∧ (∀ a, j ≤ a → a < q → key < wo (fr + a)) := by
  intro m
  induction m with
  | zero =>
    intro q wo hq
    refine ⟨q, Nat.le_refl q, ?_, Or.inl (by omega), by intro a h1 h2; omega⟩
    intro x
    rw [iW, va_up]
    by_cases h : x = fr + q
    · rw [if_pos h, if_pos h]
    · rw [if_neg h, if_neg h, if_neg (by omega)]
  | succ m ih =>
    intro q wo hq
    rw [iW]
    by_cases h : fr < fr + q ∧ key < wo (fr + q - 1)
    · rw [if_pos h, show fr + q - 1 = fr + (q - 1) by omega]
      obtain ⟨j, h1, h2, h3, h4⟩ := ih (q - 1) (va_up wo (fr + q) (wo (fr + (q - 1)))) (by omega)
      refine ⟨j, by omega, ?_, ?_, ?_⟩
      · intro x
        rw [h2 x]
        by_cases e1 : x = fr + j
        · rw [if_pos e1, if_pos e1]
        · rw [if_neg e1, if_neg e1]
          by_cases e2 : fr + j < x ∧ x ≤ fr + (q - 1)
          · rw [if_pos e2, if_pos (by omega), up_n _ _ (by omega)]
          · rw [if_neg e2]
            by_cases e3 : x = fr + q
            · rw [if_pos (by omega), e3, up_s, show fr + (q - 1) = fr + q - 1 by omega]
            · rw [if_neg (by omega), up_n _ _ e3]
      · rcases h3 with h3 | h3
        · exact Or.inl h3
        · rcases Nat.eq_zero_or_pos j with e | e
          · exact Or.inl e
          · rw [up_n _ _ (by omega)] at h3; exact Or.inr h3
      · intro a ha1 ha2
        by_cases e : a = q - 1
        · have := h.2; rw [e]; rwa [show fr + (q - 1) = fr + q - 1 by omega]
        · have := h4 a ha1 (by omega)
          rwa [up_n _ _ (by omega)] at this
    · rw [if_neg h]
      refine ⟨q, Nat.le_refl q, ?_, ?_, by intro a h1 h2; omega⟩
      · intro x
        rw [va_up]
        by_cases h : x = fr + q
        · rw [if_pos h, if_pos h]
        · rw [if_neg h, if_neg h, if_neg (by omega)]
      · rcases Nat.eq_zero_or_pos q with e | e
        · exact Or.inl e
        · exact Or.inr (by have : ¬ key < wo (fr + q - 1) := fun hc => h ⟨by omega, hc⟩
                           omega)
/-- wo holds at fr, fr + 1, .. the i numbers of S, the smallest first -/
def Srt (wo : Nat → Nat) (fr i : Nat) (S : Nat → Prop) : Prop := (∀ a b, a < b → b < i → wo (fr + a) < wo (fr + b)) ∧ (∀ a, a < i → S (wo (fr + a))) ∧ (∀ x, S x → ∃ a, a < i ∧ wo (fr + a) = x)
theorem srt_ins {wo : Nat → Nat} {fr i : Nat} {S : Nat → Prop} (h : Srt wo fr i S) {key : Nat} (hk : ¬ S key) {m : Nat} (hm : i ≤ m) : Srt (iW key fr m (fr + i) wo) fr (i + 1) (fun x => S x ∨ x = key) ∧ ∀ x, x < fr ∨ fr + i < x → iW key fr m (fr + i) wo x = wo x := by
  obtain ⟨s1, s2, s3⟩ := h
  obtain ⟨j, h1, h2, h3, h4⟩ := iW_sp key fr m i wo hm
  have lo : ∀ a, a < j → wo (fr + a) < key := by
    intro a ha
    rcases h3 with h3 | h3
    · omega
    · have n1 : wo (fr + j - 1) ≠ key := by
        intro e; apply hk; rw [← e, show fr + j - 1 = fr + (j - 1) by omega]; exact s2 _ (by omega)
      rcases Nat.lt_or_ge a (j - 1) with h | h
      · have := s1 a (j - 1) h (by omega)
        rw [show fr + (j - 1) = fr + j - 1 by omega] at this
        omega
      · rw [show fr + a = fr + j - 1 by omega]; omega
  have rl : ∀ a, a < j → iW key fr m (fr + i) wo (fr + a) = wo (fr + a) := by
    intro a ha; rw [h2, if_neg (by omega), if_neg (by omega)]
  have rk : iW key fr m (fr + i) wo (fr + j) = key := by rw [h2, if_pos rfl]
  have rh : ∀ a, j < a → a ≤ i → iW key fr m (fr + i) wo (fr + a) = wo (fr + (a - 1)) := by
    intro a ha hb; rw [h2, if_neg (by omega), if_pos (by omega), show fr + a - 1 = fr + (a - 1) by omega]
  refine ⟨⟨?_, ?_, ?_⟩, ?_⟩
  · intro a b hab hb
    rcases Nat.lt_trichotomy a j with ha | ha | ha
    · rw [rl a ha]
      rcases Nat.lt_trichotomy b j with hb2 | hb2 | hb2
      · rw [rl b hb2]; exact s1 a b hab (by omega)
      · rw [hb2, rk]; exact lo a ha
      · rw [rh b hb2 (by omega)]
        have := lo a ha; have := h4 (b - 1) (by omega) (by omega); omega
    · rw [ha, rk, rh b (by omega) (by omega)]
      exact h4 (b - 1) (by omega) (by omega)
    · rw [rh a ha (by omega), rh b (by omega) (by omega)]
      exact s1 (a - 1) (b - 1) (by omega) (by omega)
  · intro a ha
    rcases Nat.lt_trichotomy a j with hj | hj | hj
    · rw [rl a hj]; exact Or.inl (s2 a (by omega))
    · rw [hj, rk]; exact Or.inr rfl
    · rw [rh a hj (by omega)]; exact Or.inl (s2 _ (by omega))
  · intro x hx
    rcases hx with hx | hx
    · obtain ⟨a, ha, e⟩ := s3 x hx
      rcases Nat.lt_or_ge a j with hj | hj
      · exact ⟨a, by omega, by rw [rl a hj, e]⟩
      · exact ⟨a + 1, by omega, by rw [rh (a + 1) (by omega) (by omega), Nat.add_sub_cancel, e]⟩
    · exact ⟨j, by omega, by rw [rk, hx]⟩
  · intro x hx
    rw [h2, if_neg (by omega), if_neg (by omega)]
theorem srt_eq {wo : Nat → Nat} {fr i : Nat} {S T : Nat → Prop} (h : Srt wo fr i S) (e : ∀ x, S x ↔ T x) : Srt wo fr i T :=
  ⟨h.1, fun a ha => (e _).mp (h.2.1 a ha), fun x hx => h.2.2 x ((e x).mpr hx)⟩
/-- the bits of L that are no more in 'left' lie in the list -/
theorem lW_sp (pi op : Nat) (re : Nat → Nat) (fr many L : Nat) (hm : many = pop 64 L) : ∀ m i left wo, left < 2 ^ 36 → (∀ b, left.testBit b = true → L.testBit b = true) → pop 64 left + i = many → i ≤ many → many < i + m → Srt wo fr i (fun x => ∃ d, d < 36 ∧ L.testBit d = true ∧ left.testBit d = false ∧ x = tKey pi op re d) → Srt (lW pi op re fr many m i left wo) fr many (fun x => ∃ d, d < 36 ∧ L.testBit d = true ∧ x = tKey pi op re d) ∧ ∀ x, x < fr ∨ fr + many ≤ x → lW pi op re fr many m i left wo x = wo x := by
  intro m
  induction m with
  | zero => intro i left wo _ _ _ h1 h2; omega
  | succ m ih =>
    intro i left wo hl hsub hp hi hf hs
    rw [lW]
    by_cases h : i < many
    · rw [if_pos h]
      have h0 : 0 < left := by
        rcases Nat.eq_zero_or_pos left with e | e
        · rw [e, pop_zero] at hp; omega
        · exact e
      obtain ⟨k, q, hk, e1, e2, e3, e4, e5, e6⟩ := low_all h0 hl
      rw [e3]
      have tk : left.testBit k = true := by
        rw [e1]
        have f2 := Nat.testBit_two_pow_mul_add (2 * q + 1) (i := k) (b := 0) (Nat.pow_pos (by decide)) k
        rw [Nat.add_zero, if_neg (by omega), Nat.sub_self] at f2
        rw [f2]; simp
      have tx : ∀ b, (left ^^^ lowb left).testBit b = (left.testBit b && decide (b ≠ k)) := by
        intro b
        rw [e2, Nat.testBit_xor, Nat.testBit_two_pow]
        by_cases e : b = k
        · subst e; simp [tk]
        · simp [e, show ¬ k = b from fun z => e z.symm]
      have nk : ¬ ∃ d, d < 36 ∧ L.testBit d = true ∧ left.testBit d = false ∧ tKey pi op re k = tKey pi op re d := by
        rintro ⟨d, hd, h1, h2, h3⟩
        have : k = d := by
          have : tKey pi op re k % 36 = tKey pi op re d % 36 := by rw [h3]
          simp only [tKey] at this
          omega
        rw [this, h2] at tk; cases tk
      obtain ⟨i1, i2⟩ := srt_ins hs nk (m := i + 1) (by omega)
      obtain ⟨r1, r2⟩ := ih (i + 1) (left ^^^ lowb left) (iW (tKey pi op re k) fr (i + 1) (fr + i) wo) e5
        (fun b hb => hsub b (by rw [tx] at hb; simp at hb; exact hb.1)) (by omega) (by omega) (by omega)
        (srt_eq i1 (fun x => by
          constructor
          · rintro (⟨d, h1, h2, h3, h4⟩ | h1)
            · exact ⟨d, h1, h2, by rw [tx, h3]; rfl, h4⟩
            · exact ⟨k, hk, hsub k tk, by rw [tx]; simp, h1⟩
          · rintro ⟨d, h1, h2, h3, h4⟩
            rw [tx] at h3
            by_cases e : d = k
            · right; rw [h4, e]
            · left; exact ⟨d, h1, h2, by simpa [e] using h3, h4⟩))
      refine ⟨r1, ?_⟩
      intro x hx
      rw [r2 x hx, i2 x (by omega)]
    · rw [if_neg h]
      have e : i = many := by omega
      subst e
      refine ⟨srt_eq hs (fun x => ?_), fun x _ => rfl⟩
      have z : ∀ b, b < 64 → left.testBit b = false := by
        have : pop 64 left = 0 := by omega
        rw [pop_cnq] at this
        exact cnq_z 64 this
      constructor
      · rintro ⟨d, h1, h2, _, h4⟩; exact ⟨d, h1, h2, h4⟩
      · rintro ⟨d, h1, h2, h4⟩; exact ⟨d, h1, h2, z d (by omega), h4⟩
