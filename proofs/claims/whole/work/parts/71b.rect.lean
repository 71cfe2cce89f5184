/-! the rectangle: what the program's state says -/
theorem al_tb (g v : Nat) : (2 * 2 ^ g - 2).testBit v = decide (1 ≤ v ∧ v ≤ g) := by
  rw [show 2 * 2 ^ g - 2 = 2 * (2 ^ g - 1) by omega]
  cases v with
  | zero => simp
  | succ v =>
    rw [Nat.testBit_succ, Nat.mul_div_cancel_left _ (by decide), Nat.testBit_two_pow_sub_one]
    apply decide_eq_decide.mpr
    omega
theorem not32 (x : Nat) {v : Nat} (hv : v < 32) : (x ^^^ 4294967295).testBit v = !x.testBit v := by
  rw [Nat.testBit_xor, show (4294967295 : Nat) = 2 ^ 32 - 1 by decide, Nat.testBit_two_pow_sub_one]
  simp [hv]
theorem rCh_tb {g : Nat} (hg : g ≤ 6) (co ro uc ur : Nat → Nat) (k v : Nat) : (rCh (2 * 2 ^ g - 2) co ro uc ur k).testBit v = (decide (1 ≤ v ∧ v ≤ g) && !(uc (co k)).testBit v && !(ur (ro k)).testBit v) := by
  rw [rCh, Nat.testBit_and, al_tb]
  by_cases h : 1 ≤ v ∧ v ≤ g
  · rw [not32 _ (by omega), Nat.testBit_or]
    simp [h]
  · simp [h]
theorem cnv (g : Nat) : ∀ m, cnq (fun v => decide (1 ≤ v ∧ v ≤ g)) m = min (m - 1) g := by
  intro m
  induction m with
  | zero => simp [cnq]
  | succ m ih =>
    rw [cnq, ih]
    by_cases h : 1 ≤ m ∧ m ≤ g
    · rw [if_pos (by simp [h])]; omega
    · rw [if_neg (by simp; omega)]; omega
theorem rCh_pop {g : Nat} (hg : g ≤ 6) (co ro uc ur : Nat → Nat) (k : Nat) : pop 32 (rCh (2 * 2 ^ g - 2) co ro uc ur k) ≤ g := by
  rw [pop_cnq]
  refine Nat.le_trans (cnq_mono 32 (r := fun v => decide (1 ≤ v ∧ v ≤ g)) ?_) (by rw [cnv]; omega)
  intro v _ h
  rw [rCh_tb hg] at h
  simp only [Bool.and_eq_true] at h
  exact h.1.1
/-- the sides -/
def Sd (w h n g sh : Nat) (co ro : Nat → Nat) : Prop := 1 ≤ w ∧ 1 ≤ h ∧ w ≤ 6 ∧ h ≤ 6 ∧ n = w * h ∧ g = max w h ∧ sh = min w h ∧ ∀ k, k < n → co k = k % w ∧ ro k = k / w ∧ k / w < h
/-- used in columns and rows: what lies in tr, and nothing in it repeats -/
def CS (w n g : Nat) (tr uc ur : Nat → Nat) : Prop :=
  (∀ c v, c < 6 → 1 ≤ v → ((uc c).testBit v = true ↔ ∃ k, k < n ∧ k % w = c ∧ tr k = v)) ∧
  (∀ c v, c < 6 → 1 ≤ v → ((ur c).testBit v = true ↔ ∃ k, k < n ∧ k / w = c ∧ tr k = v)) ∧
  (∀ k, k < n → tr k ≤ g ∧ ∀ d, d < n → mSee w k d → tr k ≠ 0 → tr k ≠ tr d) ∧ (∀ c, uc c < 128) ∧ ∀ c, ur c < 128
theorem ch_iff {w h n g sh : Nat} {co ro : Nat → Nat} (S : Sd w h n g sh co ro) {tr uc ur : Nat → Nat} (C : CS w n g tr uc ur) {k : Nat} (hk : k < n) (h0 : tr k = 0) (v : Nat) :
    (rCh (2 * 2 ^ g - 2) co ro uc ur k).testBit v = true ↔ (1 ≤ v ∧ v ≤ g) ∧ ∀ d, d < n → mSee w k d → tr d ≠ v := by
  obtain ⟨s1, s2, s3, s4, s5, s6, s7, s8⟩ := S
  obtain ⟨c1, c2, c3, c4, c5⟩ := C
  have m6 : k % w < 6 ∧ k / w < 6 := ⟨by have := Nat.mod_lt k (show 0 < w by omega); omega, by have := (s8 k hk).2.2; omega⟩
  rw [rCh_tb (by omega), (s8 k hk).1, (s8 k hk).2.1]
  simp only [Bool.and_eq_true, decide_eq_true_eq, Bool.not_eq_true']
  constructor
  · rintro ⟨⟨h1, h2⟩, h3⟩
    refine ⟨h1, fun d hd hs he => ?_⟩
    rcases hs.2 with e | e
    · have := (c1 (k % w) v m6.1 h1.1).mpr ⟨d, hd, e.symm, he⟩
      rw [h2] at this; cases this
    · have := (c2 (k / w) v m6.2 h1.1).mpr ⟨d, hd, e.symm, he⟩
      rw [h3] at this; cases this
  · rintro ⟨h1, h2⟩
    have ne : ∀ d, tr d = v → k ≠ d := fun d he hkd => by rw [← hkd, h0] at he; omega
    refine ⟨⟨h1, ?_⟩, ?_⟩
    · cases hb : (uc (k % w)).testBit v with
      | false => rfl
      | true =>
        obtain ⟨d, d1, d2, d3⟩ := (c1 _ v m6.1 h1.1).mp hb
        exact absurd d3 (h2 d d1 ⟨ne d d3, Or.inl d2.symm⟩)
    · cases hb : (ur (k / w)).testBit v with
      | false => rfl
      | true =>
        obtain ⟨d, d1, d2, d3⟩ := (c2 _ v m6.2 h1.1).mp hb
        exact absurd d3 (h2 d d1 ⟨ne d d3, Or.inr d2.symm⟩)
theorem or_lt128 {a v : Nat} (ha : a < 128) (hv : v ≤ 6) : a ||| 2 ^ v < 128 := by
  have : (2 : Nat) ^ v ≤ 2 ^ 6 := Nat.pow_le_pow_right (by decide) hv
  exact Nat.or_lt_two_pow (n := 7) ha (by omega)
theorem mSee_symm {w c d : Nat} (h : mSee w c d) : mSee w d c := ⟨fun e => h.1 e.symm, h.2.imp Eq.symm Eq.symm⟩
theorem CS_put {w h n g sh : Nat} {co ro : Nat → Nat} (S : Sd w h n g sh co ro) {tr uc ur : Nat → Nat} (C : CS w n g tr uc ur) {k v : Nat} (hk : k < n) (h0 : tr k = 0) (hv : 1 ≤ v ∧ v ≤ g) (hf : ∀ d, d < n → mSee w k d → tr d ≠ v) :
    CS w n g (va_up tr k v) (rPut uc (co k) v) (rPut ur (ro k) v) := by
  obtain ⟨s1, s2, s3, s4, s5, s6, s7, s8⟩ := S
  obtain ⟨c1, c2, c3, c4, c5⟩ := C
  have aux : ∀ (f : Nat → Nat) (pr : Nat → Nat) (i : Nat), pr k = i → (∀ c u, c < 6 → 1 ≤ u → ((f c).testBit u = true ↔ ∃ k, k < n ∧ pr k = c ∧ tr k = u)) → ∀ c u, c < 6 → 1 ≤ u → ((rPut f i v c).testBit u = true ↔ ∃ j, j < n ∧ pr j = c ∧ va_up tr k v j = u) := by
    intro f pr i hi hc c u h6 hu
    have left : (∃ j, j < n ∧ pr j = c ∧ va_up tr k v j = u) ↔ ((∃ j, j < n ∧ pr j = c ∧ tr j = u) ∨ (c = i ∧ u = v)) := by
      constructor
      · rintro ⟨j, h1, h2, h3⟩
        by_cases e : j = k
        · right; rw [e, up_s] at h3; rw [e, hi] at h2; exact ⟨h2.symm, h3.symm⟩
        · left; rw [up_n _ _ e] at h3; exact ⟨j, h1, h2, h3⟩
      · rintro (⟨j, h1, h2, h3⟩ | ⟨h1, h2⟩)
        · have e : j ≠ k := fun e => by rw [e, h0] at h3; omega
          exact ⟨j, h1, h2, by rw [up_n _ _ e]; exact h3⟩
        · exact ⟨k, hk, by rw [hi, h1], by rw [up_s, h2]⟩
    rw [left, ← hc c u h6 hu, rPut]
    by_cases e : c = i
    · rw [e, up_s, Nat.testBit_or, Nat.testBit_two_pow]
      simp only [Bool.or_eq_true, decide_eq_true_eq, true_and]
      constructor
      · rintro (a | a)
        · exact Or.inl a
        · exact Or.inr a.symm
      · rintro (a | a)
        · exact Or.inl a
        · exact Or.inr a.symm
    · rw [up_n _ _ e]; simp [e]
  have bnd : ∀ (f : Nat → Nat) (i : Nat), (∀ c, f c < 128) → ∀ c, rPut f i v c < 128 := by
    intro f i hf c
    rw [rPut]
    by_cases e : c = i
    · rw [e, up_s]; exact or_lt128 (hf i) (by omega)
    · rw [up_n _ _ e]; exact hf c
  refine ⟨aux uc (fun k => k % w) _ (s8 k hk).1.symm c1, aux ur (fun k => k / w) _ (s8 k hk).2.1.symm c2, ?_, bnd uc _ c4, bnd ur _ c5⟩
  intro j hj
  by_cases e : j = k
  · rw [e, up_s]
    refine ⟨hv.2, fun d hd hs _ => ?_⟩
    rw [up_n _ _ (fun z => hs.1 z.symm)]
    exact fun z => hf d hd hs z.symm
  · rw [up_n _ _ e]
    refine ⟨(c3 j hj).1, fun d hd hs hz => ?_⟩
    by_cases e2 : d = k
    · rw [e2, up_s]; rw [e2] at hs; exact hf j hj (mSee_symm hs)
    · rw [up_n _ _ e2]; exact (c3 j hj).2 d hd hs hz
theorem take_put {f : Nat → Nat} {i v : Nat} (hb : (f i).testBit v = false) (hl : f i < 128) (hv : v ≤ 6) : rTake (rPut f i v) i v = f := by
  funext c
  rw [rTake]
  by_cases e : c = i
  · rw [e, up_s, rPut, up_s]
    apply Nat.eq_of_testBit_eq
    intro b
    rw [Nat.testBit_and, Nat.testBit_or, Nat.testBit_two_pow]
    rcases Nat.lt_or_ge b 32 with h | h
    · rw [not32 _ h, Nat.testBit_two_pow]
      by_cases e2 : v = b
      · rw [← e2, hb]; simp
      · simp [e2]
    · have z : (f i).testBit b = false := Nat.testBit_lt_two_pow (Nat.lt_of_lt_of_le hl (by
        have : (2 : Nat) ^ 32 ≤ 2 ^ b := Nat.pow_le_pow_right (by decide) h
        omega))
      rw [z]
      simp [show ¬ v = b by omega]
  · rw [up_n _ _ e, rPut, up_n _ _ e]
theorem Nn_bad {w n g : Nat} {tr : Nat → Nat} {k v d : Nat} (hk : k < n) (hd : d < n) (hs : mSee w k d) (hv : 1 ≤ v) (h : tr d = v) : Nn w n g (va_up tr k v) = 0 := by
  apply Nn_none
  intro F C
  have a := C.2 k hk (by rw [up_s]; omega)
  have b := C.2 d hd (by rw [up_n _ _ (fun z => hs.1 z.symm), h]; omega)
  rw [up_s] at a
  rw [up_n _ _ (fun z => hs.1 z.symm), h] at b
  exact (C.1 k hk).2 d hd hs (by rw [a, b])
theorem rNo_sp {n g : Nat} {co ro tr uc ur : Nat → Nat} (hg1 : 1 ≤ g) (hg : g ≤ 6) : (rNo n g (2 * 2 ^ g - 2) co ro tr uc ur = 0 ∧ ∀ j, j < n → tr j ≠ 0) ∨ ∃ j, j < n ∧ rNo n g (2 * 2 ^ g - 2) co ro tr uc ur = j + 1 ∧ tr j = 0 := by
  have key : ∀ m k nw fw, n < k + m → k ≤ n → ((nw = 0 ∧ fw = g + 1 ∧ ∀ j, j < k → tr j ≠ 0) ∨ ∃ j, j < n ∧ nw = j + 1 ∧ tr j = 0) → (rNr n (2 * 2 ^ g - 2) co ro tr uc ur m k nw fw = 0 ∧ ∀ j, j < n → tr j ≠ 0) ∨ ∃ j, j < n ∧ rNr n (2 * 2 ^ g - 2) co ro tr uc ur m k nw fw = j + 1 ∧ tr j = 0 := by
    intro m
    induction m with
    | zero => intro k nw fw h1 h2; omega
    | succ m ih =>
      intro k nw fw h1 h2 hI
      rw [rNr]
      by_cases h : k < n ∧ 1 < fw
      · rw [if_pos h]
        by_cases h0 : tr k = 0
        · rw [if_pos h0]
          by_cases hp : pop 32 (rCh (2 * 2 ^ g - 2) co ro uc ur k) < fw
          · rw [if_pos hp]
            exact ih _ _ _ (by omega) (by omega) (Or.inr ⟨k, h.1, rfl, h0⟩)
          · rw [if_neg hp]
            refine ih _ _ _ (by omega) (by omega) ?_
            rcases hI with ⟨a, b, _⟩ | hI
            · have := rCh_pop hg co ro uc ur k; omega
            · exact Or.inr hI
        · rw [if_neg h0]
          refine ih _ _ _ (by omega) (by omega) ?_
          rcases hI with ⟨a, b, c⟩ | hI
          · refine Or.inl ⟨a, b, fun j hj => ?_⟩
            by_cases e : j = k
            · rw [e]; exact h0
            · exact c j (by omega)
          · exact Or.inr hI
      · rw [if_neg h]
        rcases hI with ⟨a, b, c⟩ | hI
        · exact Or.inl ⟨a, fun j hj => c j (by omega)⟩
        · exact Or.inr hI
  exact key (n + 1) 0 0 (g + 1) (by omega) (by omega) (Or.inl ⟨rfl, rfl, fun j hj => by omega⟩)
