/-! the tour: both searches are one -/
def gq (w p c : Nat) : Nat → Bool := fun d => decide (mGo w p c d = 1)
def oq (ba vi : Nat → Nat) : Nat → Bool := fun c => decide (ba c = 0 ∧ vi c = 0)
def RE (w n p : Nat) (re : Nat → Nat) : Prop := ∀ c, c < n → re (p * 36 + c) = mkq (gq w p c) n ∧ cnq (gq w p c) n ≤ 8
theorem mWq_eq (w p : Nat) (ba vi : Nat → Nat) (c d : Nat) : mWq w p ba vi c d = (gq w p c d && oq ba vi d) := by
  simp only [mWq, gq, oq]
  by_cases h1 : ba d = 0 <;> by_cases h2 : vi d = 0 <;> by_cases h3 : mGo w p c d = 1 <;> simp [h1, h2, h3]
theorem mWo_eq (w n p : Nat) (ba vi : Nat → Nat) (c : Nat) : mWo w n p ba vi c = cnq (fun d => gq w p c d && oq ba vi d) n := by
  rw [mWo, mCt_0]
  exact cnq_congr n (fun d _ => mWq_eq w p ba vi c d)
theorem mWo_len (w n p : Nat) (ba vi : Nat → Nat) (c : Nat) : mWo w n p ba vi c ≤ n := by rw [mWo_eq]; exact cnq_le _ _
theorem re_pop {w n p : Nat} {re : Nat → Nat} (R : RE w n p re) (hn : n ≤ 36) (ba vi : Nat → Nat) {c : Nat} (hc : c < n) : pop 64 (re (p * 36 + c) &&& mkq (oq ba vi) n) = mWo w n p ba vi c ∧ mWo w n p ba vi c ≤ 8 := by
  rw [(R c hc).1, mkq_and, pop_mk _ (by omega), mWo_eq]
  refine ⟨rfl, Nat.le_trans (cnq_mono n ?_) (R c hc).2⟩
  intro d _ h
  simp at h; exact h.1
/-- the key of a way on -/
def kk (w n p : Nat) (ba vi : Nat → Nat) (d : Nat) : Nat := mWo w n p ba vi d * 36 + d
theorem kk_key {w n p : Nat} {re : Nat → Nat} (R : RE w n p re) (hn : n ≤ 36) (ba vi : Nat → Nat) {c : Nat} (hc : c < n) : tKey p (mkq (oq ba vi) n) re c = kk w n p ba vi c := by
  rw [tKey, (re_pop R hn ba vi hc).1, kk]
theorem kk_inj {w n p : Nat} {ba vi : Nat → Nat} {c d : Nat} (hn : n ≤ 36) (hc : c < n) (hd : d < n) (h : kk w n p ba vi c = kk w n p ba vi d) : c = d := by
  have : kk w n p ba vi c % 36 = kk w n p ba vi d % 36 := by rw [h]
  simp only [kk] at this; omega
def TL (w n p : Nat) (ba vi : Nat → Nat) (c fr : Nat) (wo : Nat → Nat) (cnt : Nat) : Prop := Srt wo fr cnt (fun x => ∃ d, d < n ∧ mWq w p ba vi c d = true ∧ x = kk w n p ba vi d)
theorem tOp_mk (ba vi : Nat → Nat) {n c : Nat} (hn : n ≤ 36) (hc : c < n) : tOp (mkq (oq ba vi) n) c = mkq (oq ba (va_up vi c 1)) n := by
  apply Nat.eq_of_testBit_eq
  intro i
  rw [tOp, Nat.testBit_and, mkq_tb, mkq_tb, Nat.testBit_xor, Nat.testBit_two_pow, show (18446744073709551615 : Nat) = 2 ^ 64 - 1 by decide, Nat.testBit_two_pow_sub_one]
  by_cases hi : i < n
  · by_cases e : c = i
    · subst e; simp [oq, up_s, show c < 64 by omega]
    · simp [e, hi, show i < 64 by omega, oq, up_n _ _ (show i ≠ c from fun z => e z.symm)]
  · simp [hi]
theorem tBk_mk (ba vi : Nat → Nat) {n c : Nat} (hc : c < n) (hb : ba c = 0) : mkq (oq ba vi) n ||| 2 ^ c = mkq (oq ba (va_up vi c 0)) n := by
  apply Nat.eq_of_testBit_eq
  intro i
  rw [Nat.testBit_or, mkq_tb, mkq_tb, Nat.testBit_two_pow]
  by_cases e : c = i
  · subst e; simp [oq, up_s, hc, hb]
  · simp [e, oq, up_n _ _ (show i ≠ c from fun z => e z.symm)]
/-- what entering c0 lists -/
theorem ent {w n p : Nat} {re : Nat → Nat} (R : RE w n p re) (hn : n ≤ 36) (ba vi : Nat → Nat) {c : Nat} (hc : c < n) (fr : Nat) (wo : Nat → Nat) :
    TL w n p ba vi c fr (tLs p (mkq (oq ba vi) n) re fr c wo) (tMn p (mkq (oq ba vi) n) re c) ∧ tMn p (mkq (oq ba vi) n) re c ≤ 8 ∧ ∀ x, x < fr ∨ fr + 8 ≤ x → tLs p (mkq (oq ba vi) n) re fr c wo x = wo x := by
  have hpop := re_pop R hn ba vi hc
  have hmn : tMn p (mkq (oq ba vi) n) re c = pop 64 (tLf p (mkq (oq ba vi) n) re c) := by
    simp only [tMn, tLf]; omega
  have htb : ∀ d, (tLf p (mkq (oq ba vi) n) re c).testBit d = (decide (d < n) && mWq w p ba vi c d) := by
    intro d
    rw [tLf, (R c hc).1, mkq_and, mkq_tb, mWq_eq]
  have hlt : tLf p (mkq (oq ba vi) n) re c < 2 ^ 36 := by
    have h1 : mkq (oq ba vi) n < 2 ^ n := mkq_lt _ _
    have h2 : (2 : Nat) ^ n ≤ 2 ^ 36 := Nat.pow_le_pow_right (by decide) hn
    have h3 : tLf p (mkq (oq ba vi) n) re c ≤ mkq (oq ba vi) n := Nat.and_le_right
    omega
  have h8 : tMn p (mkq (oq ba vi) n) re c ≤ 8 := Nat.min_le_left _ _
  obtain ⟨r1, r2⟩ := lW_sp p (mkq (oq ba vi) n) re fr _ _ hmn 9 0 (tLf p (mkq (oq ba vi) n) re c) wo hlt (fun _ h => h) (by omega) (by omega) (by omega) ⟨by intro a b _ h; omega, by intro a h; omega, by rintro x ⟨d, _, h1, h2, _⟩; rw [h1] at h2; cases h2⟩
  refine ⟨srt_eq r1 (fun x => ?_), h8, fun x hx => r2 x (by omega)⟩
  constructor
  · rintro ⟨d, h1, h2, h3⟩
    rw [htb] at h2; simp only [Bool.and_eq_true, decide_eq_true_eq] at h2
    exact ⟨d, h2.1, by simpa using h2.2, by rw [h3]; exact kk_key R hn ba vi h2.1⟩
  · rintro ⟨d, h1, h2, h3⟩
    exact ⟨d, by omega, by rw [htb, h2]; simp [h1], by rw [h3]; exact (kk_key R hn ba vi h1).symm⟩
/-- the reference's next way -/
def El (w n p : Nat) (ba vi : Nat → Nat) (fr t ah d : Nat) : Prop := mWq w p ba vi fr d = true ∧ (t = 0 ∨ ah < mWo w n p ba vi d ∨ mWo w n p ba vi d = ah ∧ t < d + 1)
def Bst (w n p : Nat) (ba vi : Nat → Nat) (fr t ah c bs fw : Nat) : Prop := (bs = 0 ∧ fw = 99 ∧ ∀ d, d < c → ¬ El w n p ba vi fr t ah d) ∨ (∃ b, bs = b + 1 ∧ b < c ∧ fw = mWo w n p ba vi b ∧ El w n p ba vi fr t ah b ∧ ∀ d, d < c → El w n p ba vi fr t ah d → kk w n p ba vi b ≤ kk w n p ba vi d)
theorem mNl_sp {w n p : Nat} (hn : n ≤ 36) (ba vi : Nat → Nat) (fr t ah : Nat) : ∀ m c bs fw, c ≤ n → n < c + m → Bst w n p ba vi fr t ah c bs fw → ∃ fw', Bst w n p ba vi fr t ah n (mNl w n p ba vi fr t ah m c bs fw) fw' := by
  intro m
  induction m with
  | zero => intro c bs fw h1 h2; omega
  | succ m ih =>
    intro c bs fw h1 h2 hB
    have hle := mWo_len w n p ba vi c
    rw [mNl]
    by_cases h : c < n
    · rw [if_pos h]
      have no : (¬ El w n p ba vi fr t ah c) → Bst w n p ba vi fr t ah (c + 1) bs fw := by
        intro hc
        rcases hB with ⟨b1, b2, b3⟩ | ⟨b, b1, b2, b3, b4, b5⟩
        · exact Or.inl ⟨b1, b2, fun d hd => by
            by_cases e : d = c
            · rw [e]; exact hc
            · exact b3 d (by omega)⟩
        · exact Or.inr ⟨b, b1, by omega, b3, b4, fun d hd he => by
            by_cases e : d = c
            · rw [e] at he; exact absurd he hc
            · exact b5 d (by omega) he⟩
      by_cases q1 : mWq w p ba vi fr c = true
      · rw [if_pos q1]
        by_cases q2 : (t = 0 ∨ ah < mWo w n p ba vi c ∨ mWo w n p ba vi c = ah ∧ t < c + 1) ∧ mWo w n p ba vi c < fw
        · rw [if_pos q2]
          refine ih (c + 1) (c + 1) _ (by omega) (by omega) (Or.inr ⟨c, rfl, by omega, rfl, ⟨q1, q2.1⟩, ?_⟩)
          intro d hd he
          by_cases e : d = c
          · rw [e]; exact Nat.le_refl _
          · rcases hB with ⟨b1, b2, b3⟩ | ⟨b, b1, b2, b3, b4, b5⟩
            · exact absurd he (b3 d (by omega))
            · have := b5 d (by omega) he
              have := q2.2
              simp only [kk] at *
              omega
        · rw [if_neg q2]
          refine ih (c + 1) bs fw (by omega) (by omega) ?_
          by_cases q3 : El w n p ba vi fr t ah c
          · have hf : ¬ mWo w n p ba vi c < fw := fun hc => q2 ⟨q3.2, hc⟩
            rcases hB with ⟨b1, b2, b3⟩ | ⟨b, b1, b2, b3, b4, b5⟩
            · omega
            · refine Or.inr ⟨b, b1, by omega, b3, b4, ?_⟩
              intro d hd he
              by_cases e : d = c
              · rw [e]; simp only [kk]; omega
              · exact b5 d (by omega) he
          · exact no q3
      · rw [if_neg q1]
        exact ih (c + 1) bs fw (by omega) (by omega) (no (fun hc => q1 hc.1))
    · rw [if_neg h]
      have e : c = n := by omega
      subst e
      exact ⟨fw, hB⟩
theorem nx_eq {w n p : Nat} (hn : n ≤ 36) (ba vi : Nat → Nat) {c fr cnt i t : Nat} {wo : Nat → Nat} (hT : TL w n p ba vi c fr wo cnt) (hi : i ≤ cnt) (ht : (t = 0 ∧ i = 0) ∨ (0 < t ∧ 0 < i ∧ t - 1 < n ∧ wo (fr + (i - 1)) = kk w n p ba vi (t - 1))) :
    (i < cnt → ∃ d, d < n ∧ mWq w p ba vi c d = true ∧ wo (fr + i) = kk w n p ba vi d ∧ mNx w n p ba vi c t = d + 1) ∧ (cnt ≤ i → mNx w n p ba vi c t = 0) := by
  obtain ⟨s1, s2, s3⟩ := hT
  obtain ⟨fw', hB⟩ := mNl_sp hn ba vi c t (if t = 0 then 0 else mWo w n p ba vi (t - 1)) (n + 1) 0 0 99 (by omega) (by omega) (Or.inl ⟨rfl, rfl, fun d hd => by omega⟩)
  have hEl : ∀ d, d < n → (El w n p ba vi c t (if t = 0 then 0 else mWo w n p ba vi (t - 1)) d ↔ mWq w p ba vi c d = true ∧ (i = 0 ∨ wo (fr + (i - 1)) < kk w n p ba vi d)) := by
    intro d hd
    unfold El
    rcases ht with ⟨t1, t2⟩ | ⟨t1, t2, t3, t4⟩
    · rw [t1, t2]; simp
    · rw [if_neg (by omega), t4]
      constructor
      · rintro ⟨h1, h2⟩
        refine ⟨h1, Or.inr ?_⟩
        simp only [kk]; omega
      · rintro ⟨h1, h2⟩
        refine ⟨h1, ?_⟩
        simp only [kk] at h2; omega
  constructor
  · intro hlt
    obtain ⟨d, hd1, hd2, hd3⟩ := s2 i hlt
    have hel : El w n p ba vi c t (if t = 0 then 0 else mWo w n p ba vi (t - 1)) d := (hEl d hd1).mpr ⟨hd2, by
      rcases Nat.eq_zero_or_pos i with e | e
      · exact Or.inl e
      · right; rw [← hd3]; exact s1 (i - 1) i (by omega) hlt⟩
    refine ⟨d, hd1, hd2, hd3, ?_⟩
    rw [mNx]
    rcases hB with ⟨b1, b2, b3⟩ | ⟨b, b1, b2, b3, b4, b5⟩
    · exact absurd hel (b3 d hd1)
    · rw [b1]
      have l1 := b5 d hd1 hel
      obtain ⟨g1, g2⟩ := (hEl b b2).mp b4
      obtain ⟨j, hj1, hj2⟩ := s3 (kk w n p ba vi b) ⟨b, b2, g1, rfl⟩
      have l2 : wo (fr + i) ≤ wo (fr + j) := by
        rcases Nat.lt_trichotomy j i with z | z | z
        · exfalso
          rcases g2 with g2 | g2
          · omega
          · rw [← hj2] at g2
            rcases Nat.lt_or_ge j (i - 1) with z2 | z2
            · have := s1 j (i - 1) z2 (by omega); omega
            · rw [show j = i - 1 by omega] at g2; omega
        · rw [z]; exact Nat.le_refl _
        · exact Nat.le_of_lt (s1 i j z hj1)
      rw [hd3, hj2] at l2
      rw [kk_inj hn b2 hd1 (Nat.le_antisymm l1 l2)]
  · intro hge
    rw [mNx]
    rcases hB with ⟨b1, b2, b3⟩ | ⟨b, b1, b2, b3, b4, b5⟩
    · exact b1
    · exfalso
      obtain ⟨g1, g2⟩ := (hEl b b2).mp b4
      obtain ⟨j, hj1, hj2⟩ := s3 (kk w n p ba vi b) ⟨b, b2, g1, rfl⟩
      rw [← hj2] at g2
      rcases g2 with g2 | g2
      · omega
      · rcases Nat.lt_or_ge j (i - 1) with z2 | z2
        · have := s1 j (i - 1) z2 (by omega); omega
        · rw [show j = i - 1 by omega] at g2; omega
