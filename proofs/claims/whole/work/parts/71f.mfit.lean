/-! the reference: what it leaves out has no filling -/
theorem Z_base {n g : Nat} {P : (Nat → Nat) → Nat} (hP : ∀ F G, (∀ k, k < n → F k = G k) → P F = P G) : ∀ d F G, d ≤ n → (∀ k, k < n - d → F k = G k) → Z n g P d F = Z n g P d G := by
  intro d
  induction d with
  | zero => intro F G _ h; rw [Z, Z]; exact hP F G (fun k hk => h k (by omega))
  | succ d ih =>
    intro F G hd h
    rw [Z, Z]
    apply sumg_congr
    intro v _ _
    apply ih _ _ (by omega)
    intro k hk
    by_cases e : k = n - 1 - d
    · rw [e, up_s, up_s]
    · rw [up_n _ _ e, up_n _ _ e]; exact h k (by omega)
theorem pigeon2 (f : Nat → Nat) (n : Nat) (q1 : Nat → Bool) : ∀ (m : Nat) (q : Nat → Bool), (∀ i, i < m → q1 i = true → f i < n ∧ q (f i) = true) → (∀ i j, i < j → j < m → q1 i = true → q1 j = true → f i ≠ f j) → cnq q1 m ≤ cnq q n := by
  intro m
  induction m with
  | zero => intro q _ _; exact Nat.zero_le _
  | succ m ih =>
    intro q h1 h2
    rw [cnq]
    by_cases hq : q1 m = true
    · rw [if_pos hq]
      have hk := h1 m (by omega) hq
      have := ih (fun c => q c && decide (c ≠ f m)) (fun i hi hqi => ⟨(h1 i (by omega) hqi).1, by
        have := h2 i m hi (by omega) hqi hq
        simp [(h1 i (by omega) hqi).2, this]⟩) (fun i j hi hj => h2 i j hi (by omega))
      have e := cnq_rm n hk.1 hk.2
      omega
    · rw [if_neg hq, Nat.add_zero]
      exact ih q (fun i hi => h1 i (by omega)) (fun i j hi hj => h2 i j hi (by omega))
theorem mF1_sp {w : Nat} {fl gi : Nat → Nat} {k v : Nat} : ∀ m i, w < i + m → i ≤ w → (mF1 w fl gi k v m i ≠ 0 ↔ ∀ j, i ≤ j → j < w → j + w * (k / w) ≠ k → mAtc fl gi k (j + w * (k / w)) ≠ v) := by
  intro m
  induction m with
  | zero => intro i h1 h2; omega
  | succ m ih =>
    intro i h1 h2
    rw [mF1]
    by_cases h : i < w
    · rw [if_pos h]
      by_cases q : i + w * (k / w) ≠ k ∧ mAtc fl gi k (i + w * (k / w)) = v
      · rw [if_pos q]
        constructor
        · intro z; exact absurd rfl z
        · intro z; exact absurd q.2 (z i (Nat.le_refl i) h q.1)
      · rw [if_neg q, ih (i + 1) (by omega) (by omega)]
        constructor
        · intro z j a b c
          by_cases e : j = i
          · rw [e] at c ⊢; exact fun e2 => q ⟨c, e2⟩
          · exact z j (by omega) b c
        · intro z j a b c; exact z j (by omega) b c
    · rw [if_neg h]
      exact ⟨fun _ j a b => by omega, fun _ => by omega⟩
theorem mF2_sp {w h : Nat} {fl gi : Nat → Nat} {k v : Nat} : ∀ m i, h < i + m → i ≤ h → (mF2 w h fl gi k v m i ≠ 0 ↔ (∀ j, i ≤ j → j < h → k % w + w * j ≠ k → mAtc fl gi k (k % w + w * j) ≠ v) ∧ (gi k = 0 ∨ gi k = v)) := by
  intro m
  induction m with
  | zero => intro i h1 h2; omega
  | succ m ih =>
    intro i h1 h2
    rw [mF2]
    by_cases h0 : i < h
    · rw [if_pos h0]
      by_cases q : k % w + w * i ≠ k ∧ mAtc fl gi k (k % w + w * i) = v
      · rw [if_pos q]
        constructor
        · intro z; exact absurd rfl z
        · intro z; exact absurd q.2 (z.1 i (Nat.le_refl i) h0 q.1)
      · rw [if_neg q, ih (i + 1) (by omega) (by omega)]
        constructor
        · intro z
          refine ⟨fun j a b c => ?_, z.2⟩
          by_cases e : j = i
          · rw [e] at c ⊢; exact fun e2 => q ⟨c, e2⟩
          · exact z.1 j (by omega) b c
        · intro z; exact ⟨fun j a b c => z.1 j (by omega) b c, z.2⟩
    · rw [if_neg h0]
      by_cases q : gi k = 0 ∨ gi k = v
      · rw [if_pos q]; exact ⟨fun _ => ⟨fun j a b => by omega, q⟩, fun _ => by omega⟩
      · rw [if_neg q]; exact ⟨fun z => absurd rfl z, fun z => absurd z.2 q⟩
theorem xy_cell {w k : Nat} : k % w + w * (k / w) = k := Nat.mod_add_div k w
theorem mFit_sp {w h : Nat} (hw1 : 1 ≤ w) (hw : w ≤ 6) (hh : h ≤ 6) {fl gi : Nat → Nat} {k v : Nat} (hk : k < w * h) : mFit w h fl gi k v ≠ 0 ↔ (∀ d, d < w * h → mSee w k d → mAtc fl gi k d ≠ v) ∧ (gi k = 0 ∨ gi k = v) := by
  have hkh : k / w < h := Nat.div_lt_of_lt_mul hk
  have hkw : k % w < w := Nat.mod_lt k (by omega)
  rw [mFit]
  have e1 := mF1_sp (w := w) (fl := fl) (gi := gi) (k := k) (v := v) 7 0 (by omega) (by omega)
  have e2 := mF2_sp (w := w) (h := h) (fl := fl) (gi := gi) (k := k) (v := v) 7 0 (by omega) (by omega)
  have both : (mF1 w fl gi k v 7 0 ≠ 0 ∧ mF2 w h fl gi k v 7 0 ≠ 0) ↔ (∀ d, d < w * h → mSee w k d → mAtc fl gi k d ≠ v) ∧ (gi k = 0 ∨ gi k = v) := by
    rw [e1, e2]
    constructor
    · rintro ⟨a, b, c⟩
      refine ⟨fun d hd hs => ?_, c⟩
      rcases hs.2 with e | e
      · have := b (d / w) (Nat.zero_le _) (Nat.div_lt_of_lt_mul hd)
        rw [e, xy_cell] at this
        exact this (fun z => hs.1 z.symm)
      · have := a (d % w) (Nat.zero_le _) (Nat.mod_lt d (by omega))
        rw [e, xy_cell] at this
        exact this (fun z => hs.1 z.symm)
    · rintro ⟨a, c⟩
      refine ⟨fun j _ hj hne => ?_, fun j _ hj hne => ?_, c⟩
      · have q := cell_xy (w := w) hj hkh
        exact a _ q.1 ⟨fun z => hne z.symm, Or.inr q.2.2.symm⟩
      · have q := cell_xy (w := w) hkw hj
        exact a _ q.1 ⟨fun z => hne z.symm, Or.inl q.2.1.symm⟩
  by_cases z : mF1 w fl gi k v 7 0 = 0
  · rw [if_pos z]
    constructor
    · intro q; exact absurd rfl q
    · intro q; exact absurd z (both.mpr q).1
  · rw [if_neg z]
    constructor
    · intro q; exact both.mp ⟨z, q⟩
    · intro q; exact (both.mpr q).2
/-- G fills up and begins with fl -/
def Bg (w n g : Nat) (gi fl : Nat → Nat) (u : Nat) (G : Nat → Nat) : Prop := Cp w n g gi G ∧ ∀ k, k < u → G k = fl k
theorem mFr_sp {w n : Nat} {fl gi : Nat → Nat} {k u b : Nat} : ∀ m c us, n < c + m → (mFr w n fl gi k u m c us).testBit b = true → us.testBit b = true ∨ ∃ d, d < n ∧ mSee w d k ∧ mAtc fl gi u d = b := by
  intro m
  induction m with
  | zero => intro c us _ h; exact Or.inl h
  | succ m ih =>
    intro c us hm h
    rw [mFr] at h
    by_cases hc : c < n
    · rw [if_pos hc] at h
      rcases ih _ _ (by omega) h with z | z
      · by_cases hs : mSee w c k
        · rw [if_pos hs, Nat.testBit_or, Nat.testBit_two_pow, Bool.or_eq_true, decide_eq_true_eq] at z
          rcases z with z | z
          · exact Or.inl z
          · exact Or.inr ⟨c, hc, hs, z⟩
        · rw [if_neg hs] at z; exact Or.inl z
      · exact Or.inr z
    · rw [if_neg hc] at h; exact Or.inl h
theorem free_in {w n g : Nat} (hg : g ≤ 6) {fl gi : Nat → Nat} {k u : Nat} (hk : k < n) {G : Nat → Nat} (B : Bg w n g gi fl u G) : (mFree w n g fl gi k u).testBit (G k) = true := by
  obtain ⟨C, hb⟩ := B
  have hG := (C.1 k hk).1
  have hno : (mFr w n fl gi k u (n + 1) 0 0).testBit (G k) = false := by
    cases hz : (mFr w n fl gi k u (n + 1) 0 0).testBit (G k) with
    | false => rfl
    | true =>
      exfalso
      rcases mFr_sp (n + 1) 0 0 (by omega) hz with z | ⟨d, d1, d2, d3⟩
      · simp at z
      · have e : G d = G k := by
          rw [← d3]
          by_cases hd : d < u
          · simp only [mAtc, if_pos hd]; exact hb d hd
          · simp only [mAtc, if_neg hd] at d3 ⊢
            exact C.2 d d1 (by omega)
        exact (C.1 d d1).2 k hk d2 e
  have base : ((2 * 2 ^ g - 2) &&& (mFr w n fl gi k u (n + 1) 0 0 ^^^ 4294967295)).testBit (G k) = true := by
    rw [Nat.testBit_and, al_tb, not32 _ (by omega), hno]; simp [hG]
  rw [mFree]
  by_cases h0 : gi k = 0
  · rw [if_pos h0]; exact base
  · rw [if_neg h0, Nat.testBit_and, base, C.2 k hk h0, Nat.testBit_two_pow]; simp
theorem mMy_sp {w n g : Nat} {fl gi : Nat → Nat} {u : Nat} : ∀ m c my x, n < c + m → mMy w n g fl gi u m c my x = if c ≤ x ∧ x < n then mFree w n g fl gi x u else my x := by
  intro m
  induction m with
  | zero => intro c my x h; rw [mMy, if_neg (by omega)]
  | succ m ih =>
    intro c my x h
    rw [mMy]
    by_cases hc : c < n
    · rw [if_pos hc, ih _ _ _ (by omega)]
      by_cases e : x = c
      · rw [if_neg (by omega), e, up_s, if_pos (by omega)]
      · rw [up_n _ _ e]
        by_cases e2 : c ≤ x ∧ x < n
        · rw [if_pos e2, if_pos (by omega)]
        · rw [if_neg e2, if_neg (by omega)]
    · rw [if_neg hc, if_neg (by omega)]
theorem mEl_sp {my : Nat → Nat} {fr sp many u : Nat} : ∀ m k (a b : Nat), many < k + m → k ≤ many → (∀ i, (a.testBit i = true → (mEl my fr sp many u m k (a, b)).1.testBit i = true) ∧ ∀ j, k ≤ j → j < many → u ≤ fr + sp * j → (my (fr + sp * j)).testBit i = true → (mEl my fr sp many u m k (a, b)).1.testBit i = true) ∧ (mEl my fr sp many u m k (a, b)).2 + cnq (fun j => decide (u ≤ fr + sp * j)) k = b + cnq (fun j => decide (u ≤ fr + sp * j)) many := by
  intro m
  induction m with
  | zero => intro k a b h1 h2; omega
  | succ m ih =>
    intro k a b h1 h2
    rw [mEl]
    by_cases hk : k < many
    · rw [if_pos hk]
      dsimp only
      have e : cnq (fun j => decide (u ≤ fr + sp * j)) (k + 1) = cnq (fun j => decide (u ≤ fr + sp * j)) k + (if decide (u ≤ fr + sp * k) = true then 1 else 0) := rfl
      by_cases hu : u ≤ fr + sp * k
      · rw [if_pos hu]
        obtain ⟨i1, i2⟩ := ih (k + 1) (a ||| my (fr + sp * k)) (b + 1) (by omega) (by omega)
        rw [if_pos (by simp [hu])] at e
        refine ⟨fun i => ⟨fun ha => (i1 i).1 (by rw [Nat.testBit_or, ha]; rfl), fun j j1 j2 j3 j4 => ?_⟩, by omega⟩
        by_cases ej : j = k
        · rw [ej] at j4; exact (i1 i).1 (by rw [Nat.testBit_or, j4]; simp)
        · exact (i1 i).2 j (by omega) j2 j3 j4
      · rw [if_neg hu]
        obtain ⟨i1, i2⟩ := ih (k + 1) a b (by omega) (by omega)
        rw [if_neg (by simp; omega)] at e
        refine ⟨fun i => ⟨(i1 i).1, fun j j1 j2 j3 j4 => ?_⟩, by omega⟩
        by_cases ej : j = k
        · rw [ej] at j3; exact absurd j3 hu
        · exact (i1 i).2 j (by omega) j2 j3 j4
    · rw [if_neg hk]
      have : k = many := by omega
      subst this
      exact ⟨fun i => ⟨fun h => h, fun j j1 j2 => by omega⟩, rfl⟩
theorem mBt_sp (x : Nat) : ∀ m k y, k ≤ 8 → 8 < k + m → mBt x m k y = y + (cnq (fun i => x.testBit i) 8 - cnq (fun i => x.testBit i) k) := by
  intro m
  induction m with
  | zero => intro k y h1 h2; omega
  | succ m ih =>
    intro k y h1 h2
    rw [mBt]
    by_cases h : k < 8
    · rw [if_pos h, ih (k + 1) _ (by omega) (by omega), div_tb]
      have mono := cnq_up (fun i => x.testBit i) (k + 1) (8 - (k + 1))
      rw [show k + 1 + (8 - (k + 1)) = 8 by omega] at mono
      have e : cnq (fun i => x.testBit i) (k + 1) = cnq (fun i => x.testBit i) k + (if x.testBit k = true then 1 else 0) := rfl
      omega
    · have : k = 8 := by omega
      subst this
      rw [if_neg h]; omega
theorem mEn_sp {w n g : Nat} (hg : g ≤ 6) {gi fl : Nat → Nat} {u : Nat} {G my : Nat → Nat} (B : Bg w n g gi fl u G) (hmy : ∀ k, u ≤ k → k < n → (my k).testBit (G k) = true) {fr sp many : Nat} (hm : many ≤ 6) (hin : ∀ j, j < many → fr + sp * j < n) (hds : ∀ i j, i < j → j < many → mSee w (fr + sp * i) (fr + sp * j)) : mEn my fr sp many u ≠ 0 := by
  rw [mEn]
  obtain ⟨i1, i2⟩ := mEl_sp (my := my) (fr := fr) (sp := sp) (many := many) (u := u) 7 0 0 0 (by omega) (by omega)
  have z0 : cnq (fun j => decide (u ≤ fr + sp * j)) 0 = 0 := rfl
  have z1 : cnq (fun i => (mEl my fr sp many u 7 0 (0, 0)).1.testBit i) 0 = 0 := rfl
  have hp := pigeon2 (fun j => G (fr + sp * j)) 8 (fun j => decide (u ≤ fr + sp * j)) many (fun i => (mEl my fr sp many u 7 0 (0, 0)).1.testBit i) (by
    intro j hj hq
    rw [decide_eq_true_eq] at hq
    have hG := (B.1.1 _ (hin j hj)).1
    exact ⟨by omega, (i1 _).2 j (Nat.zero_le _) hj hq (hmy _ hq (hin j hj))⟩) (by
    intro i j hij hj _ _
    exact (B.1.1 _ (hin i (by omega))).2 _ (hin j hj) (hds i j hij hj))
  rw [mBt_sp _ 9 0 0 (by omega) (by omega), if_pos (by omega)]
  omega
theorem mZr_sp {n : Nat} {my : Nat → Nat} : ∀ m c, (∀ k, c ≤ k → k < n → my k ≠ 0) → mZr n my m c ≠ 0 := by
  intro m
  induction m with
  | zero => intro c _; rw [mZr]; omega
  | succ m ih =>
    intro c h
    rw [mZr]
    by_cases hc : c < n
    · rw [if_pos hc, if_neg (h c (Nat.le_refl c) hc)]; exact ih _ (fun k a b => h k (by omega) b)
    · rw [if_neg hc]; omega
theorem mRo_sp {w h : Nat} {my : Nat → Nat} {u : Nat} : ∀ m y, (∀ k, k < h → mEn my (w * k) 1 w u ≠ 0) → mRo w h my u m y ≠ 0 := by
  intro m
  induction m with
  | zero => intro c _; rw [mRo]; omega
  | succ m ih =>
    intro c hh
    rw [mRo]
    by_cases hc : c < h
    · rw [if_pos hc, if_neg (hh c hc)]; exact ih _ hh
    · rw [if_neg hc]; omega
theorem mCo_sp {w h : Nat} {my : Nat → Nat} {u : Nat} : ∀ m x, (∀ k, k < w → mEn my k w h u ≠ 0) → mCo w h my u m x ≠ 0 := by
  intro m
  induction m with
  | zero => intro c _; rw [mCo]; omega
  | succ m ih =>
    intro c hh
    rw [mCo]
    by_cases hc : c < w
    · rw [if_pos hc, if_neg (hh c hc)]; exact ih _ hh
    · rw [if_neg hc]; omega
/-- where a filling begins with fl, the reference goes on -/
theorem mGn_sp {w h g : Nat} (hw : w ≤ 6) (hh : h ≤ 6) (hg : g ≤ 6) {gi fl : Nat → Nat} {u : Nat} {G my : Nat → Nat} (B : Bg w (w * h) g gi fl u G) : mGn w h g fl gi u my ≠ 0 := by
  have hmy : ∀ k, u ≤ k → k < w * h → (mMz w h g fl gi u my k).testBit (G k) = true := by
    intro k h1 h2
    rw [mMz, mMy_sp _ _ _ _ (by omega), if_pos ⟨h1, h2⟩]
    exact free_in hg h2 B
  rw [mGn, mG2]
  have a := mZr_sp (n := w * h) (my := mMz w h g fl gi u my) (w * h + 1) u (fun k h1 h2 e => by
    have := hmy k h1 h2; rw [e] at this; simp at this)
  have b := mRo_sp (w := w) (h := h) (my := mMz w h g fl gi u my) (u := u) 7 0 (fun y hy => mEn_sp hg B hmy hw (fun j hj => by
      rw [Nat.one_mul, Nat.add_comm]; exact (cell_xy hj hy).1) (fun i j hij hj => by
      rw [Nat.one_mul, Nat.one_mul, Nat.add_comm _ i, Nat.add_comm _ j]
      exact ⟨by omega, Or.inr (by rw [(cell_xy (show i < w by omega) hy).2.2, (cell_xy hj hy).2.2])⟩))
  have c := mCo_sp (w := w) (h := h) (my := mMz w h g fl gi u my) (u := u) 7 0 (fun x hx => mEn_sp hg B hmy hh (fun j hj => (cell_xy hx hj).1) (fun i j hij hj => by
      have q1 := cell_xy (w := w) hx (show i < h by omega)
      have q2 := cell_xy (w := w) hx hj
      exact ⟨fun z => by
        have : (x + w * i) / w = (x + w * j) / w := by rw [z]
        rw [q1.2.2, q2.2.2] at this; omega, Or.inl (by rw [q1.2.1, q2.2.1])⟩))
  rw [if_neg a, if_neg b]
  exact c
