/-! the tour: step by step -/
def TI (w n p : Nat) (ba : Nat → Nat) (bg al : Nat) (pa wo wc wt : Nat → Nat) (op : Nat) (vi to : Nat → Nat) (k t : Nat) (VV : Nat → Nat → Nat) : Prop :=
  (∀ i, i < k → pa i = to i) ∧ op = mkq (oq ba vi) n ∧ cnq (oq ba vi) n + k = al ∧ (0 < k → VV (k - 1) = vi ∧ to 0 = bg) ∧
  (∀ j, j + 1 < k → VV j = va_up (VV (j + 1)) (to (j + 1)) 0) ∧
  (∀ j, j < k → to j < n ∧ ba (to j) = 0 ∧ VV j (to j) = 1 ∧ wc j ≤ 8 ∧ wt j ≤ wc j ∧ TL w n p ba (VV j) (to j) (j * 8) wo (wc j)) ∧
  (∀ j, j + 1 < k → 0 < wt j ∧ wo (j * 8 + (wt j - 1)) = kk w n p ba (VV j) (to (j + 1))) ∧
  (0 < k → (t = 0 ∧ wt (k - 1) = 0) ∨ (0 < t ∧ 0 < wt (k - 1) ∧ t - 1 < n ∧ oq ba vi (t - 1) = true ∧ wo ((k - 1) * 8 + (wt (k - 1) - 1)) = kk w n p ba vi (t - 1)))
def TO (r : Nat × Nat × T7) (r' : Nat × Nat × M3) : Prop := r.1 = r'.1 ∧ r.2.2.2.2.2.2.2.2 = r'.2.2.2.2 ∧ (r.1 = 0 → r.2.1 = 1 ∧ 0 < r'.2.1 ∧ r'.2.1 = r.2.2.2.2.2.2.2.1 ∧ ∀ i, i < r'.2.1 → r.2.2.1 i = r'.2.2.2.1 i) ∧ (r.1 ≠ 0 → r.2.1 = 0 ∧ r'.2.1 = 0)
theorem up_back {f : Nat → Nat} {c x : Nat} (h : f c = 0) : va_up (va_up f c x) c 0 = f := by
  funext j
  by_cases e : j = c
  · subst e; rw [up_s, h]
  · rw [up_n _ _ e, up_n _ _ e]
theorem oq_in {ba vi : Nat → Nat} {n c : Nat} (hc : c < n) (h : oq ba vi c = true) : cnq (oq ba (va_up vi c 1)) n + 1 = cnq (oq ba vi) n := by
  rw [← cnq_rm n hc h]
  congr 1
  apply cnq_congr
  intro d _
  by_cases e : d = c
  · subst e; simp [oq, up_s]
  · simp [oq, up_n _ _ e, e]
theorem oq_out {ba vi : Nat → Nat} {n c : Nat} (hc : c < n) (hb : ba c = 0) (hv : vi c = 1) : cnq (oq ba (va_up vi c 0)) n = cnq (oq ba vi) n + 1 := by
  have h1 : oq ba (va_up vi c 0) c = true := by simp [oq, up_s, hb]
  rw [← oq_in hc h1]
  congr 1
  apply cnq_congr
  intro d _
  by_cases e : d = c
  · subst e; simp [oq, up_s, hv]
  · simp [oq, up_n _ _ e]
theorem TL_wo {w n p : Nat} {ba vi : Nat → Nat} {c fr cnt : Nat} {wo wo' : Nat → Nat} (h : TL w n p ba vi c fr wo cnt) (e : ∀ a, a < cnt → wo' (fr + a) = wo (fr + a)) : TL w n p ba vi c fr wo' cnt := by
  obtain ⟨s1, s2, s3⟩ := h
  refine ⟨?_, ?_, ?_⟩
  · intro a b h1 h2; rw [e a (by omega), e b h2]; exact s1 a b h1 h2
  · intro a ha; rw [e a ha]; exact s2 a ha
  · intro x hx; obtain ⟨a, h1, h2⟩ := s3 x hx; exact ⟨a, h1, by rw [e a h1]; exact h2⟩
/-- going forward -/
theorem TI_fwd {w n p : Nat} {re : Nat → Nat} (R : RE w n p re) (hn : n ≤ 36) {ba : Nat → Nat} {bg al : Nat} {pa wo wc wt : Nat → Nat} {op : Nat} {vi to : Nat → Nat} {k t : Nat} {VV : Nat → Nat → Nat} (hk : 0 < k)
    (I : TI w n p ba bg al pa wo wc wt op vi to k t VV) {d : Nat} (hd : d < n) (hq : mWq w p ba vi (to (k - 1)) d = true) (hlt : wt (k - 1) < wc (k - 1)) (hw : wo ((k - 1) * 8 + wt (k - 1)) = kk w n p ba vi d) :
    TI w n p ba bg al (va_up pa k d) (tLs p (tOp op d) re (k * 8) d wo) (va_up wc k (tMn p (tOp op d) re d)) (va_up (va_up wt (k - 1) (wt (k - 1) + 1)) k 0) (tOp op d) (va_up vi d 1) (va_up to k d) (k + 1) 0 (va_up VV k (va_up vi d 1)) := by
  obtain ⟨i1, i2, i3, i4, i5, i6, i7, i8⟩ := I
  have ho : oq ba vi d = true := by rw [mWq_eq] at hq; simp at hq; exact hq.2
  have ho2 : ba d = 0 ∧ vi d = 0 := by simpa [oq] using ho
  obtain ⟨e1, e2, e3⟩ := ent R hn ba (va_up vi d 1) hd (k * 8) wo
  have hop : tOp op d = mkq (oq ba (va_up vi d 1)) n := by rw [i2]; exact tOp_mk ba vi hn hd
  rw [hop]
  have hlow : ∀ j a, j < k → a < 8 → tLs p (mkq (oq ba (va_up vi d 1)) n) re (k * 8) d wo (j * 8 + a) = wo (j * 8 + a) := fun j a h1 h2 => e3 _ (Or.inl (by omega))
  refine ⟨?_, rfl, ?_, ?_, ?_, ?_, ?_, ?_⟩
  · intro i hi
    by_cases e : i = k
    · rw [e, up_s, up_s]
    · rw [up_n _ _ e, up_n _ _ e]; exact i1 i (by omega)
  · have := oq_in hd ho; omega
  · intro _
    exact ⟨by rw [Nat.add_sub_cancel, up_s], by rw [up_n _ _ (by omega)]; exact (i4 hk).2⟩
  · intro j hj
    by_cases e : j + 1 = k
    · rw [up_n _ _ (by omega), e, up_s, up_s, up_back ho2.2, show j = k - 1 by omega]; exact (i4 hk).1
    · rw [up_n _ _ (by omega), up_n _ _ e, up_n _ _ e]; exact i5 j (by omega)
  · intro j hj
    by_cases e : j = k
    · rw [e]
      simp only [up_s]
      exact ⟨hd, ho2.1, trivial, e2, by omega, e1⟩
    · rw [up_n _ _ e, up_n _ _ e, up_n _ _ e, up_n _ _ e]
      obtain ⟨l1, l2, l3, l4, l5, l6⟩ := i6 j (by omega)
      refine ⟨l1, l2, l3, l4, ?_, TL_wo l6 (fun a ha => hlow j a (by omega) (by omega))⟩
      by_cases e2 : j = k - 1
      · rw [e2, up_s]; omega
      · rw [up_n _ _ e2]; exact l5
  · intro j hj
    rw [up_n _ _ (show j ≠ k by omega), up_n _ _ (show j ≠ k by omega)]
    obtain ⟨l1, l2, l3, l4, l5, l6⟩ := i6 j (by omega)
    by_cases e2 : j = k - 1
    · rw [e2, up_s, Nat.add_sub_cancel]
      refine ⟨by omega, ?_⟩
      rw [hlow (k - 1) _ (by omega) (by rw [e2] at l4; omega), hw, (i4 hk).1, show k - 1 + 1 = k by omega, up_s]
    · rw [up_n _ _ e2, up_n _ _ (show j + 1 ≠ k by omega)]
      obtain ⟨m1, m2⟩ := i7 j (by omega)
      exact ⟨m1, by rw [hlow j _ (by omega) (by omega)]; exact m2⟩
  · intro _
    rw [Nat.add_sub_cancel, up_s]
    exact Or.inl ⟨rfl, rfl⟩
/-- going back -/
theorem TI_bak {w n p : Nat} {ba : Nat → Nat} {bg al : Nat} {pa wo wc wt : Nat → Nat} {op : Nat} {vi to : Nat → Nat} {k t : Nat} {VV : Nat → Nat → Nat} (hk : 0 < k)
    (I : TI w n p ba bg al pa wo wc wt op vi to k t VV) :
    TI w n p ba bg al pa wo wc wt (op ||| 2 ^ pa (k - 1)) (va_up vi (to (k - 1)) 0) to (k - 1) (to (k - 1) + 1) VV := by
  obtain ⟨i1, i2, i3, i4, i5, i6, i7, i8⟩ := I
  obtain ⟨l1, l2, l3, l4, l5, l6⟩ := i6 (k - 1) (by omega)
  rw [(i4 hk).1] at l3
  have hV : 0 < k - 1 → VV (k - 1 - 1) = va_up vi (to (k - 1)) 0 := by
    intro h
    have := i5 (k - 1 - 1) (by omega)
    rw [show k - 1 - 1 + 1 = k - 1 by omega, (i4 hk).1] at this
    exact this
  refine ⟨fun i hi => i1 i (by omega), ?_, ?_, ?_, fun j hj => i5 j (by omega), fun j hj => i6 j (by omega), fun j hj => i7 j (by omega), ?_⟩
  · rw [i1 (k - 1) (by omega), i2]; exact tBk_mk ba vi l1 l2
  · have := oq_out l1 l2 l3; omega
  · intro h; exact ⟨hV h, (i4 hk).2⟩
  · intro h
    right
    obtain ⟨m1, m2⟩ := i7 (k - 1 - 1) (by omega)
    rw [show k - 1 - 1 + 1 = k - 1 by omega, hV h] at m2
    exact ⟨by omega, m1, l1, by simp [oq, l2, up_s], m2⟩
theorem mkq_zero {q : Nat → Bool} {n : Nat} : mkq q n = 0 ↔ cnq q n = 0 := by
  constructor
  · intro h
    apply cnq_none
    intro c hc
    have := mkq_tb q c n
    rw [h] at this
    simp [hc] at this
    exact this
  · intro h
    apply Nat.eq_of_testBit_eq
    intro i
    rw [mkq_tb]
    by_cases hi : i < n
    · simp [cnq_z n h i hi]
    · simp [hi]
theorem tour_eq {w n p : Nat} {re : Nat → Nat} (R : RE w n p re) (hn : n ≤ 36) (ba : Nat → Nat) (bg cl most al : Nat) (hbg : bg < n) (hal : al ≤ 36) : ∀ (m : Nat) (pa wo wc wt : Nat → Nat) (op : Nat) (vi to : Nat → Nat) (k t tt md : Nat) (VV : Nat → Nat → Nat), m + tt = 2 * most + 2 → md ≤ most → TI w n p ba bg al pa wo wc wt op vi to k t VV →
    TO (tR p re cl most (m + 1) tt (pa, wo, wc, wt, op, k, md)) (mS w n p ba bg cl most al m k t (vi, to, md)) := by
  intro m
  induction m with
  | zero =>
    intro pa wo wc wt op vi to k t tt md VV h1 h2 I
    rw [tR, mS, if_neg (by omega)]
    exact ⟨rfl, rfl, fun h => (by cases h), fun _ => ⟨rfl, rfl⟩⟩
  | succ m ih =>
    intro pa wo wc wt op vi to k t tt md VV h1 h2 I
    rw [tR, mS]
    dsimp only
    by_cases hk : 0 < k
    · rw [if_pos ⟨by omega, hk⟩, if_pos hk]
      have I' := I
      obtain ⟨i1, i2, i3, i4, i5, i6, i7, i8⟩ := I'
      obtain ⟨l1, l2, l3, l4, l5, l6⟩ := i6 (k - 1) (by omega)
      have hgo : op = 0 ↔ (k = al ∧ t = 0) := by
        rw [i2, mkq_zero]
        constructor
        · intro h
          refine ⟨by omega, ?_⟩
          rcases i8 hk with ⟨a1, _⟩ | ⟨_, _, a3, a4, _⟩
          · exact a1
          · rw [cnq_z n h _ a3] at a4; cases a4
        · intro h; omega
      have hcl : 0 < tCl p k re pa ↔ mGo w p (to (k - 1)) bg = 1 := by
        rw [tCl, i1 (k - 1) (by omega), i1 0 hk, (i4 hk).2, (R _ l1).1, div_tb, mkq_tb]
        simp only [gq, hbg, decide_true, Bool.true_and, decide_eq_true_eq]
        by_cases e : mGo w p (to (k - 1)) bg = 1
        · simp [e]
        · simp [e]
      by_cases hw : op = 0 ∧ (cl = 0 ∨ 0 < tCl p k re pa)
      · have hw2 : k = al ∧ t = 0 ∧ (cl = 0 ∨ mGo w p (to (k - 1)) bg = 1) := by
          obtain ⟨a, b⟩ := hgo.mp hw.1
          exact ⟨a, b, hw.2.imp id hcl.mp⟩
        rw [if_pos hw, if_pos hw2]
        exact ⟨rfl, rfl, fun _ => ⟨rfl, hk, rfl, fun i hi => i1 i hi⟩, fun h => absurd rfl h⟩
      · have hw2 : ¬ (k = al ∧ t = 0 ∧ (cl = 0 ∨ mGo w p (to (k - 1)) bg = 1)) := by
          rintro ⟨a, b, c⟩
          exact hw ⟨hgo.mpr ⟨a, b⟩, c.imp id hcl.mpr⟩
        rw [if_neg hw, if_neg hw2]
        rw [(i4 hk).1] at l6
        obtain ⟨n1, n2⟩ := nx_eq hn ba vi l6 l5 ((i8 hk).imp id (fun z => ⟨z.1, z.2.1, z.2.2.1, z.2.2.2.2⟩))
        by_cases hlt : wt (k - 1) < wc (k - 1)
        · obtain ⟨d, d1, d2, d3, d4⟩ := n1 hlt
          have hx : tNx k wo wc wt = d + 1 := by
            rw [tNx, if_pos ⟨by omega, hlt⟩, d3, kk]; omega
          have ht : tNt k wc wt = va_up wt (k - 1) (wt (k - 1) + 1) := by rw [tNt, if_pos ⟨by omega, hlt⟩]
          rw [hx, ht, d4, if_neg (show ¬ d + 1 = 0 by omega), if_neg (show ¬ d + 1 = 0 by omega)]
          by_cases hm : md < most
          · rw [if_pos hm, if_neg (show ¬ md = most by omega), Nat.add_sub_cancel]
            have ho : oq ba vi d = true := by rw [mWq_eq] at d2; simp at d2; exact d2.2
            have hk36 : k < 36 := by
              have := oq_in d1 ho; omega
            rw [tEn]
            dsimp only
            rw [if_pos hk36]
            exact ih _ _ _ _ _ _ _ (k + 1) 0 (tt + 1) (md + 1) _ (by omega) (by omega) (TI_fwd R hn hk I d1 d2 hlt d3)
          · rw [if_neg hm, if_pos (show md = most by omega)]
            exact ⟨rfl, rfl, fun h => (by cases h), fun _ => ⟨rfl, rfl⟩⟩
        · have hx : tNx k wo wc wt = 0 := by rw [tNx, if_neg (by omega)]
          have ht : tNt k wc wt = wt := by rw [tNt, if_neg (by omega)]
          rw [hx, ht, n2 (by omega), if_pos (show (0 : Nat) = 0 from rfl), if_pos (show (0 : Nat) = 0 from rfl)]
          exact ih _ _ _ _ _ _ _ (k - 1) _ (tt + 1) md VV (by omega) h2 (TI_bak hk I)
    · rw [if_neg (by omega), if_neg hk]
      exact ⟨rfl, rfl, fun h => (by cases h), fun _ => ⟨rfl, rfl⟩⟩
theorem rZ_sp : ∀ m k b f x, b ≤ k + m → rZ m k b f x = if k ≤ x ∧ x < b then 0 else f x := by
  intro m
  induction m with
  | zero => intro k b f x h; rw [rZ, if_neg (by omega)]
  | succ m ih =>
    intro k b f x h
    rw [rZ]
    by_cases hk : k < b
    · rw [if_pos hk, ih _ _ _ _ (by omega)]
      by_cases e : x = k
      · rw [if_neg (by omega), e, up_s, if_pos (by omega)]
      · rw [up_n _ _ e]
        by_cases e2 : k ≤ x ∧ x < b
        · rw [if_pos e2, if_pos (by omega)]
        · rw [if_neg e2, if_neg (by omega)]
    · rw [if_neg hk, if_neg (by omega)]
/-- the whole search, from an entered cell on -/
theorem tour_all {w n p : Nat} {re : Nat → Nat} (R : RE w n p re) (hn : n ≤ 36) (ba : Nat → Nat) (bg cl most : Nat) (hbg : bg < n) (hb0 : ba bg = 0) (pa wo wc wt vi to : Nat → Nat) :
    TO (tR p re cl most (2 * most + 3) 0 (tEn p re bg (pa, wo, wc, wt, mkq (fun c => decide (ba c = 0)) n, 0, 0))) (mSr w n p ba bg cl most vi to) := by
  have hv : ∀ c, c < n → rZ (n + 1) 0 n vi c = 0 := fun c hc => by rw [rZ_sp _ _ _ _ _ (by omega), if_pos (by omega)]
  have e0 : mkq (fun c => decide (ba c = 0)) n = mkq (oq ba (rZ (n + 1) 0 n vi)) n := mkq_congr (fun c hc => by simp [oq, hv c hc])
  have ho : oq ba (rZ (n + 1) 0 n vi) bg = true := by simp [oq, hb0, hv bg hbg]
  have hal : mOp n ba = cnq (oq ba (rZ (n + 1) 0 n vi)) n := by
    rw [mOp, mCt_0]; exact cnq_congr n (fun c hc => by simp [oq, hv c hc])
  obtain ⟨e1, e2, e3⟩ := ent R hn ba (va_up (rZ (n + 1) 0 n vi) bg 1) hbg 0 wo
  rw [tEn]
  dsimp only
  rw [if_pos (by omega), mSr, mV0, e0, tOp_mk ba _ hn hbg]
  refine tour_eq R hn ba bg cl most _ hbg (by rw [hal]; have := cnq_le (oq ba (rZ (n + 1) 0 n vi)) n; omega) (2 * most + 2) _ _ _ _ _ _ _ 1 0 0 0 (fun _ => va_up (rZ (n + 1) 0 n vi) bg 1) (by omega) (by omega) ?_
  refine ⟨?_, rfl, ?_, ?_, ?_, ?_, ?_, ?_⟩
  · intro i hi
    rw [show i = 0 by omega, up_s, up_s]
  · rw [hal]; exact oq_in hbg ho
  · intro _; exact ⟨rfl, up_s _ _ _⟩
  · intro j hj; omega
  · intro j hj
    rw [show j = 0 by omega]
    simp only [up_s]
    exact ⟨hbg, hb0, trivial, e2, by omega, e1⟩
  · intro j hj; omega
  · intro _; exact Or.inl ⟨rfl, up_s _ _ _⟩
