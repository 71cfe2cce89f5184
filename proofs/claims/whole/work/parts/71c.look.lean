/-! the look ahead is sound -/
theorem rC1_sp (src : Nat → Nat) : ∀ m k f x, 6 ≤ k + m → rC1 src m k f x = if k ≤ x ∧ x < 6 then src x else f x := by
  intro m
  induction m with
  | zero => intro k f x h; rw [rC1, if_neg (by omega)]
  | succ m ih =>
    intro k f x h
    rw [rC1]
    by_cases hk : k < 6
    · rw [if_pos hk, ih _ _ _ (by omega)]
      by_cases e : x = k
      · rw [if_neg (by omega), e, up_s, if_pos (by omega)]
      · rw [up_n _ _ e]
        by_cases e2 : k ≤ x ∧ x < 6
        · rw [if_pos e2, if_pos (by omega)]
        · rw [if_neg e2, if_neg (by omega)]
    · rw [if_neg hk, if_neg (by omega)]
theorem rC2_sp (n al : Nat) (co ro tr uc ur : Nat → Nat) (v : Nat) : ∀ m k (a b : Nat → Nat), n < k + m →
    (∀ c, (a c).testBit v = true → ((rC2 n al co ro tr uc ur m k (a, b)).1 c).testBit v = true) ∧ (∀ c, (b c).testBit v = true → ((rC2 n al co ro tr uc ur m k (a, b)).2 c).testBit v = true) ∧
    ∀ j, k ≤ j → j < n → tr j = 0 → (rCh al co ro uc ur j).testBit v = true → ((rC2 n al co ro tr uc ur m k (a, b)).1 (co j)).testBit v = true ∧ ((rC2 n al co ro tr uc ur m k (a, b)).2 (ro j)).testBit v = true := by
  intro m
  induction m with
  | zero => intro k a b h; exact ⟨fun c h => h, fun c h => h, fun j h1 h2 => by omega⟩
  | succ m ih =>
    intro k a b h
    rw [rC2]
    by_cases hk : k < n
    · rw [if_pos hk]
      dsimp only
      by_cases h0 : tr k = 0
      · rw [if_pos h0]
        obtain ⟨i1, i2, i3⟩ := ih (k + 1) (va_up a (co k) (a (co k) ||| rCh al co ro uc ur k)) (va_up b (ro k) (b (ro k) ||| rCh al co ro uc ur k)) (by omega)
        have up : ∀ (f : Nat → Nat) (i x c : Nat), (f c).testBit v = true → ((va_up f i (f i ||| x)) c).testBit v = true := by
          intro f i x c hc
          by_cases e : c = i
          · rw [e, up_s, Nat.testBit_or, ← e, hc]; rfl
          · rw [up_n _ _ e]; exact hc
        refine ⟨fun c hc => i1 c (up a _ _ c hc), fun c hc => i2 c (up b _ _ c hc), ?_⟩
        intro j hj1 hj2 hj3 hj4
        by_cases e : j = k
        · rw [e]
          rw [e] at hj4
          exact ⟨i1 _ (by rw [up_s, Nat.testBit_or, hj4]; simp), i2 _ (by rw [up_s, Nat.testBit_or, hj4]; simp)⟩
        · exact i3 j (by omega) hj2 hj3 hj4
      · rw [if_neg h0]
        obtain ⟨i1, i2, i3⟩ := ih (k + 1) a b (by omega)
        refine ⟨i1, i2, ?_⟩
        intro j hj1 hj2 hj3 hj4
        by_cases e : j = k
        · rw [e] at hj3; exact absurd hj3 h0
        · exact i3 j (by omega) hj2 hj3 hj4
    · rw [if_neg hk]
      exact ⟨fun c h => h, fun c h => h, fun j h1 h2 => by omega⟩
theorem rLw_sp (f : Nat → Nat) (v : Nat) : ∀ m k x, k ≤ 6 → 6 < k + m → rLw f v m k x = x + (cnq (fun i => (f i).testBit v) 6 - cnq (fun i => (f i).testBit v) k) := by
  intro m
  induction m with
  | zero => intro k x h1 h2; omega
  | succ m ih =>
    intro k x h1 h2
    rw [rLw]
    by_cases h : k < 6
    · rw [if_pos h, ih (k + 1) _ (by omega) (by omega), div_tb]
      have mono := cnq_up (fun i => (f i).testBit v) (k + 1) (6 - (k + 1))
      rw [show k + 1 + (6 - (k + 1)) = 6 by omega] at mono
      have e : cnq (fun i => (f i).testBit v) (k + 1) = cnq (fun i => (f i).testBit v) k + (if (f k).testBit v = true then 1 else 0) := rfl
      omega
    · have : k = 6 := by omega
      subst this
      rw [if_neg h]; omega
theorem rC3_sp (g sh : Nat) (st : S2) : ∀ m v, g < v + m → 1 ≤ v → rC3 g sh st m v ≠ 0 → ∃ u, 1 ≤ u ∧ u ≤ g ∧ (cnq (fun i => (st.1 i).testBit u) 6 < sh ∨ cnq (fun i => (st.2 i).testBit u) 6 < sh) := by
  intro m
  induction m with
  | zero => intro v h1 h2 h3; exact absurd rfl h3
  | succ m ih =>
    intro v h1 h2 h3
    rw [rC3] at h3
    by_cases h : v ≤ g
    · rw [if_pos h, rLw_sp _ _ 7 0 0 (by omega) (by omega), rLw_sp _ _ 7 0 0 (by omega) (by omega)] at h3
      by_cases q : 0 + (cnq (fun i => (st.1 i).testBit v) 6 - cnq (fun i => (st.1 i).testBit v) 0) < sh ∨ 0 + (cnq (fun i => (st.2 i).testBit v) 6 - cnq (fun i => (st.2 i).testBit v) 0) < sh
      · refine ⟨v, h2, h, ?_⟩
        have z1 : cnq (fun i => (st.1 i).testBit v) 0 = 0 := rfl
        have z2 : cnq (fun i => (st.2 i).testBit v) 0 = 0 := rfl
        omega
      · rw [if_neg q] at h3
        exact ih (v + 1) (by omega) (by omega) h3
    · rw [if_neg h] at h3; exact absurd rfl h3
/-- a line of g cells without repeats holds every number -/
theorem line_all {g : Nat} {f : Nat → Nat} (h1 : ∀ i, i < g → 1 ≤ f i ∧ f i ≤ g) (h2 : ∀ i j, i < j → j < g → f i ≠ f j) {v : Nat} (hv : 1 ≤ v ∧ v ≤ g) : ∃ i, i < g ∧ f i = v := by
  apply Classical.byContradiction
  intro hc
  have hp := pigeon g (fun u => decide (1 ≤ u ∧ u ≤ g) && decide (u ≠ v)) (g + 1) f (fun i hi => ⟨by have := h1 i hi; omega, by
    have a := h1 i hi
    have b : f i ≠ v := fun e => hc ⟨i, hi, e⟩
    simp [a, b]⟩) h2
  have e := cnq_rm (q := fun u => decide (1 ≤ u ∧ u ≤ g)) (d := v) (g + 1) (by omega) (by simp [hv])
  have e2 := cnv g (g + 1)
  omega
theorem cell_xy {w h x y : Nat} (hx : x < w) (hy : y < h) : x + w * y < w * h ∧ (x + w * y) % w = x ∧ (x + w * y) / w = y := by
  refine ⟨?_, ?_, ?_⟩
  · have : w * (y + 1) ≤ w * h := Nat.mul_le_mul_left _ hy
    rw [Nat.mul_add] at this; omega
  · rw [Nat.add_mul_mod_self_left, Nat.mod_eq_of_lt hx]
  · rw [Nat.add_mul_div_left _ _ (by omega), Nat.div_eq_of_lt hx, Nat.zero_add]
theorem lat_lines {w h n g : Nat} (hw1 : 1 ≤ w) (hh1 : 1 ≤ h) (hw : w ≤ 6) (hh : h ≤ 6) (hn : n = w * h) (hg : g = max w h) {F : Nat → Nat} (L : Lat w n g F) {v : Nat} (hv : 1 ≤ v ∧ v ≤ g) (qc qr : Nat → Bool) (hq : ∀ k, k < n → F k = v → qc (k % w) = true ∧ qr (k / w) = true) : min w h ≤ cnq qc 6 ∧ min w h ≤ cnq qr 6 := by
  rcases Nat.le_total h w with hc | hc
  · have hgw : g = w := by omega
    have ex : ∀ y, ∃ x, y < h → x < w ∧ F (x + w * y) = v := by
      intro y
      by_cases hy : y < h
      · obtain ⟨i, h1, h2⟩ := line_all (g := g) (f := fun x => F (x + w * y)) (fun i hi => (L _ (by rw [hn]; exact (cell_xy (by omega) hy).1)).1) (fun i j hij hj => by
          have a := cell_xy (w := w) (x := i) (by omega) hy
          have b := cell_xy (w := w) (x := j) (by omega) hy
          exact (L _ (by rw [hn]; exact a.1)).2 _ (by rw [hn]; exact b.1) ⟨by omega, Or.inr (by rw [a.2.2, b.2.2])⟩) hv
        exact ⟨i, fun _ => ⟨by omega, h2⟩⟩
      · exact ⟨0, fun z => absurd z hy⟩
    obtain ⟨f, hf⟩ := Classical.axiomOfChoice ex
    have key : ∀ y, y < h → f y < w ∧ F (f y + w * y) = v ∧ qc (f y) = true ∧ qr y = true := by
      intro y hy
      obtain ⟨a, b⟩ := hf y hy
      have c := cell_xy (w := w) a hy
      have d := hq _ (by rw [hn]; exact c.1) b
      rw [c.2.1, c.2.2] at d
      exact ⟨a, b, d⟩
    have p1 := pigeon h qc 6 f (fun i hi => ⟨by have := (key i hi).1; omega, (key i hi).2.2.1⟩) (fun i j hij hj e => by
      have a := key i (by omega)
      have b := key j hj
      have ca := cell_xy (w := w) a.1 (show i < h by omega)
      have cb := cell_xy (w := w) b.1 hj
      exact (L _ (by rw [hn]; exact ca.1)).2 _ (by rw [hn]; exact cb.1) ⟨fun z => by
        have : (f i + w * i) / w = (f j + w * j) / w := by rw [z]
        rw [ca.2.2, cb.2.2] at this; omega, Or.inl (by rw [ca.2.1, cb.2.1, e])⟩ (by rw [a.2.1, b.2.1]))
    have p2 := pigeon h qr 6 (fun y => y) (fun i hi => ⟨by omega, (key i hi).2.2.2⟩) (fun i j hij _ => by omega)
    omega
  · have hgh : g = h := by omega
    have ex : ∀ x, ∃ y, x < w → y < h ∧ F (x + w * y) = v := by
      intro x
      by_cases hx : x < w
      · obtain ⟨i, h1, h2⟩ := line_all (g := g) (f := fun y => F (x + w * y)) (fun i hi => (L _ (by rw [hn]; exact (cell_xy hx (by omega)).1)).1) (fun i j hij hj => by
          have a := cell_xy (w := w) (h := h) (x := x) (y := i) hx (by omega)
          have b := cell_xy (w := w) (h := h) (x := x) (y := j) hx (by omega)
          exact (L _ (by rw [hn]; exact a.1)).2 _ (by rw [hn]; exact b.1) ⟨fun z => by
            have : (x + w * i) / w = (x + w * j) / w := by rw [z]
            rw [a.2.2, b.2.2] at this; omega, Or.inl (by rw [a.2.1, b.2.1])⟩) hv
        exact ⟨i, fun _ => ⟨by omega, h2⟩⟩
      · exact ⟨0, fun z => absurd z hx⟩
    obtain ⟨f, hf⟩ := Classical.axiomOfChoice ex
    have key : ∀ x, x < w → f x < h ∧ F (x + w * f x) = v ∧ qc x = true ∧ qr (f x) = true := by
      intro x hx
      obtain ⟨a, b⟩ := hf x hx
      have c := cell_xy (w := w) hx a
      have d := hq _ (by rw [hn]; exact c.1) b
      rw [c.2.1, c.2.2] at d
      exact ⟨a, b, d⟩
    have p1 := pigeon w qr 6 f (fun i hi => ⟨by have := (key i hi).1; omega, (key i hi).2.2.2⟩) (fun i j hij hj e => by
      have a := key i (by omega)
      have b := key j hj
      have ca := cell_xy (w := w) (show i < w by omega) a.1
      have cb := cell_xy (w := w) hj b.1
      exact (L _ (by rw [hn]; exact ca.1)).2 _ (by rw [hn]; exact cb.1) ⟨fun z => by
        have : (i + w * f i) % w = (j + w * f j) % w := by rw [z]
        rw [ca.2.1, cb.2.1] at this; omega, Or.inr (by rw [ca.2.2, cb.2.2, e])⟩ (by rw [a.2.1, b.2.1]))
    have p2 := pigeon w qc 6 (fun y => y) (fun i hi => ⟨by omega, (key i hi).2.2.1⟩) (fun i j hij _ => by omega)
    omega
theorem lk_sound {w h n g sh : Nat} {co ro : Nat → Nat} (S : Sd w h n g sh co ro) {tr uc ur : Nat → Nat} (C : CS w n g tr uc ur) {pm qm : Nat → Nat} (hl : rLk n g sh (2 * 2 ^ g - 2) co ro tr uc ur pm qm ≠ 0) : Nn w n g tr = 0 := by
  have S' := S
  have C' := C
  obtain ⟨s1, s2, s3, s4, s5, s6, s7, s8⟩ := S
  obtain ⟨c1, c2, c3, c4, c5⟩ := C
  apply Nn_none
  intro F K
  rw [rLk] at hl
  obtain ⟨v, v1, v2, v3⟩ := rC3_sp _ _ _ (g + 1) 1 (by omega) (by omega) hl
  have r := rC2_sp n (2 * 2 ^ g - 2) co ro tr uc ur v (n + 1) 0 (rC1 uc 7 0 pm) (rC1 ur 7 0 qm) (by omega)
  obtain ⟨r1, r2, r3⟩ := r
  have hm6 : ∀ k, k < n → k % w < 6 ∧ k / w < 6 := fun k hk => ⟨by have := Nat.mod_lt k (show 0 < w by omega); omega, by have := (s8 k hk).2.2; omega⟩
  have := lat_lines s1 s2 s3 s4 s5 s6 K.1 ⟨v1, v2⟩ (fun i => ((rPs n (2 * 2 ^ g - 2) co ro tr uc ur pm qm).1 i).testBit v) (fun i => ((rPs n (2 * 2 ^ g - 2) co ro tr uc ur pm qm).2 i).testBit v) (by
    intro k hk hF
    rw [rPs]
    by_cases h0 : tr k = 0
    · have hch := (ch_iff S' C' hk h0 v).mpr ⟨⟨v1, v2⟩, fun d hd hs e => by
        have := K.2 d hd (by rw [e]; omega)
        exact (K.1 k hk).2 d hd hs (by rw [hF, this, e])⟩
      have := r3 k (by omega) hk h0 hch
      rw [(s8 k hk).1, (s8 k hk).2.1] at this
      exact this
    · have e : tr k = v := by rw [← hF]; exact (K.2 k hk h0).symm
      refine ⟨r1 _ ?_, r2 _ ?_⟩
      · rw [rC1_sp _ _ _ _ _ (by omega), if_pos ⟨Nat.zero_le _, (hm6 k hk).1⟩]
        exact (c1 _ v (hm6 k hk).1 v1).mpr ⟨k, hk, rfl, e⟩
      · rw [rC1_sp _ _ _ _ _ (by omega), if_pos ⟨Nat.zero_le _, (hm6 k hk).2⟩]
        exact (c2 _ v (hm6 k hk).2 v1).mpr ⟨k, hk, rfl, e⟩)
  rw [← s7] at this
  omega
