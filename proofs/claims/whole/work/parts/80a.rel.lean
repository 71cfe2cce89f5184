/-! program and reference side by side: what holds of both between two calls -/
theorem tR_ok {pi : Nat} {re : Nat → Nat} {cl most : Nat} (hm : most ≤ 100000) : ∀ m t st, J7 st → J7 (tR pi re cl most m t st).2.2 ∧ (tR pi re cl most m t st).2.1 ≤ 1 := by
  intro m
  induction m with
  | zero => intro t st h; exact ⟨h, Nat.zero_le _⟩
  | succ m ih =>
    intro t st h
    rw [tR]
    split
    · split
      · exact ⟨h, Nat.le_refl 1⟩
      · split
        · exact ih _ _ (j7_bk (j7_nt h))
        · split
          · rename_i q
            refine ih _ _ (j7_en ?_ (j7_md (j7_nt h) (by omega)))
            rw [tNx]
            split <;> omega
          · exact ⟨j7_nt h, Nat.zero_le _⟩
    · exact ⟨h, Nat.zero_le _⟩
theorem mNx_len {w n p : Nat} (hn : n ≤ 36) (ba vi : Nat → Nat) (fr t : Nat) : mNx w n p ba vi fr t = 0 ∨ mNx w n p ba vi fr t - 1 < n := by
  obtain ⟨fw, hB⟩ := mNl_sp (w := w) (p := p) hn ba vi fr t (if t = 0 then 0 else mWo w n p ba vi (t - 1)) (n + 1) 0 0 99 (by omega) (by omega) (Or.inl ⟨rfl, rfl, fun d hd => by omega⟩)
  rcases hB with ⟨b1, _, _⟩ | ⟨b, b1, b2, _⟩
  · exact Or.inl b1
  · right; rw [mNx, b1]; omega
theorem mS_ok {w n p : Nat} (hn : n ≤ 36) {ba : Nat → Nat} {bg cl most al : Nat} : ∀ m k t vi to md, (∀ j, vi j ≤ 1) → (∀ j, to j < 36) → (∀ j, (mS w n p ba bg cl most al m k t (vi, to, md)).2.2.1 j ≤ 1) ∧ ∀ j, (mS w n p ba bg cl most al m k t (vi, to, md)).2.2.2.1 j < 36 := by
  have ul : ∀ (f : Nat → Nat) (i x b : Nat), (∀ j, f j < b) → x < b → ∀ j, va_up f i x j < b := by
    intro f i x b h1 h2 j
    rw [va_up]; split
    · exact h2
    · exact h1 j
  intro m
  induction m with
  | zero => intro k t vi to md h1 h2; exact ⟨h1, h2⟩
  | succ m ih =>
    intro k t vi to md h1 h2
    rw [mS]
    dsimp only
    split
    · split
      · exact ⟨h1, h2⟩
      · split
        · exact ih _ _ _ _ _ (fun j => Nat.le_of_lt_succ (ul vi _ 0 2 (fun j => Nat.lt_succ_of_le (h1 j)) (by omega) j)) h2
        · split
          · exact ⟨h1, h2⟩
          · rename_i q _
            refine ih _ _ _ _ _ (fun j => Nat.le_of_lt_succ (ul vi _ 1 2 (fun j => Nat.lt_succ_of_le (h1 j)) (by omega) j)) (ul to _ _ 36 h2 ?_)
            rcases mNx_len (w := w) (p := p) hn ba vi (to (k - 1)) t with z | z
            · exact absurd z q
            · omega
    · exact ⟨h1, h2⟩
def Tq (sfd ln tl : Nat) (pa to : Nat → Nat) : Prop := sfd ≤ 1 ∧ ln ≤ 36 ∧ tl ≤ 36 ∧ (sfd = 0 → tl = 0) ∧ (sfd = 1 → tl = ln ∧ ∀ i, i < ln → pa i = to i)
def Jq (pa wo wc wt : Nat → Nat) : Prop := (∀ k, pa k < 36) ∧ (∀ k, wo k < 4000) ∧ (∀ k, wc k ≤ 8) ∧ ∀ k, wt k ≤ 8
def Gq (w h : Nat) (fx gi : Nat → Nat) : Prop := (∀ k, k < w * h → fx k = gi k ∧ gi k ≤ max w h) ∧ (∀ k, fx k < 7) ∧ ∀ k, gi k ≤ 6
def Oq (w h : Nat) : Prop := 1 ≤ w ∧ w ≤ 6 ∧ 1 ≤ h ∧ h ≤ 6
def fq (w h : Nat) (ba : Nat → Nat) : Nat := mkq (fun c => decide (ba c = 0)) (w * h)
def Rel (w h f sc ln md sfd rfd : Nat) (pa wo wc wt rows fx le tr wi uc ur pm qm : Nat → Nat) (bg tl sp isf : Nat) (ba vi to rw gi fl fo my : Nat → Nat) : Prop :=
  Oq w h ∧ f = fq w h ba ∧ sc = bg ∧ bg < w * h ∧ (∀ k, ba k ≤ 1) ∧ Tq sfd ln tl pa to ∧ md = sp ∧ Jq pa wo wc wt ∧ (∀ k, to k < 36) ∧ (∀ k, vi k ≤ 1) ∧ (∀ k, rows k < 6) ∧ (∀ k, rw k ≤ 7) ∧
  Gq w h fx gi ∧ rfd = isf ∧ isf ≤ 1 ∧ (isf = 1 → ∀ k, k < w * h → le k = fo k) ∧ Iv (tr, uc, ur, wi, pm, qm) ∧ W7 (tr, uc, ur, wi, pm, qm) ∧ (∀ k, fl k ≤ 7) ∧ ∀ k, my k < 128
theorem oq36 {w h : Nat} (O : Oq w h) : w * h ≤ 36 ∧ 1 ≤ w * h := ⟨Nat.mul_le_mul O.2.1 O.2.2.2, Nat.mul_pos O.1 O.2.2.1⟩
theorem fq_lt {w h : Nat} (O : Oq w h) (ba : Nat → Nat) : fq w h ba < 2 ^ 36 :=
  Nat.lt_of_lt_of_le (mkq_lt _ _) (Nat.pow_le_pow_right (by decide) (oq36 O).1)
theorem fq_bit {w h : Nat} (ba : Nat → Nat) {k : Nat} (hk : k < w * h) : fq w h ba / 2 ^ k % 2 = if ba k = 0 then 1 else 0 := by
  rw [div_tb, fq, mkq_tb]
  by_cases e : ba k = 0
  · simp [hk, e]
  · simp [hk, e]
theorem ce_n {w h i j : Nat} (hi : i < w) (hj : j < h) : i + w * j < w * h := (cell_xy hi hj).1
/-- a bar turned -/
theorem fq_turn {w h : Nat} {ba : Nat → Nat} {k on : Nat} (hk : k < w * h) (hb : ba k ≤ 1) (ho : on ≤ 1) (hne : ¬ ba k = on) : fq w h ba ^^^ 2 ^ k = fq w h (va_up ba k on) := by
  apply Nat.eq_of_testBit_eq
  intro i
  rw [Nat.testBit_xor, fq, fq, mkq_tb, mkq_tb, Nat.testBit_two_pow]
  by_cases e : i = k
  · subst e
    rw [up_s]
    by_cases e2 : ba i = 0
    · have : on = 1 := by omega
      simp [hk, e2, this]
    · have e3 : on = 0 := by omega
      simp [hk, e2, e3]
  · rw [up_n _ _ e]
    simp [show ¬ k = i from fun z => e z.symm]
theorem bar_iff {w h : Nat} {ba : Nat → Nat} {k on : Nat} (hk : k < w * h) (hb : ba k ≤ 1) (ho : on ≤ 1) : fq w h ba / 2 ^ k % 2 = on ↔ ¬ ba k = on := by
  rw [fq_bit ba hk]
  split <;> omega
theorem gI_one {w h : Nat} {ba : Nat → Nat} {go : GS → Nat × GS} {c : Nat} {up : Int32} (hg : ∀ st, ¬ (go st).1 = 0 → nI (go st).2.2.2 = up + 1) : ∀ m x st, ¬ (gI w h ba go c m x st).1 = 0 → nI (gI w h ba go c m x st).2.2.2 = up + 1 := by
  intro m
  induction m with
  | zero => intro x st z; exact absurd rfl z
  | succ m ih =>
    intro x st z
    rw [gI] at z ⊢
    split at z
    · exact absurd rfl z
    · rename_i q1
      rw [if_neg q1]
      split at z
      · rename_i q2
        rw [if_pos q2]; exact ih _ _ z
      · rename_i q2
        rw [if_neg q2]
        split at z
        · rename_i q3
          rw [if_pos q3]; exact ih _ _ z
        · rename_i q3
          rw [if_neg q3]; exact hg _ z
theorem gP_one {w h : Nat} {ba : Nat → Nat} {up : Int32} : ∀ d st, ¬ (gP w h ba up d st).1 = 0 → nI (gP w h ba up d st).2.2.2 = up + 1 := by
  intro d
  induction d with
  | zero =>
    intro st z
    rw [gP] at z ⊢
    dsimp only at z ⊢
    by_cases q : nI (st.2.2 + 1) = up + 1
    · exact q
    · rw [if_neg q] at z; exact absurd rfl z
  | succ d ih =>
    intro st z
    rw [gP] at z ⊢
    exact gI_one ih _ _ _ z
theorem gT_one {w h : Nat} {ba : Nat → Nat} {k : Int32} (rw li : Nat → Nat) (z : ¬ (gT w h ba k rw li).1 = 0) : nI (gT w h ba k rw li).2.2.2 = k + 1 := by
  rw [gT] at z ⊢
  exact gI_one (fun st => gP_one _ st) _ _ _ z
section RR
variable {w h f sc ln md sfd rfd : Nat} {pa wo wc wt rows fx le tr wi uc ur pm qm : Nat → Nat} {bg tl sp isf : Nat} {ba vi to rw gi fl fo my : Nat → Nat}
theorem up_le1 {f : Nat → Nat} {i x : Nat} (hf : ∀ k, f k ≤ 1) (hx : x ≤ 1) : ∀ k, va_up f i x k ≤ 1 := by
  intro k; rw [va_up]; split
  · exact hx
  · exact hf k
theorem rel_bar (R : Rel w h f sc ln md sfd rfd pa wo wc wt rows fx le tr wi uc ur pm qm bg tl sp isf ba vi to rw gi fl fo my) {k on : Nat} (hk : k < w * h) (ho : on ≤ 1) (hne : ¬ ba k = on) :
    Rel w h (f ^^^ 2 ^ k) sc ln md 0 rfd pa wo wc wt rows fx le tr wi uc ur pm qm bg 0 sp isf (va_up ba k on) vi to rw gi fl fo my := by
  obtain ⟨O, r1, r2, r3, r4, r5, r⟩ := R
  refine ⟨O, ?_, r2, r3, up_le1 r4 ho, ⟨by omega, r5.2.1, by omega, fun _ => rfl, fun z => by omega⟩, r⟩
  rw [r1]; exact fq_turn hk (r4 k) ho hne
theorem rel_start (R : Rel w h f sc ln md sfd rfd pa wo wc wt rows fx le tr wi uc ur pm qm bg tl sp isf ba vi to rw gi fl fo my) {k : Nat} (hk : k < w * h) :
    Rel w h f k ln md 0 rfd pa wo wc wt rows fx le tr wi uc ur pm qm k 0 sp isf ba vi to rw gi fl fo my := by
  obtain ⟨O, r1, r2, r3, r4, r5, r⟩ := R
  exact ⟨O, r1, rfl, hk, r4, ⟨by omega, r5.2.1, by omega, fun _ => rfl, fun z => by omega⟩, r⟩
theorem rel_tourB (R : Rel w h f sc ln md sfd rfd pa wo wc wt rows fx le tr wi uc ur pm qm bg tl sp isf ba vi to rw gi fl fo my) :
    Rel w h f sc ln 0 0 rfd pa wo wc wt rows fx le tr wi uc ur pm qm bg 0 0 isf ba vi to rw gi fl fo my := by
  obtain ⟨O, r1, r2, r3, r4, r5, _, r⟩ := R
  exact ⟨O, r1, r2, r3, r4, ⟨by omega, r5.2.1, by omega, fun _ => rfl, fun z => by omega⟩, rfl, r⟩
theorem up_lt2 {f : Nat → Nat} {i x b : Nat} (hf : ∀ k, f k < b) (hx : x < b) : ∀ k, va_up f i x k < b := by
  intro k; rw [va_up]; split
  · exact hx
  · exact hf k
theorem re_lt {w h : Nat} (O : Oq w h) : ∀ i, eT w h i < 2 ^ 36 := by
  have h36 := (oq36 O).1
  have hX : ∀ p x y ty, ty < h → ∀ m tx acc, acc < 2 ^ 36 → rX p x y w ty m tx acc < 2 ^ 36 := by
    intro p x y ty hty m
    induction m with
    | zero => intro tx acc ha; exact ha
    | succ m ih =>
      intro tx acc ha
      rw [rX]
      by_cases q : tx ≤ x + 2 ∧ tx < w
      · rw [if_pos q]
        apply ih
        split
        · exact ha
        · have := ce_n q.2 hty
          exact Nat.or_lt_two_pow ha (Nat.pow_lt_pow_right (by decide) (by omega))
      · rw [if_neg q]; exact ha
  have hY : ∀ p x y m ty acc, acc < 2 ^ 36 → rY p x y w h m ty acc < 2 ^ 36 := by
    intro p x y m
    induction m with
    | zero => intro ty acc ha; exact ha
    | succ m ih =>
      intro ty acc ha
      rw [rY]
      by_cases q : ty ≤ y + 2 ∧ ty < h
      · rw [if_pos q]; exact ih _ _ (hX p x y ty q.2 _ _ _ ha)
      · rw [if_neg q]; exact ha
  have hP : ∀ x y m p re, (∀ i, re i < 2 ^ 36) → ∀ i, eP w h x y m p re i < 2 ^ 36 := by
    intro x y m
    induction m with
    | zero => intro p re hr; exact hr
    | succ m ih =>
      intro p re hr
      rw [eP]
      split
      · exact ih _ _ (up_lt2 hr (hY _ _ _ _ _ _ (by decide)))
      · exact hr
  have hE : ∀ y m x re, (∀ i, re i < 2 ^ 36) → ∀ i, eX w h y m x re i < 2 ^ 36 := by
    intro y m
    induction m with
    | zero => intro x re hr; exact hr
    | succ m ih =>
      intro x re hr
      rw [eX]
      split
      · exact ih _ _ (hP _ _ _ _ _ hr)
      · exact hr
  have hF : ∀ m y re, (∀ i, re i < 2 ^ 36) → ∀ i, eY w h m y re i < 2 ^ 36 := by
    intro m
    induction m with
    | zero => intro x re hr; exact hr
    | succ m ih =>
      intro x re hr
      rw [eY]
      split
      · exact ih _ _ (hE _ _ _ _ hr)
      · exact hr
  exact hF 7 0 _ (fun _ => by decide)
/-- a tour -/
theorem rel_tour (R : Rel w h f sc ln md sfd rfd pa wo wc wt rows fx le tr wi uc ur pm qm bg tl sp isf ba vi to rw gi fl fo my) {p0 cl most : Nat} (hp : p0 < 3) (hm : most ≤ 100000) (hb0 : ba bg = 0) {x : Nat × Nat × T7} (hx : x = tR p0 (eT w h) cl most (2 * most + 3) 0 (tEn p0 (eT w h) sc (pa, wo, wc, wt, f, 0, 0))) {y : Nat × Nat × M3} (hy : y = mSr w (w * h) p0 ba bg cl most vi to) :
    x.1 = y.1 ∧ Rel w h f sc x.2.2.2.2.2.2.2.1 x.2.2.2.2.2.2.2.2 x.2.1 rfd x.2.2.1 x.2.2.2.1 x.2.2.2.2.1 x.2.2.2.2.2.1 rows fx le tr wi uc ur pm qm bg y.2.1 y.2.2.2.2 isf ba y.2.2.1 y.2.2.2.1 rw gi fl fo my := by
  obtain ⟨O, r1, r2, r3, r4, r5, _, r7, r8, r9, r⟩ := R
  have h36 := oq36 O
  have T := tour_all (re_all O.1 O.2.1 O.2.2.2 hp) h36.1 ba bg cl most r3 hb0 pa wo wc wt vi to
  have e : mkq (fun c => decide (ba c = 0)) (w * h) = f := r1.symm
  rw [e, ← r2, ← hx] at T
  rw [r2, ← hy] at T
  have J := tR_ok (pi := p0) (re := eT w h) (cl := cl) hm (2 * most + 3) 0 _ (j7_en (pi := p0) (re := eT w h) (c0 := sc) (by omega) (j7_mk pa wo wc wt f 0 0 r7.1 r7.2.1 r7.2.2.1 r7.2.2.2 (by rw [r1]; exact fq_lt O ba) (by omega) (by omega)))
  rw [← hx] at J
  obtain ⟨⟨j1, j2, j3, j4, j5, j6, j7⟩, j8⟩ := J
  have M := mS_ok (w := w) (p := p0) h36.1 (ba := ba) (bg := bg) (cl := cl) (most := most) (al := mOp (w * h) ba) (2 * most + 2) 1 0 (mV0 (w * h) bg vi) (va_up to 0 bg) 0 (by
    intro j
    rw [mV0, va_up]
    split
    · omega
    · rw [rZ_sp _ _ _ _ _ (by omega)]; split
      · omega
      · exact r9 j) (by
    intro j
    rw [va_up]; split
    · omega
    · exact r8 j)
  have ey : mS w (w * h) p0 ba bg cl most (mOp (w * h) ba) (2 * most + 2) 1 0 (mV0 (w * h) bg vi, va_up to 0 bg, 0) = y := hy.symm
  rw [ey] at M
  obtain ⟨t1, t2, t3, t4⟩ := T
  refine ⟨t1, O, r1, r2, r3, r4, ⟨j8, j6, ?_, ?_, ?_⟩, t2, ⟨j1, j2, j3, j4⟩, M.2, M.1, r⟩
  · by_cases z : x.1 = 0
    · rw [(t3 z).2.2.1]; exact j6
    · rw [(t4 z).2]; omega
  · intro z
    by_cases z2 : x.1 = 0
    · have := (t3 z2).1; omega
    · exact (t4 z2).2
  · intro z
    by_cases z2 : x.1 = 0
    · obtain ⟨_, _, q3, q4⟩ := t3 z2
      exact ⟨q3, fun i hi => q4 i (by omega)⟩
    · have := (t4 z2).1; omega
theorem nI36 : ∀ n, n < 37 → (nI n).toInt = n := by decide +kernel
theorem at_eq (T : Tq sfd ln tl pa to) (x : Int32) : tAt sfd ln pa x = mAt tl to x := by
  obtain ⟨t1, t2, t3, t4, t5⟩ := T
  rw [tAt, mAt]
  by_cases z : sfd = 0
  · rw [if_pos (Or.inl z), t4 z, if_pos]
    by_cases q : x < 0
    · exact Or.inl q
    · exact Or.inr (Int32.not_lt.mp q)
  · obtain ⟨e1, e2⟩ := t5 (by omega)
    rw [e1]
    by_cases q : x < 0 ∨ nI ln ≤ x
    · rw [if_pos (Or.inr q), if_pos q]
    · rw [if_neg (by rintro (a | a); exact z a; exact q a), if_neg q, e2]
      have q1 : ¬ x < 0 := fun a => q (Or.inl a)
      have q2 : ¬ nI ln ≤ x := fun a => q (Or.inr a)
      rw [Int32.lt_iff_toInt_lt, Int32.toInt_zero] at q1
      rw [Int32.le_iff_toInt_le, nI36 ln (by omega)] at q2
      show x.toInt.toNat < ln
      omega
theorem ways_eq (O : Oq w h) {p0 c0 : Nat} (hp : p0 < 3) (hc : c0 < w * h) : pop 64 (eT w h (p0 * 36 + c0) &&& fq w h ba) = mWy w (w * h) p0 ba c0 := by
  have R := re_all O.1 O.2.1 O.2.2.2 hp c0 hc
  rw [R.1, fq, mkq_and, pop_mk _ (by have := (oq36 O).1; omega), mWy, mCt_0]
  apply cnq_congr
  intro c _
  simp only [mVq, gq]
  by_cases e1 : ba c = 0 <;> by_cases e2 : mGo w p0 c0 c = 1 <;> simp [e1, e2]
theorem i32_n1 : ∀ c : Nat, c < 46656 → ¬ nI c = -1 ∧ ¬ nI c = -2 := by
  intro c hc
  have e : (nI c).toInt = (c : Int) := Int32.toInt_ofNat_of_lt (by omega)
  constructor
  · intro z
    rw [z] at e
    have : (-1 : Int32).toInt = -1 := by decide
    omega
  · intro z
    rw [z] at e
    have : (-2 : Int32).toInt = -2 := by decide
    omega
/-- queens -/
theorem rel_queens (R : Rel w h f sc ln md sfd rfd pa wo wc wt rows fx le tr wi uc ur pm qm bg tl sp isf ba vi to rw gi fl fo my) (li : Nat → Nat) :
    (qsP w h f (-1) w (rows, 0)).2.2 = (gT w h ba (-2) rw li).2.2.2 ∧ Rel w h f sc ln md sfd rfd pa wo wc wt (qsP w h f (-1) w (rows, 0)).2.1 fx le tr wi uc ur pm qm bg tl sp isf ba vi to (gT w h ba (-2) rw li).2.1 gi fl fo my := by
  obtain ⟨O, r1, r2, r3, r4, r5, r6, r7, r8, r9, r10, r11, r⟩ := R
  have Q := queens_eq (w := w) (h := h) (f := f) (ba := ba) r1 rfl O.1 O.2.1 O.2.2.2 (way := -1) (up := -2) (fun c hc => ⟨fun z => absurd z (i32_n1 c hc).1, fun z => absurd z (i32_n1 c hc).2⟩) rows rw li
  refine ⟨Q.2.2.1, O, r1, r2, r3, r4, r5, r6, r7, r8, r9, (qsP_1 O.2.2.2 w _ r10).2, ?_, r⟩
  rw [gT]
  exact gI_le O.2.2.2 (fun st hs => gP_le O.2.2.2 _ st hs) _ _ _ (by omega) (fun k => by
    dsimp only; rw [va_up]; split
    · omega
    · exact r11 k)
theorem rel_queen (R : Rel w h f sc ln md sfd rfd pa wo wc wt rows fx le tr wi uc ur pm qm bg tl sp isf ba vi to rw gi fl fo my) (li : Nat → Nat) {k : Int32} (h0 : ¬ nI 0 = k + 1) {cl : Nat} (hcl : cl < w) :
    (if (qsP w h f k w (rows, 0)).1 = 0 then -1 else nI ((qsP w h f k w (rows, 0)).2.1 cl)) = (if nI (gT w h ba k rw li).2.2.2 = k + 1 then nI ((gT w h ba k rw li).2.2.1 cl) - 1 else -1) ∧ Rel w h f sc ln md sfd rfd pa wo wc wt (qsP w h f k w (rows, 0)).2.1 fx le tr wi uc ur pm qm bg tl sp isf ba vi to (gT w h ba k rw li).2.1 gi fl fo my := by
  obtain ⟨O, r1, r2, r3, r4, r5, r6, r7, r8, r9, r10, r11, r⟩ := R
  have Q := queens_eq (w := w) (h := h) (f := f) (ba := ba) r1 rfl O.1 O.2.1 O.2.2.2 (way := k) (up := k) (fun c hc => Iff.rfl) rows rw li
  obtain ⟨o1, o2, o3, o4, o5, o6, o7⟩ := Q
  refine ⟨?_, O, r1, r2, r3, r4, r5, r6, r7, r8, r9, (qsP_1 O.2.2.2 w _ r10).2, ?_, r⟩
  · by_cases z : (qsP w h f k w (rows, 0)).1 = 0
    · rw [if_pos z, if_neg]
      have := gI_ne (w := w) (h := h) (ba := ba) (go := gP w h ba k (w - 1)) (c := 0) (up := k) (fun st a b => gP_ne _ st a b) (h + 1) 0 (va_up rw 0 0, li, 0) h0
      exact this (by rw [o1] at z; exact z)
    · have z1 : (qsP w h f k w (rows, 0)).1 = 1 := by omega
      rw [if_neg z, if_pos, o7 z1 cl hcl, nI_s]
      · rw [Int32.add_sub_cancel]
      · have key := gT_one (w := w) (h := h) (ba := ba) (k := k) rw li (by rw [← o1]; exact z)
        exact key
  · rw [gT]
    exact gI_le O.2.2.2 (fun st hs => gP_le O.2.2.2 _ st hs) _ _ _ (by omega) (fun k => by
      dsimp only; rw [va_up]; split
      · omega
      · exact r11 k)
theorem rel_given (R : Rel w h f sc ln md sfd rfd pa wo wc wt rows fx le tr wi uc ur pm qm bg tl sp isf ba vi to rw gi fl fo my) {k v : Nat} (hv : v ≤ max w h) :
    Rel w h f sc ln md sfd 0 pa wo wc wt rows (va_up fx k v) le tr wi uc ur pm qm bg tl sp 0 ba vi to rw (va_up gi k v) fl fo my := by
  obtain ⟨O, r1, r2, r3, r4, r5, r6, r7, r8, r9, r10, r11, r12, r13, r14, r15, r⟩ := R
  have h6 : max w h ≤ 6 := Nat.max_le.mpr ⟨O.2.1, O.2.2.2⟩
  refine ⟨O, r1, r2, r3, r4, r5, r6, r7, r8, r9, r10, r11, ⟨?_, up_lt2 r12.2.1 (by omega), ?_⟩, rfl, by omega, fun z => by omega, r⟩
  · intro j hj
    by_cases e : j = k
    · rw [e, up_s, up_s]; exact ⟨rfl, hv⟩
    · rw [up_n _ _ e, up_n _ _ e]; exact r12.1 j hj
  · intro j
    rw [va_up]; split
    · omega
    · exact r12.2.2 j
theorem sd_of (O : Oq w h) : Sd w h (w * h) (max w h) (min w h) (cR w h).1 (cR w h).2 := ⟨O.1, O.2.2.1, O.2.1, O.2.2.2, rfl, rfl, rfl, (cR_sp O.1 O.2.1 O.2.2.2).1⟩
theorem al_lt (O : Oq w h) : 2 * 2 ^ max w h - 2 < 128 := by
  have h6 : max w h ≤ 6 := Nat.max_le.mpr ⟨O.2.1, O.2.2.2⟩
  have : (2 : Nat) ^ max w h ≤ 2 ^ 6 := Nat.pow_le_pow_right (by decide) h6
  omega
theorem mMz_128 (O : Oq w h) {fl gi my : Nat → Nat} {u : Nat} (hmy : ∀ k, my k < 128) : ∀ k, mMz w h (max w h) fl gi u my k < 128 := by
  intro k
  have ha := al_lt O
  rw [mMz, mMy_sp _ _ _ _ (by omega)]
  split
  · rw [mFree]
    split
    · exact Nat.lt_of_le_of_lt Nat.and_le_left ha
    · exact Nat.lt_of_le_of_lt Nat.and_le_left (Nat.lt_of_le_of_lt Nat.and_le_left ha)
  · exact hmy k
theorem fT_f7 (O : Oq w h) {gi fl fo my : Nat → Nat} (most kp : Nat) (hfl : ∀ k, fl k ≤ 7) (hmy : ∀ k, my k < 128) : (∀ k, (fT w h (max w h) gi most kp fl fo my).1 k ≤ 7) ∧ ∀ k, (fT w h (max w h) gi most kp fl fo my).2.2.1 k < 128 := by
  have h6 : max w h ≤ 6 := Nat.max_le.mpr ⟨O.2.1, O.2.2.2⟩
  have z : ∀ k, va_up fl 0 0 k ≤ 7 := fun k => by
    rw [va_up]; split
    · omega
    · exact hfl k
  rw [fT]
  split
  · exact ⟨hfl, mMz_128 O hmy⟩
  · split
    · exact ⟨z, mMz_128 O hmy⟩
    · have := fI_le (w := w) (h := h) (gi := gi) (go := fP w h (max w h) gi most kp (w * h - 1)) (c := 0) h6 (fun st hs => fP_le h6 _ st hs) (max w h + 1) 0 (va_up fl 0 0, fo, mMz w h (max w h) fl gi 0 my, 0) (by omega) ⟨z, mMz_128 O hmy⟩
      exact this
theorem fI_fo {g : Nat} {go : FS → Nat × FS} {c : Nat} (hg : ∀ st, (go st).2.2.1 = st.2.1) : ∀ m x st, (fI w h g gi go c m x st).2.2.1 = st.2.1 := by
  intro m
  induction m with
  | zero => intro x st; rfl
  | succ m ih =>
    intro x st
    rw [fI]
    split
    · rfl
    · split
      · rw [ih]
      · split
        · rw [ih]
        · split
          · rw [ih, hg]
          · rw [hg]
theorem fP_fo {g most : Nat} : ∀ d st, (fP w h g gi most 0 d st).2.2.1 = st.2.1 := by
  intro d
  induction d with
  | zero => intro st; rw [fP]; dsimp only; rw [if_neg (by omega)]
  | succ d ih => intro st; rw [fP, fI_fo ih]
theorem fT_fo {g most : Nat} : (fT w h g gi most 0 fl fo my).2.1 = fo := by
  rw [fT]
  split
  · rfl
  · split
    · rfl
    · rw [fI_fo (fun st => fP_fo _ st)]
/-- how many fillings -/
theorem rel_fills (R : Rel w h f sc ln md sfd rfd pa wo wc wt rows fx le tr wi uc ur pm qm bg tl sp isf ba vi to rw gi fl fo my) {most : Nat} {x : Nat × S6} (hx : x = sUp (w * h) (max w h) (min w h) (2 * 2 ^ max w h - 2) fx (cR w h).1 (cR w h).2 most (tr, uc, ur, wi, pm, qm)) {y : FS} (hy : y = fT w h (max w h) gi most 0 fl fo my) :
    x.1 = y.2.2.2 ∧ Rel w h f sc ln md sfd rfd pa wo wc wt rows fx le x.2.1 x.2.2.2.2.1 x.2.2.1 x.2.2.2.1 x.2.2.2.2.2.1 x.2.2.2.2.2.2 bg tl sp isf ba vi to rw gi y.1 y.2.1 y.2.2.1 := by
  obtain ⟨O, r1, r2, r3, r4, r5, r6, r7, r8, r9, r10, r11, r12, r13, r14, r15, r16, r17, r18, r19⟩ := R
  have h6 : max w h ≤ 6 := Nat.max_le.mpr ⟨O.2.1, O.2.2.2⟩
  have h36 := oq36 O
  have ha := al_lt O
  have e1 := sUp_sp (sd_of O) h36.1 (fx := fx) (fun k hk => by rw [(r12.1 k hk).1]; exact (r12.1 k hk).2) (tr := tr) (wi := wi) (pm := pm) (qm := qm) r16.2.1 r16.2.2.1 most
  have e2 := fT_sp (n := w * h) O.1 O.2.2.1 O.2.1 O.2.2.2 h6 rfl gi most 0 fl fo my
  have eN : Nn w (w * h) (max w h) fx = Nn w (w * h) (max w h) gi := Nn_eq (fun k hk => (r12.1 k hk).1)
  have f7 := fT_f7 O (gi := gi) (fo := fo) most 0 r18 r19
  rw [← hx] at e1
  rw [← hy] at e2 f7
  have efo : y.2.1 = fo := by rw [hy]; exact fT_fo
  have ok : Iv x.2 ∧ W7 x.2 := by
    rw [hx, sUp]
    split
    · exact ⟨r16, r17⟩
    · split
      · exact ⟨(iv_lg r12.2.1 r16).2, w7_lg r12.2.1 r17⟩
      · exact ⟨(cF_ok h6 ha _ _ _ (by omega) (iv_lg r12.2.1 r16).2).2, w7_cF h6 _ _ _ (w7_lg r12.2.1 r17)⟩
  refine ⟨by rw [e1, e2.1, eN], O, r1, r2, r3, r4, r5, r6, r7, r8, r9, r10, r11, r12, r13, r14, ?_, ok.1, ok.2, f7.1, f7.2⟩
  rw [efo]; exact r15
/-- filling up -/
theorem rel_fill (R : Rel w h f sc ln md sfd rfd pa wo wc wt rows fx le tr wi uc ur pm qm bg tl sp isf ba vi to rw gi fl fo my) {x : Nat × (Nat → Nat) × S6} (hx : x = sFl (w * h) (max w h) (min w h) (2 * 2 ^ max w h - 2) fx (cR w h).1 (cR w h).2 le (tr, uc, ur, wi, pm, qm)) {y : FS} (hy : y = fT w h (max w h) gi 1 1 fl fo my) :
    x.1 ≤ 1 ∧ x.1 = (if y.2.2.2 = 1 then 1 else 0) ∧ Rel w h f sc ln md sfd x.1 pa wo wc wt rows fx x.2.1 x.2.2.1 x.2.2.2.2.2.1 x.2.2.2.1 x.2.2.2.2.1 x.2.2.2.2.2.2.1 x.2.2.2.2.2.2.2 bg tl sp (if y.2.2.2 = 1 then 1 else 0) ba vi to rw gi y.1 y.2.1 y.2.2.1 := by
  obtain ⟨O, r1, r2, r3, r4, r5, r6, r7, r8, r9, r10, r11, r12, r13, r14, r15, r16, r17, r18, r19⟩ := R
  have h6 : max w h ≤ 6 := Nat.max_le.mpr ⟨O.2.1, O.2.2.2⟩
  have h36 := oq36 O
  have ha := al_lt O
  have e1 := sFl_sp (sd_of O) h36.1 (fx := fx) (le := le) (fun k hk => by rw [(r12.1 k hk).1]; exact (r12.1 k hk).2) (tr := tr) (wi := wi) (pm := pm) (qm := qm) r16.2.1 r16.2.2.1
  have e2 := fT_sp (n := w * h) O.1 O.2.2.1 O.2.1 O.2.2.2 h6 rfl gi 1 1 fl fo my
  have eN : Nn w (w * h) (max w h) fx = Nn w (w * h) (max w h) gi := Nn_eq (fun k hk => (r12.1 k hk).1)
  have f7 := fT_f7 O (gi := gi) (fo := fo) 1 1 r18 r19
  rw [← hx] at e1
  rw [← hy] at e2 f7
  have ok : Iv x.2.2 ∧ W7 x.2.2 := by
    have i1 := (iv_lg (n := w * h) (al := 2 * 2 ^ max w h - 2) (co := (cR w h).1) (ro := (cR w h).2) r12.2.1 r16).2
    have i2 := w7_lg (n := w * h) (al := 2 * 2 ^ max w h - 2) (co := (cR w h).1) (ro := (cR w h).2) r12.2.1 r17
    have j1 := (cF_ok (n := w * h) (sh := min w h) (co := (cR w h).1) (ro := (cR w h).2) h6 ha 36 1 _ (by omega) i1).2
    have j2 := w7_cF (n := w * h) (sh := min w h) (al := 2 * 2 ^ max w h - 2) (co := (cR w h).1) (ro := (cR w h).2) h6 36 1 _ i2
    rw [hx, sFl]
    split
    · exact ⟨i1, i2⟩
    · split
      · exact ⟨j1, j2⟩
      · exact sLp_ok h6 ha _ _ _ j1 j2
  rcases e1 with ⟨a, b⟩ | ⟨a, b, c⟩
  · have hz : y.2.2.2 = 0 := by rw [e2.1, ← eN, b]; rfl
    rw [a, hz, if_neg (by omega)]
    exact ⟨by omega, rfl, O, r1, r2, r3, r4, r5, r6, r7, r8, r9, r10, r11, r12, rfl, by omega, fun z => by omega, ok.1, ok.2, f7.1, f7.2⟩
  · have hz : y.2.2.2 = 1 := by rw [e2.1, ← eN]; omega
    rw [a, hz, if_pos rfl]
    have L := e2.2.2 (by omega) (by omega) (by rw [← eN]; exact b)
    have c' : LexL w (w * h) (max w h) gi x.2.1 := by
      refine ⟨Cp_T (fun k hk => (r12.1 k hk).1) c.1, fun j hj G CG hG => c.2 j hj G (Cp_T (fun k hk => (r12.1 k hk).1.symm) CG) hG⟩
    exact ⟨by omega, rfl, O, r1, r2, r3, r4, r5, r6, r7, r8, r9, r10, r11, r12, rfl, by omega, fun _ k hk => lex_uniq c' L k hk, ok.1, ok.2, f7.1, f7.2⟩
end RR
