/-! queens: both searches are one -/
theorem qsL_eq {rows rw : Nat → Nat} {col row : Nat} (hc : col ≤ 6) (h : ∀ k, k < col → rw k = rows k + 1) : ∀ m o, qsL rows col row m o = mSl rw col row m o := by
  intro m
  induction m with
  | zero => intro o; rfl
  | succ m ih =>
    intro o
    rw [qsL, mSl]
    by_cases ho : o < col
    · have e : rw o - 1 = rows o := by rw [h o ho]; omega
      rw [if_pos ⟨ho, by omega⟩, if_pos ho, e, ih]
      have : (rows o - row + (row - rows o) = 0 ∨ rows o - row + (row - rows o) = col - o) ↔ (rows o = row ∨ ds (rows o) row = col - o) := by
        simp only [ds]; omega
      by_cases q : rows o = row ∨ ds (rows o) row = col - o
      · rw [if_pos q, if_pos (this.mpr q)]
      · rw [if_neg q, if_neg (fun z => q (this.mp z))]
    · rw [if_neg (by omega), if_neg ho]
theorem stand_eq {w n f : Nat} {ba rows rw : Nat → Nat} {col row : Nat} (hf : f = mkq (fun c => decide (ba c = 0)) n) (hk : col + w * row < n) (hc : col ≤ 6) (h : ∀ k, k < col → rw k = rows k + 1) : qsC w f rows col row = mStd w ba rw col row := by
  rw [qsC, mStd, hf, div_tb, mkq_tb]
  by_cases hb : ba (col + w * row) = 0
  · simp only [hb, hk, decide_true, Bool.and_self, if_true]
    exact qsL_eq hc h 7 0
  · simp [hb]
def QO (w c K : Nat) (rows rw li : Nat → Nat) (cnt : Nat) (r : Nat × qSt) (r' : Nat × GS) : Prop :=
  r.1 = r'.1 ∧ r.1 ≤ 1 ∧ r.2.2 = r'.2.2.2 ∧ r.2.2 ≤ cnt + K ∧ (∀ k, k < c → r.2.1 k = rows k ∧ r'.2.1 k = rw k) ∧ (r.1 = 0 → r'.2.2.1 = li) ∧ (r.1 = 1 → ∀ k, k < w → r'.2.2.1 k = r.2.1 k + 1)
theorem mCp_sp (w : Nat) (rw : Nat → Nat) : ∀ m k li x, w ≤ k + m → mCp w rw m k li x = if k ≤ x ∧ x < w then rw x else li x := by
  intro m
  induction m with
  | zero => intro k li x h; rw [mCp, if_neg (by omega)]
  | succ m ih =>
    intro k li x h
    rw [mCp]
    by_cases hk : k < w
    · rw [if_pos hk, ih _ _ _ (by omega)]
      by_cases e : x = k
      · rw [if_neg (by omega), e, up_s, if_pos (by omega)]
      · rw [up_n _ _ e]
        by_cases e2 : k ≤ x ∧ x < w
        · rw [if_pos e2, if_pos (by omega)]
        · rw [if_neg e2, if_neg (by omega)]
    · rw [if_neg hk, if_neg (by omega)]
theorem qI_eq {w h n f : Nat} {ba : Nat → Nat} (hf : f = mkq (fun c => decide (ba c = 0)) n) (hn : n = w * h) {c K B : Nat} (hcw : c < w) (hw : w ≤ 6) {go : qSt → Nat × qSt} {go' : GS → Nat × GS}
    (G : ∀ rows rw li cnt, (∀ k, k < c + 1 → rw k = rows k + 1) → cnt + K ≤ B → QO w (c + 1) K rows rw li cnt (go (rows, cnt)) (go' (rw, li, cnt))) :
    ∀ m m' x rows rw li cnt, x ≤ h → h < x + m → h < x + m' → (∀ k, k < c → rw k = rows k + 1) → cnt + (h - x) * K ≤ B → QO w c ((h - x) * K) rows rw li cnt (qsI w h f go c m x (rows, cnt)) (gI w h ba go' c m' x (rw, li, cnt)) := by
  intro m
  induction m with
  | zero => intro m' x rows rw li cnt h1 h2; omega
  | succ m ih =>
    intro m' x rows rw li cnt h1 h2 h3 hr hB
    cases m' with
    | zero => omega
    | succ m' =>
      rw [qsI, gI]
      dsimp only
      have hr2 : ∀ k, k < c → va_up rw c (x + 1) k = rows k + 1 := fun k hk => by rw [up_n _ _ (by omega)]; exact hr k hk
      by_cases hx : x < h
      · have hcell : c + w * x < n := by
          rw [hn]
          have : w * (x + 1) ≤ w * h := Nat.mul_le_mul_left _ hx
          rw [Nat.mul_add] at this; omega
        have hK : (h - x) * K = (h - (x + 1)) * K + K := by
          rw [show h - x = (h - (x + 1)) + 1 by omega, Nat.add_mul, Nat.one_mul]
        rw [if_pos hx, if_neg (show ¬ x = h by omega), stand_eq hf hcell (by omega) hr2]
        by_cases hs : mStd w ba (va_up rw c (x + 1)) c x = 0
        · rw [if_pos hs, if_pos hs]
          obtain ⟨o1, o2, o3, o4, o5, o6, o7⟩ := ih m' (x + 1) rows (va_up rw c (x + 1)) li cnt (by omega) (by omega) (by omega) hr2 (by omega)
          refine ⟨o1, o2, o3, by omega, ?_, o6, o7⟩
          intro k hk
          obtain ⟨a, b⟩ := o5 k hk
          exact ⟨a, by rw [b, up_n _ _ (by omega)]⟩
        · rw [if_neg hs, if_neg hs]
          have g := G (va_up rows c x) (va_up rw c (x + 1)) li cnt (fun k hk => by
            by_cases e : k = c
            · rw [e, up_s, up_s]
            · rw [up_n _ _ e, up_n _ _ e]; exact hr k (by omega)) (by omega)
          generalize go (va_up rows c x, cnt) = r at g
          generalize go' (va_up rw c (x + 1), li, cnt) = r' at g
          obtain ⟨r0, rr, rc⟩ := r
          obtain ⟨s0, srw, sli, sc⟩ := r'
          obtain ⟨g1, g2, g3, g4, g5, g6, g7⟩ := g
          dsimp only at g1 g2 g3 g4 g5 g6 g7 ⊢
          subst g1
          subst g3
          by_cases hz : r0 = 0
          · rw [if_pos hz, if_pos hz]
            have kr : ∀ k, k < c → rr k = rows k ∧ srw k = rw k := fun k hk => by
              obtain ⟨a, b⟩ := g5 k (by omega)
              rw [up_n _ _ (by omega)] at a b
              exact ⟨a, b⟩
            obtain ⟨o1, o2, o3, o4, o5, o6, o7⟩ := ih m' (x + 1) rr srw sli rc (by omega) (by omega) (by omega) (fun k hk => by rw [(kr k hk).1, (kr k hk).2]; exact hr k hk) (by omega)
            refine ⟨o1, o2, o3, by omega, ?_, fun z => by rw [o6 z, g6 hz], o7⟩
            intro k hk
            obtain ⟨a, b⟩ := o5 k hk
            exact ⟨by rw [a, (kr k hk).1], by rw [b, (kr k hk).2]⟩
          · rw [if_neg hz, if_neg hz]
            have h1' : r0 = 1 := by omega
            refine ⟨h1'.symm, Nat.le_refl 1, rfl, by show rc ≤ _; omega, ?_, fun z => (by cases z), fun _ => g7 h1'⟩
            intro k hk
            obtain ⟨a, b⟩ := g5 k (by omega)
            rw [up_n _ _ (by omega)] at a b
            exact ⟨a, b⟩
      · rw [if_neg hx, if_pos (show x = h by omega)]
        refine ⟨rfl, by show (0 : Nat) ≤ 1; omega, rfl, by show cnt ≤ _; omega, ?_, fun _ => rfl, fun z => (by cases z)⟩
        intro k hk
        exact ⟨rfl, up_n _ _ (by omega)⟩
theorem nI_s (a : Nat) : nI (a + 1) = nI a + 1 := by
  apply Int32.toBitVec_inj.mp
  show BitVec.ofNat 32 (a + 1) = BitVec.ofNat 32 a + 1#32
  rw [BitVec.ofNat_add]
theorem i32_c {a b : Int32} : a + 1 = b + 1 ↔ a = b := by
  constructor
  · intro h
    have : a + 1 - 1 = b + 1 - 1 := by rw [h]
    simpa [Int32.add_sub_cancel] using this
  · intro h; rw [h]
theorem qP_eq {w h n f : Nat} {ba : Nat → Nat} (hf : f = mkq (fun c => decide (ba c = 0)) n) (hn : n = w * h) (hw : w ≤ 6) (hh : h ≤ 6) {B : Nat} {way up : Int32} (hF : ∀ c, c < B → (nI c = way ↔ nI c = up)) :
    ∀ d, d ≤ w → ∀ rows rw li cnt, (∀ k, k < w - d → rw k = rows k + 1) → cnt + 6 ^ d ≤ B → QO w (w - d) (6 ^ d) rows rw li cnt (qsP w h f way d (rows, cnt)) (gP w h ba up d (rw, li, cnt)) := by
  intro d
  induction d with
  | zero =>
    intro _ rows rw li cnt hr hB
    have hc := hF cnt (by rw [Nat.pow_zero] at hB; omega)
    rw [qsP, gP]
    dsimp only
    have e : (nI (cnt + 1) = up + 1) ↔ nI cnt = way := by rw [nI_s, i32_c]; exact hc.symm
    by_cases q : nI cnt = way
    · rw [if_pos q, if_pos (e.mpr q), if_pos (hc.mp q)]
      refine ⟨rfl, Nat.le_refl 1, rfl, by simp, fun k hk => ⟨rfl, rfl⟩, fun z => (by cases z), fun _ k hk => ?_⟩
      dsimp only
      rw [mCp_sp _ _ _ _ _ _ (by omega), if_pos (by omega)]
      exact hr k (by omega)
    · rw [if_neg q, if_neg (fun z => q (e.mp z)), if_neg (fun z => q (hc.mpr z))]
      exact ⟨rfl, by show (0 : Nat) ≤ 1; omega, rfl, by simp, fun k hk => ⟨rfl, rfl⟩, fun _ => rfl, fun z => (by cases z)⟩
  | succ d ih =>
    intro hd rows rw li cnt hr hB
    rw [qsP, gP]
    dsimp only
    have hc : w - 1 - d = w - (d + 1) := by omega
    rw [hc]
    have hK : (h - 0) * 6 ^ d ≤ 6 ^ (d + 1) := by
      rw [Nat.pow_succ, Nat.mul_comm]; exact Nat.mul_le_mul_left _ (by omega)
    have r := qI_eq hf hn (c := w - (d + 1)) (K := 6 ^ d) (B := B) (by omega) hw (go := qsP w h f way d) (go' := gP w h ba up d) (by
      intro rows rw li cnt h1 h2
      rw [show w - (d + 1) + 1 = w - d by omega] at h1 ⊢
      exact ih (by omega) rows rw li cnt h1 h2) 7 (h + 1) 0 rows (va_up rw (w - (d + 1)) 0) li cnt (by omega) (by omega) (by omega) (fun k hk => by rw [up_n _ _ (by omega)]; exact hr k hk) (by omega)
    obtain ⟨o1, o2, o3, o4, o5, o6, o7⟩ := r
    refine ⟨o1, o2, o3, by omega, ?_, o6, o7⟩
    intro k hk
    obtain ⟨a, b⟩ := o5 k hk
    exact ⟨a, by rw [b, up_n _ _ (by omega)]⟩
theorem queens_eq {w h n f : Nat} {ba : Nat → Nat} (hf : f = mkq (fun c => decide (ba c = 0)) n) (hn : n = w * h) (hw1 : 1 ≤ w) (hw : w ≤ 6) (hh : h ≤ 6) {way up : Int32} (hF : ∀ c, c < 46656 → (nI c = way ↔ nI c = up)) (rows rw li : Nat → Nat) :
    QO w 0 46656 rows rw li 0 (qsP w h f way w (rows, 0)) (gT w h ba up rw li) := by
  have h6 : 6 ^ w ≤ 46656 := by
    have : 6 ^ w ≤ 6 ^ 6 := Nat.pow_le_pow_right (by decide) hw
    simpa using this
  have r := qP_eq hf hn hw hh hF w (Nat.le_refl w) rows rw li 0 (fun k hk => by omega) (by omega)
  have e : gP w h ba up w (rw, li, 0) = gT w h ba up rw li := by
    cases w with
    | zero => omega
    | succ w => rw [gP, gT]; simp only [Nat.add_sub_cancel, Nat.sub_self]
  rw [e] at r
  obtain ⟨o1, o2, o3, o4, o5, o6, o7⟩ := r
  exact ⟨o1, o2, o3, by omega, fun k hk => by omega, o6, o7⟩
