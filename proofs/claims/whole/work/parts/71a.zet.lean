/-! how many ways there are to fill the cells -/
def sumg (f : Nat → Nat) : Nat → Nat
  | 0 => 0
  | m + 1 => sumg f m + f (m + 1)
theorem sumg_congr {f k : Nat → Nat} : ∀ m, (∀ v, 1 ≤ v → v ≤ m → f v = k v) → sumg f m = sumg k m := by
  intro m
  induction m with
  | zero => intro _; rfl
  | succ m ih => intro h; rw [sumg, sumg, ih (fun v h1 h2 => h v h1 (by omega)), h (m + 1) (by omega) (by omega)]
theorem sumg_add (f k : Nat → Nat) : ∀ m, sumg (fun v => f v + k v) m = sumg f m + sumg k m := by
  intro m
  induction m with
  | zero => rfl
  | succ m ih => rw [sumg, ih, sumg, sumg]; omega
theorem sumg_zero : ∀ m, sumg (fun _ => 0) m = 0 := by
  intro m
  induction m with
  | zero => rfl
  | succ m ih => rw [sumg, ih]
theorem sumg_z {f : Nat → Nat} {m : Nat} (h : ∀ v, 1 ≤ v → v ≤ m → f v = 0) : sumg f m = 0 := by
  rw [sumg_congr m h]; exact sumg_zero m
theorem sumg_swap (f : Nat → Nat → Nat) (a : Nat) : ∀ b, sumg (fun v => sumg (fun u => f u v) a) b = sumg (fun u => sumg (fun v => f u v) b) a := by
  intro b
  induction b with
  | zero => rw [sumg]; exact (sumg_zero a).symm
  | succ b ih =>
    rw [sumg, ih, ← sumg_add]
    rfl
theorem sumg_pos {f : Nat → Nat} : ∀ m, 0 < sumg f m → ∃ v, 1 ≤ v ∧ v ≤ m ∧ 0 < f v := by
  intro m
  induction m with
  | zero => intro h; simp [sumg] at h
  | succ m ih =>
    intro h
    rw [sumg] at h
    rcases Nat.eq_zero_or_pos (f (m + 1)) with e | e
    · obtain ⟨v, h1, h2, h3⟩ := ih (by omega)
      exact ⟨v, h1, by omega, h3⟩
    · exact ⟨m + 1, by omega, by omega, e⟩
theorem sumg_ge {f : Nat → Nat} : ∀ m v, 1 ≤ v → v ≤ m → f v ≤ sumg f m := by
  intro m
  induction m with
  | zero => intro v h1 h2; omega
  | succ m ih =>
    intro v h1 h2
    rw [sumg]
    by_cases e : v = m + 1
    · rw [e]; omega
    · have := ih v h1 (by omega); omega
theorem sumg_one {f : Nat → Nat} {m u : Nat} (h1 : 1 ≤ u) (h2 : u ≤ m) (h : ∀ v, 1 ≤ v → v ≤ m → v ≠ u → f v = 0) : sumg f m = f u := by
  induction m with
  | zero => omega
  | succ m ih =>
    rw [sumg]
    by_cases e : u = m + 1
    · rw [sumg_z (fun v a b => h v a (by omega) (by omega)), e]; omega
    · rw [ih (by omega) (fun v a b c => h v a (by omega) c), h (m + 1) (by omega) (by omega) (fun z => e z.symm)]; omega
noncomputable def ind (p : Prop) : Nat := @ite Nat p (Classical.propDecidable p) 1 0
theorem ind_t {p : Prop} (h : p) : ind p = 1 := by rw [ind, if_pos h]
theorem ind_f {p : Prop} (h : ¬ p) : ind p = 0 := by rw [ind, if_neg h]
theorem ind_pos {p : Prop} (h : 0 < ind p) : p := by
  unfold ind at h
  split at h
  · assumption
  · omega
theorem ind_iff {p q : Prop} (h : p ↔ q) : ind p = ind q := by rw [propext h]
/-- the cells n - d .. n - 1 are filled in all ways with 1 .. g -/
def Z (n g : Nat) (P : (Nat → Nat) → Nat) : Nat → (Nat → Nat) → Nat
  | 0, F => P F
  | d + 1, F => sumg (fun v => Z n g P d (va_up F (n - 1 - d) v)) g
def Rch (n g d : Nat) (F G : Nat → Nat) : Prop := (∀ k, k < n - d → G k = F k) ∧ (∀ k, n - d ≤ k → k < n → 1 ≤ G k ∧ G k ≤ g) ∧ ∀ k, n ≤ k → G k = F k
theorem rch_step {n g d : Nat} (hd : d + 1 ≤ n) {F G : Nat → Nat} {v : Nat} (h1 : 1 ≤ v) (h2 : v ≤ g) (R : Rch n g d (va_up F (n - 1 - d) v) G) : Rch n g (d + 1) F G := by
  obtain ⟨r1, r2, r3⟩ := R
  refine ⟨?_, ?_, ?_⟩
  · intro k hk; rw [r1 k (by omega), up_n _ _ (by omega)]
  · intro k hk hk2
    by_cases e : k = n - 1 - d
    · have := r1 k (by omega); rw [e, up_s] at this; rw [e, this]; exact ⟨h1, h2⟩
    · exact r2 k (by omega) hk2
  · intro k hk; rw [r3 k hk, up_n _ _ (by omega)]
theorem Z_congr {n g : Nat} {P Q : (Nat → Nat) → Nat} : ∀ d F, d ≤ n → (∀ G, Rch n g d F G → P G = Q G) → Z n g P d F = Z n g Q d F := by
  intro d
  induction d with
  | zero => intro F _ h; rw [Z, Z]; exact h F ⟨fun _ _ => rfl, fun k h1 h2 => by omega, fun _ _ => rfl⟩
  | succ d ih =>
    intro F hd h
    rw [Z, Z]
    apply sumg_congr
    intro v h1 h2
    exact ih _ (by omega) (fun G hG => h G (rch_step hd h1 h2 hG))
theorem Z_sum {n g : Nat} (P : Nat → (Nat → Nat) → Nat) (m : Nat) : ∀ d F, Z n g (fun G => sumg (fun v => P v G) m) d F = sumg (fun v => Z n g (P v) d F) m := by
  intro d
  induction d with
  | zero => intro F; rfl
  | succ d ih =>
    intro F
    rw [Z]
    rw [sumg_congr g (fun v _ _ => ih (va_up F (n - 1 - d) v)), sumg_swap]
    rfl
theorem Z_zero (n g : Nat) : ∀ d F, Z n g (fun _ => 0) d F = 0 := by
  intro d
  induction d with
  | zero => intro F; rfl
  | succ d ih => intro F; rw [Z, sumg_congr g (fun v _ _ => ih _)]; exact sumg_zero g
theorem Z_none {n g : Nat} {P : (Nat → Nat) → Nat} {d : Nat} {F : Nat → Nat} (hd : d ≤ n) (h : ∀ G, Rch n g d F G → P G = 0) : Z n g P d F = 0 := by
  rw [Z_congr d F hd h]; exact Z_zero n g d F
theorem Z_pos {n g : Nat} {P : (Nat → Nat) → Nat} : ∀ d F, d ≤ n → 0 < Z n g P d F → ∃ G, Rch n g d F G ∧ 0 < P G := by
  intro d
  induction d with
  | zero => intro F _ h; exact ⟨F, ⟨fun _ _ => rfl, fun k h1 h2 => by omega, fun _ _ => rfl⟩, h⟩
  | succ d ih =>
    intro F hd h
    rw [Z] at h
    obtain ⟨v, h1, h2, h3⟩ := sumg_pos g h
    obtain ⟨G, g1, g2⟩ := ih _ (by omega) h3
    exact ⟨G, rch_step hd h1 h2 g1, g2⟩
theorem Z_ge {n g : Nat} {P : (Nat → Nat) → Nat} {G : Nat → Nat} : ∀ d F, d ≤ n → Rch n g d F G → P G ≤ Z n g P d F := by
  intro d
  induction d with
  | zero =>
    intro F _ R
    obtain ⟨r1, r2, r3⟩ := R
    have : G = F := by
      funext k
      rcases Nat.lt_or_ge k n with h | h
      · exact r1 k (by omega)
      · exact r3 k h
    rw [this, Z]; exact Nat.le_refl _
  | succ d ih =>
    intro F hd R
    obtain ⟨r1, r2, r3⟩ := R
    have hv := r2 (n - 1 - d) (by omega) (by omega)
    rw [Z]
    refine Nat.le_trans ?_ (sumg_ge g (G (n - 1 - d)) hv.1 hv.2)
    apply ih _ (by omega)
    refine ⟨?_, ?_, ?_⟩
    · intro k hk
      by_cases e : k = n - 1 - d
      · rw [e, up_s]
      · rw [up_n _ _ e]; exact r1 k (by omega)
    · intro k h1 h2; exact r2 k (by omega) h2
    · intro k hk; rw [up_n _ _ (by omega)]; exact r3 k hk
/-- a rectangle without repeats, and one that keeps what is given -/
def Lat (w n g : Nat) (F : Nat → Nat) : Prop := ∀ c, c < n → (1 ≤ F c ∧ F c ≤ g) ∧ ∀ d, d < n → mSee w c d → F c ≠ F d
def Cp (w n g : Nat) (T F : Nat → Nat) : Prop := Lat w n g F ∧ ∀ k, k < n → T k ≠ 0 → F k = T k
theorem Lat_eq {w n g : Nat} {F G : Nat → Nat} (h : ∀ k, k < n → G k = F k) (L : Lat w n g F) : Lat w n g G := by
  intro c hc
  rw [h c hc]
  refine ⟨(L c hc).1, fun d hd hs => ?_⟩
  rw [h d hd]; exact (L c hc).2 d hd hs
theorem Cp_eq {w n g : Nat} {T F G : Nat → Nat} (h : ∀ k, k < n → G k = F k) (L : Cp w n g T F) : Cp w n g T G :=
  ⟨Lat_eq h L.1, fun k hk ht => by rw [h k hk]; exact L.2 k hk ht⟩
theorem Cp_T {w n g : Nat} {T U F : Nat → Nat} (h : ∀ k, k < n → T k = U k) (L : Cp w n g T F) : Cp w n g U F :=
  ⟨L.1, fun k hk ht => by rw [← h k hk] at ht ⊢; exact L.2 k hk ht⟩
/-- how many -/
noncomputable def Nn (w n g : Nat) (T : Nat → Nat) : Nat := Z n g (fun F => ind (Cp w n g T F)) n (fun _ => 0)
theorem Nn_eq {w n g : Nat} {T U : Nat → Nat} (h : ∀ k, k < n → T k = U k) : Nn w n g T = Nn w n g U := by
  apply Z_congr n _ (Nat.le_refl n)
  intro G _
  exact ind_iff ⟨Cp_T h, Cp_T (fun k hk => (h k hk).symm)⟩
/-- an empty cell: the ways with each number at it, summed up -/
theorem Nn_split {w n g : Nat} {T : Nat → Nat} {k : Nat} (hk : k < n) (h0 : T k = 0) : Nn w n g T = sumg (fun v => Nn w n g (va_up T k v)) g := by
  unfold Nn
  rw [← Z_sum (fun v F => ind (Cp w n g (va_up T k v) F)) g n]
  apply Z_congr n _ (Nat.le_refl n)
  intro G R
  have hv := R.2.1 k (by omega) hk
  rw [sumg_one hv.1 hv.2]
  · apply ind_iff
    constructor
    · intro C
      refine ⟨C.1, fun j hj ht => ?_⟩
      by_cases e : j = k
      · rw [e, up_s]
      · rw [up_n _ _ e] at ht ⊢; exact C.2 j hj ht
    · intro C
      refine ⟨C.1, fun j hj ht => ?_⟩
      by_cases e : j = k
      · rw [e] at ht; exact absurd h0 ht
      · have := C.2 j hj; rw [up_n _ _ e] at this; exact this ht
  · intro v h1 h2 hne
    apply ind_f
    intro C
    have := C.2 k hk (by rw [up_s]; omega)
    rw [up_s] at this
    exact hne this.symm
theorem Nn_none {w n g : Nat} {T : Nat → Nat} (h : ∀ F, ¬ Cp w n g T F) : Nn w n g T = 0 := Z_none (Nat.le_refl n) (fun G _ => ind_f (h G))
theorem Nn_pos {w n g : Nat} {T : Nat → Nat} (h : 0 < Nn w n g T) : ∃ F, Cp w n g T F := by
  obtain ⟨G, _, h2⟩ := Z_pos n _ (Nat.le_refl n) h
  exact ⟨G, ind_pos h2⟩
theorem Nn_some {w n g : Nat} {T F : Nat → Nat} (C : Cp w n g T F) : 0 < Nn w n g T := by
  have C2 : Cp w n g T (fun k => if k < n then F k else 0) := Cp_eq (fun k hk => by rw [if_pos hk]) C
  have := Z_ge (P := fun F => ind (Cp w n g T F)) (g := g) n (fun _ => 0) (Nat.le_refl n) (G := fun k => if k < n then F k else 0) ⟨fun k hk => by omega, fun k _ hk => by
    dsimp only; rw [if_pos hk]; exact (C.1 k hk).1, fun k hk => by dsimp only; rw [if_neg (by omega)]⟩
  rw [ind_t C2] at this
  exact this
/-- all cells full: one -/
theorem Nn_full {w n g : Nat} {T : Nat → Nat} (h : ∀ k, k < n → T k ≠ 0) (L : Lat w n g T) : Nn w n g T = 1 := by
  have key : ∀ d F, d ≤ n → (∀ k, k < n - d → F k = T k) → Z n g (fun F => ind (Cp w n g T F)) d F = 1 := by
    intro d
    induction d with
    | zero =>
      intro F _ hF
      rw [Z]
      exact ind_t ⟨Lat_eq (fun k hk => hF k (by omega)) L, fun k hk _ => hF k (by omega)⟩
    | succ d ih =>
      intro F hd hF
      rw [Z]
      have hv := (L (n - 1 - d) (by omega)).1
      rw [sumg_one hv.1 hv.2]
      · apply ih _ (by omega)
        intro k hk
        by_cases e : k = n - 1 - d
        · rw [e, up_s]
        · rw [up_n _ _ e]; exact hF k (by omega)
      · intro v h1 h2 hne
        apply Z_none (by omega)
        intro G R
        apply ind_f
        intro C
        have a := R.1 (n - 1 - d) (by omega)
        rw [up_s] at a
        have b := C.2 (n - 1 - d) (by omega) (h _ (by omega))
        exact hne (by rw [← a, b])
  exact key n _ (Nat.le_refl n) (fun k hk => by omega)
