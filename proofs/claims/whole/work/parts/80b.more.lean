theorem cR_lt {w h : Nat} (O : Oq w h) : (∀ k, (cR w h).1 k < 6) ∧ ∀ k, (cR w h).2 k < 6 := by
  have hX : ∀ y, y < 6 → ∀ m x (st : S2), (∀ k, st.1 k < 6) → (∀ k, st.2 k < 6) → (∀ k, (iX w y m x st).1 k < 6) ∧ ∀ k, (iX w y m x st).2 k < 6 := by
    intro y hy m
    induction m with
    | zero => intro x st h1 h2; exact ⟨h1, h2⟩
    | succ m ih =>
      intro x st h1 h2
      rw [iX]
      by_cases q : x < w
      · rw [if_pos q]
        have := O.2.1
        exact ih _ _ (up_lt2 h1 (by omega)) (up_lt2 h2 hy)
      · rw [if_neg q]; exact ⟨h1, h2⟩
  have hY : ∀ m y (st : S2), (∀ k, st.1 k < 6) → (∀ k, st.2 k < 6) → (∀ k, (iY w h m y st).1 k < 6) ∧ ∀ k, (iY w h m y st).2 k < 6 := by
    intro m
    induction m with
    | zero => intro y st h1 h2; exact ⟨h1, h2⟩
    | succ m ih =>
      intro y st h1 h2
      rw [iY]
      by_cases q : y < h
      · rw [if_pos q]
        have := O.2.2.2
        have z := hX y (by omega) 7 0 st h1 h2
        exact ih _ _ z.1 z.2
      · rw [if_neg q]; exact ⟨h1, h2⟩
  exact hY 7 0 _ (fun _ => by show (0 : Nat) < 6; omega) (fun _ => by show (0 : Nat) < 6; omega)
theorem i32_nat {x : Int32} {b : Nat} (h0 : 0 ≤ x.toInt) (h1 : x.toInt < b) (hb : b < 2 ^ 31) : ∃ j : Nat, j < b ∧ x = nI j := by
  refine ⟨x.toInt.toNat, by omega, ?_⟩
  apply Int32.toInt_inj.mp
  have : (nI x.toInt.toNat).toInt = (x.toInt.toNat : Int) := Int32.toInt_ofNat_of_lt (by omega)
  rw [this]; omega
theorem odd15 : ∀ n, n < 16 → (¬ nI n - nI n / 2 * 2 = 0) → n % 2 = 1 := by decide +kernel
theorem nI16 : ∀ n, n < 16 → (nI n).toInt = n := by decide +kernel
theorem mg_in {n x y : Int32} (h : ¬ mgB n x y) : ∃ N X Y : Nat, n = nI N ∧ x = nI X ∧ y = nI Y ∧ 1 ≤ N ∧ N ≤ 15 ∧ N % 2 = 1 ∧ X < N ∧ Y < N ∧ ¬ n = 0 := by
  have h1 : ¬ n < 1 := fun z => h (Or.inl z)
  have h2 : ¬ 15 < n := fun z => h (Or.inr (Or.inl z))
  have h3 : ¬ n - n / 2 * 2 = 0 := fun z => h (Or.inr (Or.inr (Or.inl z)))
  have h4 : ¬ x < 0 := fun z => h (Or.inr (Or.inr (Or.inr (Or.inl z))))
  have h5 : ¬ n ≤ x := fun z => h (Or.inr (Or.inr (Or.inr (Or.inr (Or.inl z)))))
  have h6 : ¬ y < 0 := fun z => h (Or.inr (Or.inr (Or.inr (Or.inr (Or.inr (Or.inl z))))))
  have h7 : ¬ ¬ y < n := fun z => h (Or.inr (Or.inr (Or.inr (Or.inr (Or.inr (Or.inr z))))))
  have h7 : y < n := Classical.byContradiction h7
  rw [Int32.lt_iff_toInt_lt] at h1 h2 h4 h6 h7
  rw [Int32.le_iff_toInt_le] at h5
  have z0 : (0 : Int32).toInt = 0 := by decide
  have z1 : (1 : Int32).toInt = 1 := by decide
  have z15 : (15 : Int32).toInt = 15 := by decide
  rw [z0] at h4 h6
  rw [z1] at h1
  rw [z15] at h2
  obtain ⟨N, n1, rfl⟩ := i32_nat (x := n) (b := 16) (by omega) (by omega) (by decide)
  have eN := nI16 N n1
  obtain ⟨X, x1, rfl⟩ := i32_nat (x := x) (b := N) (by omega) (by omega) (by omega)
  obtain ⟨Y, y1, rfl⟩ := i32_nat (x := y) (b := N) (by omega) (by omega) (by omega)
  exact ⟨N, X, Y, rfl, rfl, rfl, by omega, by omega, odd15 N n1 h3, x1, y1, fun z => by rw [z, z0] at eN; omega⟩
theorem fx_al {g v : Nat} (hv : v ≤ g) (hg : g ≤ 6) : rAl g (nI v) = 1 := by
  rw [rAl, if_neg]
  have e1 := nI16 v (by omega)
  have e2 := nI16 g (by omega)
  have z0 : (0 : Int32).toInt = 0 := by decide
  rintro (q | q)
  · rw [Int32.lt_iff_toInt_lt, e1, z0] at q; omega
  · rw [Int32.lt_iff_toInt_lt, e1, e2] at q; omega
theorem rel_init {w h : Nat} (O : Oq w h) : Rel w h (2 ^ (w * h) - 1) 0 0 0 0 0 (fun _ => 0) (fun _ => 0) (fun _ => 0) (fun _ => 0) (fun _ => 0) (fun _ => 0) (fun _ => 0) (fun _ => 0) (fun _ => 0) (fun _ => 0) (fun _ => 0) (fun _ => 0) (fun _ => 0) 0 0 0 0 (fun _ => 0) (fun _ => 0) (fun _ => 0) (fun _ => 1) (fun _ => 0) (fun _ => 0) (fun _ => 0) (fun _ => 0) := by
  have h36 := oq36 O
  refine ⟨O, ?_, rfl, by omega, fun _ => Nat.zero_le _, ⟨by omega, by omega, by omega, fun _ => rfl, fun z => by omega⟩, rfl, ⟨fun _ => (by decide : (0 : Nat) < 36), fun _ => (by decide : (0 : Nat) < 4000), fun _ => Nat.zero_le _, fun _ => Nat.zero_le _⟩, fun _ => (by decide : (0 : Nat) < 36), fun _ => Nat.zero_le _, fun _ => (by decide : (0 : Nat) < 6), fun _ => (by decide : (1 : Nat) ≤ 7), ⟨fun k _ => ⟨rfl, Nat.zero_le _⟩, fun _ => (by decide : (0 : Nat) < 7), fun _ => Nat.zero_le _⟩, rfl, by omega, fun z => by omega, ⟨fun _ => (by decide : (0 : Nat) < 8), fun _ => (by decide : (0 : Nat) < 128), fun _ => (by decide : (0 : Nat) < 128), fun _ => (by decide : (0 : Nat) < 8), fun _ => (by decide : (0 : Nat) < 128), fun _ => (by decide : (0 : Nat) < 128)⟩, ⟨fun _ => (by decide : (0 : Nat) < 7), fun _ => (by decide : (0 : Nat) < 7)⟩, fun _ => Nat.zero_le _, fun _ => (by decide : (0 : Nat) < 128)⟩
  rw [← mkq_ones, fq]
  apply mkq_congr
  intro c _
  simp
