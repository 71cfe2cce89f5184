/-! the program counts the ways to fill up, as many as 'most' -/
theorem sumg_mono (f : Nat → Nat) (a : Nat) : ∀ k, sumg f a ≤ sumg f (a + k) := by
  intro k
  induction k with
  | zero => exact Nat.le_refl _
  | succ k ih => have e : sumg f (a + (k + 1)) = sumg f (a + k) + f (a + k + 1) := rfl
                 omega
/-- what a count answers and leaves -/
def CO (w n g most : Nat) (tr uc ur wi : Nat → Nat) (r : Nat × S6) : Prop := r.1 = min most (Nn w n g tr) ∧ r.2.1 = tr ∧ r.2.2.1 = uc ∧ r.2.2.2.1 = ur ∧ (0 < Nn w n g tr → Cp w n g tr r.2.2.2.2.1) ∧ (Nn w n g tr = 0 → r.2.2.2.2.1 = wi)
theorem cW_sp {w h n g sh : Nat} {co ro : Nat → Nat} (S : Sd w h n g sh co ro) {go : Nat → S6 → Nat × S6} {k most : Nat} {tr uc ur : Nat → Nat} (C : CS w n g tr uc ur) (hk : k < n) (h0 : tr k = 0) (hm1 : 1 ≤ most)
    (G : ∀ v m wi pm qm, (1 ≤ v ∧ v ≤ g) → (∀ d, d < n → mSee w k d → tr d ≠ v) → 1 ≤ m → CO w n g m (va_up tr k v) (rPut uc (co k) v) (rPut ur (ro k) v) wi (go m (va_up tr k v, rPut uc (co k) v, rPut ur (ro k) v, wi, pm, qm))) (wi0 : Nat → Nat) :
    ∀ m v cnt wi pm qm, 1 ≤ v → v ≤ g + 1 → g + 1 < v + m + 1 → cnt = min most (sumg (fun u => Nn w n g (va_up tr k u)) (v - 1)) → (0 < cnt → Cp w n g tr wi) → (cnt = 0 → wi = wi0) →
      CO w n g most tr uc ur wi0 (cW g co ro go k (rCh (2 * 2 ^ g - 2) co ro uc ur k) most m v cnt (tr, uc, ur, wi, pm, qm)) := by
  have hsp : Nn w n g tr = sumg (fun u => Nn w n g (va_up tr k u)) g := Nn_split hk h0
  have fin : ∀ v cnt wi pm qm, 1 ≤ v → v ≤ g + 1 → ¬ (v ≤ g ∧ cnt < most) → cnt = min most (sumg (fun u => Nn w n g (va_up tr k u)) (v - 1)) → (0 < cnt → Cp w n g tr wi) → (cnt = 0 → wi = wi0) → CO w n g most tr uc ur wi0 (cnt, (tr, uc, ur, wi, pm, qm)) := by
    intro v cnt wi pm qm h1 h2 h3 h4 h5 h6
    have mono := sumg_mono (fun u => Nn w n g (va_up tr k u)) (v - 1) (g - (v - 1))
    rw [show v - 1 + (g - (v - 1)) = g by omega] at mono
    have e : cnt = min most (Nn w n g tr) := by
      rw [hsp]
      by_cases hv : v ≤ g
      · omega
      · rw [show v - 1 = g by omega] at h4; exact h4
    exact ⟨e, rfl, rfl, rfl, fun z => h5 (by omega), fun z => h6 (by omega)⟩
  intro m
  induction m with
  | zero =>
    intro v cnt wi pm qm h1 h2 h3 h4 h5 h6
    rw [cW]
    exact fin v cnt wi pm qm h1 h2 (by omega) h4 h5 h6
  | succ m ih =>
    intro v cnt wi pm qm h1 h2 h3 h4 h5 h6
    rw [cW]
    by_cases hc : v ≤ g ∧ cnt < most
    · rw [if_pos hc]
      have hs : sumg (fun u => Nn w n g (va_up tr k u)) v = sumg (fun u => Nn w n g (va_up tr k u)) (v - 1) + Nn w n g (va_up tr k v) := by
        cases v with
        | zero => omega
        | succ v => rfl
      have hch := ch_iff S C hk h0 v
      rw [div_tb]
      by_cases hb : (rCh (2 * 2 ^ g - 2) co ro uc ur k).testBit v = true
      · rw [if_pos hb, if_neg (show ¬ (1 : Nat) = 0 by omega)]
        obtain ⟨hv, hf⟩ := hch.mp hb
        have g0 := G v (most - cnt) wi pm qm hv hf (by omega)
        simp only [sPut]
        generalize go (most - cnt) (va_up tr k v, rPut uc (co k) v, rPut ur (ro k) v, wi, pm, qm) = r at g0
        obtain ⟨r0, rtr, ruc, rur, rwi, rpm, rqm⟩ := r
        obtain ⟨g1, g2, g3, g4, g5, g6⟩ := g0
        dsimp only at g1 g2 g3 g4 g5 g6 ⊢
        have C' := C
        obtain ⟨c1, c2, c3, c4, c5⟩ := C'
        have S' := S
        obtain ⟨s1, s2, s3, s4, s5, s6, s7, s8⟩ := S'
        have b1 : (uc (co k)).testBit v = false := by
          rw [rCh_tb (by omega)] at hb; simp only [Bool.and_eq_true, Bool.not_eq_true'] at hb; exact hb.1.2
        have b2 : (ur (ro k)).testBit v = false := by
          rw [rCh_tb (by omega)] at hb; simp only [Bool.and_eq_true, Bool.not_eq_true'] at hb; exact hb.2
        rw [g2, g3, g4]
        simp only [sTake]
        rw [take_put b1 (c4 _) (by omega), take_put b2 (c5 _) (by omega)]
        have et : va_up (va_up tr k v) k 0 = tr := by
          funext j
          by_cases e : j = k
          · rw [e, up_s, h0]
          · rw [up_n _ _ e, up_n _ _ e]
        rw [et]
        have hcp : 0 < Nn w n g (va_up tr k v) → Cp w n g tr rwi := by
          intro z
          have q := g5 z
          refine ⟨q.1, fun j hj hz => ?_⟩
          have e : j ≠ k := fun e => by rw [e] at hz; exact hz h0
          have := q.2 j hj; rw [up_n _ _ e] at this; exact this hz
        refine ih (v + 1) _ _ _ _ (by omega) (by omega) (by omega) ?_ ?_ ?_
        · rw [Nat.add_sub_cancel, hs]; omega
        · intro z
          rcases Nat.eq_zero_or_pos (Nn w n g (va_up tr k v)) with e | e
          · rw [g6 e]; apply h5; omega
          · exact hcp e
        · intro z
          have e : Nn w n g (va_up tr k v) = 0 := by omega
          rw [g6 e]; apply h6; omega
      · rw [if_neg hb, if_pos (show (0 : Nat) = 0 from rfl)]
        have hz : Nn w n g (va_up tr k v) = 0 := by
          have : ¬ ∀ d, d < n → mSee w k d → tr d ≠ v := fun z => hb (hch.mpr ⟨⟨h1, hc.1⟩, z⟩)
          have : ∃ d, d < n ∧ mSee w k d ∧ tr d = v := by
            apply Classical.byContradiction
            intro q
            exact this (fun d hd hs e => q ⟨d, hd, hs, e⟩)
          obtain ⟨d, d1, d2, d3⟩ := this
          exact Nn_bad hk d1 d2 h1 d3
        refine ih (v + 1) cnt wi pm qm (by omega) (by omega) (by omega) ?_ h5 h6
        rw [Nat.add_sub_cancel, hs, hz, Nat.add_zero]; exact h4
    · rw [if_neg hc]
      exact fin v cnt wi pm qm h1 h2 hc h4 h5 h6
theorem CS_lat {w n g : Nat} {tr uc ur : Nat → Nat} (C : CS w n g tr uc ur) (hf : ∀ j, j < n → tr j ≠ 0) : Lat w n g tr := by
  obtain ⟨c1, c2, c3, c4, c5⟩ := C
  intro c hc
  exact ⟨⟨by have := hf c hc; omega, (c3 c hc).1⟩, fun d hd hs => (c3 c hc).2 d hd hs (hf c hc)⟩
theorem open_put {tr : Nat → Nat} {n k v : Nat} (hk : k < n) (h0 : tr k = 0) (hv : 1 ≤ v) : cnq (fun j => decide (va_up tr k v j = 0)) n + 1 = cnq (fun j => decide (tr j = 0)) n := by
  rw [← cnq_rm (q := fun j => decide (tr j = 0)) n hk (by simp [h0])]
  congr 1
  apply cnq_congr
  intro j _
  by_cases e : j = k
  · rw [e, up_s]; simp; omega
  · rw [up_n _ _ e]; simp [e]
theorem cF_sp {w h n g sh : Nat} {co ro : Nat → Nat} (S : Sd w h n g sh co ro) (hn : n ≤ 36) : ∀ e most tr uc ur wi pm qm, CS w n g tr uc ur → cnq (fun j => decide (tr j = 0)) n ≤ e → 1 ≤ most → CO w n g most tr uc ur wi (cF n g sh (2 * 2 ^ g - 2) co ro e most (tr, uc, ur, wi, pm, qm)) := by
  have S' := S
  obtain ⟨s1, s2, s3, s4, s5, s6, s7, s8⟩ := S'
  have full : ∀ most tr uc ur wi pm qm, CS w n g tr uc ur → (∀ j, j < n → tr j ≠ 0) → 1 ≤ most → CO w n g most tr uc ur wi (1, sWit (tr, uc, ur, wi, pm, qm)) := by
    intro most tr uc ur wi pm qm C hf hm
    have L := CS_lat C hf
    have hN := Nn_full hf L
    refine ⟨?_, rfl, rfl, rfl, fun _ => ⟨Lat_eq ?_ L, fun j hj _ => ?_⟩, fun z => by omega⟩
    · show 1 = _; omega
    · intro j hj
      show va_cpy tr wi 0 0 36 j = tr j
      rw [va_cpy, if_pos (by omega)]; congr 1; omega
    · show va_cpy tr wi 0 0 36 j = tr j
      rw [va_cpy, if_pos (by omega)]; congr 1; omega
  intro e
  induction e with
  | zero =>
    intro most tr uc ur wi pm qm C he hm
    rw [cF]
    simp only [sNo]
    rcases rNo_sp (n := n) (co := co) (ro := ro) (tr := tr) (uc := uc) (ur := ur) (g := g) (by omega) (by omega) with ⟨a, b⟩ | ⟨j, a, b, c⟩
    · rw [if_pos a]; exact full most tr uc ur wi pm qm C b hm
    · have := cnq_z (q := fun j => decide (tr j = 0)) n (by omega) j a
      simp [c] at this
  | succ e ih =>
    intro most tr uc ur wi pm qm C he hm
    rw [cF]
    simp only [sNo, sCh, sLk, sPs]
    rcases rNo_sp (n := n) (co := co) (ro := ro) (tr := tr) (uc := uc) (ur := ur) (g := g) (by omega) (by omega) with ⟨a, b⟩ | ⟨j, a, b, c⟩
    · rw [if_pos a]; exact full most tr uc ur wi pm qm C b hm
    · rw [b, if_neg (show ¬ j + 1 = 0 by omega), Nat.add_sub_cancel]
      have run : ∀ pm qm, CO w n g most tr uc ur wi (cW g co ro (cF n g sh (2 * 2 ^ g - 2) co ro e) j (rCh (2 * 2 ^ g - 2) co ro uc ur j) most (g + 1) 1 0 (tr, uc, ur, wi, pm, qm)) := by
        intro pm qm
        refine cW_sp S C a c hm ?_ wi (g + 1) 1 0 wi pm qm (by omega) (by omega) (by omega) ?_ (fun z => by omega) (fun _ => rfl)
        · intro v m wi pm qm hv hf hm1
          exact ih m _ _ _ wi pm qm (CS_put S C a c hv hf) (by have := open_put a c hv.1; omega) hm1
        · rw [Nat.sub_self, sumg]; omega
      by_cases h1 : 1 < pop 32 (rCh (2 * 2 ^ g - 2) co ro uc ur j)
      · rw [if_pos h1]
        by_cases h2 : rLk n g sh (2 * 2 ^ g - 2) co ro tr uc ur pm qm = 0
        · rw [if_pos h2]; exact run _ _
        · rw [if_neg h2]
          have hN := lk_sound S C h2
          exact ⟨by rw [hN]; simp, rfl, rfl, rfl, fun z => by omega, fun _ => rfl⟩
      · rw [if_neg h1]; exact run _ _
