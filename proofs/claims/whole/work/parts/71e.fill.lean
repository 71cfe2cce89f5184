/-! laying what is given, filling up, the least filling -/
theorem CS_zero {w n g : Nat} {tr uc ur : Nat → Nat} (h1 : ∀ k, k < n → tr k = 0) (h2 : ∀ c, c < 6 → uc c = 0) (h3 : ∀ c, c < 6 → ur c = 0) (h4 : ∀ c, uc c < 128) (h5 : ∀ c, ur c < 128) : CS w n g tr uc ur := by
  refine ⟨?_, ?_, ?_, h4, h5⟩
  · intro c v hc hv
    rw [h2 c hc]
    constructor
    · intro z; simp at z
    · rintro ⟨k, k1, _, k3⟩; rw [h1 k k1] at k3; omega
  · intro c v hc hv
    rw [h3 c hc]
    constructor
    · intro z; simp at z
    · rintro ⟨k, k1, _, k3⟩; rw [h1 k k1] at k3; omega
  · intro k hk
    rw [h1 k hk]
    exact ⟨by omega, fun d _ _ z => absurd rfl z⟩
theorem rLay_sp {w h n g sh : Nat} {co ro : Nat → Nat} (S : Sd w h n g sh co ro) {fx : Nat → Nat} (hfx : ∀ k, k < n → fx k ≤ g) : ∀ m k tr uc ur, n < k + m → k ≤ n → CS w n g tr uc ur → (∀ j, j < k → tr j = fx j) → (∀ j, k ≤ j → j < n → tr j = 0) →
    ((rLay n (2 * 2 ^ g - 2) fx co ro m k (tr, uc, ur)).1 = 0 ∧ Nn w n g fx = 0) ∨ ((rLay n (2 * 2 ^ g - 2) fx co ro m k (tr, uc, ur)).1 = 1 ∧ CS w n g (rLay n (2 * 2 ^ g - 2) fx co ro m k (tr, uc, ur)).2.1 (rLay n (2 * 2 ^ g - 2) fx co ro m k (tr, uc, ur)).2.2.1 (rLay n (2 * 2 ^ g - 2) fx co ro m k (tr, uc, ur)).2.2.2 ∧ ∀ j, j < n → (rLay n (2 * 2 ^ g - 2) fx co ro m k (tr, uc, ur)).2.1 j = fx j) := by
  intro m
  induction m with
  | zero => intro k tr uc ur h1 h2; omega
  | succ m ih =>
    intro k tr uc ur h1 h2 C e1 e2
    rw [rLay]
    by_cases hk : k < n
    · rw [if_pos hk]
      dsimp only
      have h0 : tr k = 0 := e2 k (Nat.le_refl k) hk
      by_cases hz : fx k = 0
      · rw [if_pos hz]
        refine ih (k + 1) tr uc ur (by omega) (by omega) C ?_ (fun j a b => e2 j (by omega) b)
        intro j hj
        by_cases e : j = k
        · rw [e, h0, hz]
        · exact e1 j (by omega)
      · rw [if_neg hz, div_tb]
        have hch := ch_iff S C hk h0 (fx k)
        by_cases hb : (rCh (2 * 2 ^ g - 2) co ro uc ur k).testBit (fx k) = true
        · rw [if_pos hb, if_neg (show ¬ (1 : Nat) = 0 by omega)]
          obtain ⟨hv, hf⟩ := hch.mp hb
          refine ih (k + 1) _ _ _ (by omega) (by omega) (CS_put S C hk h0 hv hf) ?_ ?_
          · intro j hj
            by_cases e : j = k
            · rw [e, up_s]
            · rw [up_n _ _ e]; exact e1 j (by omega)
          · intro j a b
            rw [up_n _ _ (by omega)]; exact e2 j (by omega) b
        · rw [if_neg hb, if_pos (show (0 : Nat) = 0 from rfl)]
          refine Or.inl ⟨rfl, ?_⟩
          have : ¬ ∀ d, d < n → mSee w k d → tr d ≠ fx k := fun z => hb (hch.mpr ⟨⟨by omega, hfx k hk⟩, z⟩)
          have : ∃ d, d < n ∧ mSee w k d ∧ tr d = fx k := by
            apply Classical.byContradiction
            intro q
            exact this (fun d hd hs e => q ⟨d, hd, hs, e⟩)
          obtain ⟨d, d1, d2, d3⟩ := this
          apply Nn_none
          intro F K
          have hd : d < k := by
            apply Decidable.byContradiction
            intro q
            rw [e2 d (by omega) d1] at d3; exact hz d3.symm
          rw [e1 d hd] at d3
          exact (K.1 k hk).2 d d1 d2 (by rw [K.2 k hk hz, K.2 d d1 (by rw [d3]; exact hz), d3])
    · rw [if_neg hk]
      exact Or.inr ⟨rfl, C, fun j hj => e1 j (by omega)⟩
theorem rLG_sp {w h n g sh : Nat} {co ro : Nat → Nat} (S : Sd w h n g sh co ro) {fx : Nat → Nat} (hfx : ∀ k, k < n → fx k ≤ g) {tr uc ur : Nat → Nat} (h4 : ∀ c, uc c < 128) (h5 : ∀ c, ur c < 128) :
    ((rLG n (2 * 2 ^ g - 2) fx co ro (tr, uc, ur)).1 = 0 ∧ Nn w n g fx = 0) ∨ ((rLG n (2 * 2 ^ g - 2) fx co ro (tr, uc, ur)).1 = 1 ∧ CS w n g (rLG n (2 * 2 ^ g - 2) fx co ro (tr, uc, ur)).2.1 (rLG n (2 * 2 ^ g - 2) fx co ro (tr, uc, ur)).2.2.1 (rLG n (2 * 2 ^ g - 2) fx co ro (tr, uc, ur)).2.2.2 ∧ ∀ j, j < n → (rLG n (2 * 2 ^ g - 2) fx co ro (tr, uc, ur)).2.1 j = fx j) := by
  have z : ∀ (f : Nat → Nat), (∀ c, f c < 128) → ∀ c, rZ 7 0 6 f c < 128 := by
    intro f hf c; rw [rZ_sp _ _ _ _ _ (by omega)]; split
    · omega
    · exact hf c
  have z0 : ∀ (f : Nat → Nat) c, c < 6 → rZ 7 0 6 f c = 0 := by
    intro f c hc; rw [rZ_sp _ _ _ _ _ (by omega), if_pos ⟨by omega, hc⟩]
  rw [rLG]
  have t0 : ∀ k, k < n → rZ (n + 1) 0 n tr k = 0 := fun k hk => by rw [rZ_sp _ _ _ _ _ (by omega), if_pos ⟨by omega, hk⟩]
  exact rLay_sp S hfx (n + 1) 0 _ _ _ (by omega) (by omega) (CS_zero t0 (z0 uc) (z0 ur) (z uc h4) (z ur h5)) (fun j hj => by omega) (fun j _ hj => t0 j hj)
/-- counting, as the program answers -/
theorem sUp_sp {w h n g sh : Nat} {co ro : Nat → Nat} (S : Sd w h n g sh co ro) (hn : n ≤ 36) {fx : Nat → Nat} (hfx : ∀ k, k < n → fx k ≤ g) {tr uc ur wi pm qm : Nat → Nat} (h4 : ∀ c, uc c < 128) (h5 : ∀ c, ur c < 128) (most : Nat) :
    (sUp n g sh (2 * 2 ^ g - 2) fx co ro most (tr, uc, ur, wi, pm, qm)).1 = min most (Nn w n g fx) := by
  rw [sUp]
  by_cases hm : most = 0
  · rw [if_pos hm, hm]; simp
  · rw [if_neg hm]
    simp only [sL0, sLG]
    rcases rLG_sp S hfx (tr := tr) h4 h5 with ⟨a, b⟩ | ⟨a, b, c⟩
    · rw [if_pos a, b]; simp
    · rw [if_neg (by omega)]
      have r := cF_sp S hn 36 most _ _ _ wi pm qm b (Nat.le_trans (cnq_le _ _) hn) (by omega)
      rw [r.1, Nn_eq c]
/-- the least of all fillings, cell by cell -/
def LexL (w n g : Nat) (T F : Nat → Nat) : Prop := Cp w n g T F ∧ ∀ j, j < n → ∀ G, Cp w n g T G → (∀ i, i < j → G i = F i) → F j ≤ G j
theorem lex_uniq {w n g : Nat} {T F G : Nat → Nat} (h1 : LexL w n g T F) (h2 : LexL w n g T G) : ∀ j, j < n → F j = G j := by
  intro j
  induction j using Nat.strongRecOn with
  | ind j ih =>
    intro hj
    have a := h1.2 j hj G h2.1 (fun i hi => (ih i hi (by omega)).symm)
    have b := h2.2 j hj F h1.1 (fun i hi => ih i hi (by omega))
    omega
theorem sSt_sp {w h n g sh : Nat} {co ro : Nat → Nat} (S : Sd w h n g sh co ro) (hn : n ≤ 36) {tr uc ur : Nat → Nat} (C : CS w n g tr uc ur) {k : Nat} (hk : k < n) (h0 : tr k = 0) {wi : Nat → Nat} (K : Cp w n g tr wi) :
    ∀ m v pm qm, 1 ≤ v → v ≤ wi k → wi k < v + m → (∀ u, 1 ≤ u → u < v → Nn w n g (va_up tr k u) = 0) →
      ∃ x uc' ur' wi' pm' qm', sSt n g sh (2 * 2 ^ g - 2) co ro k (wi k) (rCh (2 * 2 ^ g - 2) co ro uc ur k) m v (tr, uc, ur, wi, pm, qm) = (va_up tr k x, uc', ur', wi', pm', qm') ∧ 1 ≤ x ∧ CS w n g (va_up tr k x) uc' ur' ∧ Cp w n g (va_up tr k x) wi' ∧ ∀ u, 1 ≤ u → u < x → Nn w n g (va_up tr k u) = 0 := by
  intro m
  induction m with
  | zero => intro v pm qm h1 h2 h3; omega
  | succ m ih =>
    intro v pm qm h1 h2 h3 hN
    rw [sSt]
    have S' := S
    obtain ⟨s1, s2, s3, s4, s5, s6, s7, s8⟩ := S'
    have hw := (K.1 k hk).1
    by_cases hlt : v < wi k
    · rw [if_pos hlt, div_tb]
      have hch := ch_iff S C hk h0 v
      by_cases hb : (rCh (2 * 2 ^ g - 2) co ro uc ur k).testBit v = true
      · rw [if_pos hb, if_neg (show ¬ (1 : Nat) = 0 by omega)]
        obtain ⟨hv, hf⟩ := hch.mp hb
        have C2 := CS_put S C hk h0 hv hf
        have q0 := cF_sp S hn 36 1 _ _ _ wi pm qm C2 (Nat.le_trans (cnq_le _ _) hn) (Nat.le_refl 1)
        simp only [sPut]
        generalize cF n g sh (2 * 2 ^ g - 2) co ro 36 1 (va_up tr k v, rPut uc (co k) v, rPut ur (ro k) v, wi, pm, qm) = r at q0
        obtain ⟨r0, rtr, ruc, rur, rwi, rpm, rqm⟩ := r
        obtain ⟨g1, g2, g3, g4, g5, g6⟩ := q0
        dsimp only at g1 g2 g3 g4 g5 g6 ⊢
        obtain ⟨c1, c2, c3, c4, c5⟩ := C
        have b1 : (uc (co k)).testBit v = false := by
          rw [rCh_tb (by omega)] at hb; simp only [Bool.and_eq_true, Bool.not_eq_true'] at hb; exact hb.1.2
        have b2 : (ur (ro k)).testBit v = false := by
          rw [rCh_tb (by omega)] at hb; simp only [Bool.and_eq_true, Bool.not_eq_true'] at hb; exact hb.2
        rw [g2, g3, g4]
        by_cases hz : r0 = 0
        · rw [if_pos hz]
          simp only [sTake]
          have et : va_up (va_up tr k v) k 0 = tr := by
            funext j
            by_cases e : j = k
            · rw [e, up_s, h0]
            · rw [up_n _ _ e, up_n _ _ e]
          have e0 : Nn w n g (va_up tr k v) = 0 := by omega
          rw [take_put b1 (c4 _) (by omega), take_put b2 (c5 _) (by omega), et, g6 e0]
          refine ih (v + 1) rpm rqm (by omega) (by omega) (by omega) ?_
          intro u hu1 hu2
          by_cases e : u = v
          · rw [e]; exact e0
          · exact hN u hu1 (by omega)
        · rw [if_neg hz]
          exact ⟨v, _, _, rwi, rpm, rqm, rfl, h1, C2, g5 (by omega), hN⟩
      · rw [if_neg hb, if_pos (show (0 : Nat) = 0 from rfl)]
        refine ih (v + 1) pm qm (by omega) (by omega) (by omega) ?_
        intro u hu1 hu2
        by_cases e : u = v
        · rw [e]
          have : ¬ ∀ d, d < n → mSee w k d → tr d ≠ v := fun z => hb (hch.mpr ⟨⟨h1, by omega⟩, z⟩)
          have : ∃ d, d < n ∧ mSee w k d ∧ tr d = v := by
            apply Classical.byContradiction
            intro q
            exact this (fun d hd hs e => q ⟨d, hd, hs, e⟩)
          obtain ⟨d, d1, d2, d3⟩ := this
          exact Nn_bad hk d1 d2 h1 d3
        · exact hN u hu1 (by omega)
    · rw [if_neg hlt]
      have e : v = wi k := by omega
      refine ⟨wi k, _, _, wi, pm, qm, rfl, hw.1, CS_put S C hk h0 hw ?_, ⟨K.1, ?_⟩, by rw [← e]; exact hN⟩
      · intro d hd hs he
        have hz : tr d ≠ 0 := by omega
        have := K.2 d hd hz
        exact (K.1 k hk).2 d hd hs (by rw [this, he])
      · intro j hj hz
        by_cases ej : j = k
        · rw [ej, up_s]
        · rw [up_n _ _ ej] at hz ⊢; exact K.2 j hj hz
theorem sLp_sp {w h n g sh : Nat} {co ro : Nat → Nat} (S : Sd w h n g sh co ro) (hn : n ≤ 36) {fx : Nat → Nat} : ∀ m k tr uc ur wi pm qm, n < k + m → k ≤ n → CS w n g tr uc ur → Cp w n g tr wi → (∀ j, k ≤ j → j < n → tr j = fx j) → (∀ j, j < k → tr j ≠ 0 ∧ (fx j ≠ 0 → tr j = fx j) ∧ ∀ G, Cp w n g fx G → (∀ i, i < j → G i = tr i) → tr j ≤ G j) →
    LexL w n g fx (sLp n g sh (2 * 2 ^ g - 2) co ro m k (tr, uc, ur, wi, pm, qm)).1 := by
  intro m
  induction m with
  | zero => intro k tr uc ur wi pm qm h1 h2; omega
  | succ m ih =>
    intro k tr uc ur wi pm qm h1 h2 C K hf hl
    rw [sLp]
    by_cases hk : k < n
    · rw [if_pos hk]
      dsimp only
      by_cases h0 : tr k = 0
      · rw [if_pos h0]
        simp only [sS1, sCh]
        have hw := (K.1 k hk).1
        have S' := S
        obtain ⟨s1, s2, s3, s4, s5, s6, s7, s8⟩ := S'
        obtain ⟨x, uc', ur', wi', pm', qm', e1, e2, e3, e4, e5⟩ := sSt_sp S hn C hk h0 K 8 1 pm qm (Nat.le_refl 1) hw.1 (by omega) (fun u a b => by omega)
        rw [e1]
        refine ih (k + 1) _ _ _ _ _ _ (by omega) (by omega) e3 e4 ?_ ?_
        · intro j a b
          rw [up_n _ _ (by omega)]; exact hf j (by omega) b
        · intro j hj
          by_cases ej : j = k
          · rw [ej, up_s]
            refine ⟨by omega, fun z => ?_, ?_⟩
            · rw [← hf k (Nat.le_refl k) hk] at z; exact absurd h0 z
            · intro G CG hG
              apply Decidable.byContradiction
              intro hc
              have hGk := (CG.1 k hk).1
              have z := e5 (G k) hGk.1 (by omega)
              have : Cp w n g (va_up tr k (G k)) G := by
                refine ⟨CG.1, fun i hi hz => ?_⟩
                by_cases ei : i = k
                · rw [ei, up_s]
                · rw [up_n _ _ ei] at hz ⊢
                  rcases Nat.lt_or_ge i k with q | q
                  · have := hG i q; rw [up_n _ _ ei] at this; exact this
                  · rw [hf i q hi] at hz ⊢; exact CG.2 i hi hz
              have := Nn_some this
              omega
          · rw [up_n _ _ ej]
            obtain ⟨a, b, c⟩ := hl j (by omega)
            refine ⟨a, b, fun G CG hG => c G CG (fun i hi => ?_)⟩
            have := hG i hi
            rw [up_n _ _ (by omega)] at this; exact this
      · rw [if_neg h0]
        refine ih (k + 1) tr uc ur wi pm qm (by omega) (by omega) C K (fun j a b => hf j (by omega) b) ?_
        intro j hj
        by_cases ej : j = k
        · rw [ej]
          have e := hf k (Nat.le_refl k) hk
          refine ⟨h0, fun _ => e, fun G CG _ => ?_⟩
          rw [e] at h0
          rw [CG.2 k hk h0, e]
          exact Nat.le_refl _
        · exact hl j (by omega)
    · rw [if_neg hk]
      dsimp only
      have hk2 : k = n := by omega
      refine ⟨⟨CS_lat C (fun j hj => (hl j (by omega)).1), fun j hj hz => (hl j (by omega)).2.1 hz⟩, fun j hj => (hl j (by omega)).2.2⟩
/-- filling up, as the program answers -/
theorem sFl_sp {w h n g sh : Nat} {co ro : Nat → Nat} (S : Sd w h n g sh co ro) (hn : n ≤ 36) {fx le : Nat → Nat} (hfx : ∀ k, k < n → fx k ≤ g) {tr uc ur wi pm qm : Nat → Nat} (h4 : ∀ c, uc c < 128) (h5 : ∀ c, ur c < 128) :
    ((sFl n g sh (2 * 2 ^ g - 2) fx co ro le (tr, uc, ur, wi, pm, qm)).1 = 0 ∧ Nn w n g fx = 0) ∨ ((sFl n g sh (2 * 2 ^ g - 2) fx co ro le (tr, uc, ur, wi, pm, qm)).1 = 1 ∧ 0 < Nn w n g fx ∧ LexL w n g fx (sFl n g sh (2 * 2 ^ g - 2) fx co ro le (tr, uc, ur, wi, pm, qm)).2.1) := by
  rw [sFl]
  simp only [sL0, sLG]
  rcases rLG_sp S hfx (tr := tr) h4 h5 with ⟨a, b⟩ | ⟨a, b, c⟩
  · rw [if_pos a]; exact Or.inl ⟨rfl, b⟩
  · rw [if_neg (show ¬ _ = 0 by rw [a]; omega)]
    have q0 := cF_sp S hn 36 1 _ _ _ wi pm qm b (Nat.le_trans (cnq_le _ _) hn) (Nat.le_refl 1)
    generalize cF n g sh (2 * 2 ^ g - 2) co ro 36 1 ((rLG n (2 * 2 ^ g - 2) fx co ro (tr, uc, ur)).2.1, (rLG n (2 * 2 ^ g - 2) fx co ro (tr, uc, ur)).2.2.1, (rLG n (2 * 2 ^ g - 2) fx co ro (tr, uc, ur)).2.2.2, wi, pm, qm) = r at q0
    obtain ⟨r0, rtr, ruc, rur, rwi, rpm, rqm⟩ := r
    obtain ⟨g1, g2, g3, g4, g5, g6⟩ := q0
    dsimp only at g1 g2 g3 g4 g5 g6 ⊢
    rw [g2, g3, g4]
    have hN := Nn_eq (w := w) (g := g) c
    by_cases hz : r0 = 0
    · rw [if_pos hz]; exact Or.inl ⟨rfl, by omega⟩
    · rw [if_neg hz]
      refine Or.inr ⟨rfl, by omega, ?_⟩
      have L := sLp_sp S hn (fx := fx) (n + 1) 0 _ _ _ rwi rpm rqm (by omega) (by omega) b (g5 (by omega)) (fun j _ hj => c j hj) (fun j hj => by omega)
      dsimp only
      generalize (sLp n g sh (2 * 2 ^ g - 2) co ro (n + 1) 0 ((rLG n (2 * 2 ^ g - 2) fx co ro (tr, uc, ur)).2.1, (rLG n (2 * 2 ^ g - 2) fx co ro (tr, uc, ur)).2.2.1, (rLG n (2 * 2 ^ g - 2) fx co ro (tr, uc, ur)).2.2.2, rwi, rpm, rqm)).1 = t at L
      have e : ∀ k, k < n → va_cpy t le 0 0 36 k = t k := by
        intro k hk
        rw [va_cpy, if_pos (by omega)]; congr 1; omega
      refine ⟨Cp_eq e L.1, fun j hj G CG hG => ?_⟩
      rw [e j hj]
      exact L.2 j hj G CG (fun i hi => by rw [hG i hi, e i (by omega)])
