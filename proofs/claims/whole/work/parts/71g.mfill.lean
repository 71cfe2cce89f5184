/-! the reference counts and fills the same -/
theorem mCf_sp (n : Nat) (fl : Nat → Nat) : ∀ m k fo x, n ≤ k + m → mCf n fl m k fo x = if k ≤ x ∧ x < n then fl x else fo x := by
  intro m
  induction m with
  | zero => intro k fo x h; rw [mCf, if_neg (by omega)]
  | succ m ih =>
    intro k fo x h
    rw [mCf]
    by_cases hk : k < n
    · rw [if_pos hk, ih _ _ _ (by omega)]
      by_cases e : x = k
      · rw [if_neg (by omega), e, up_s, if_pos (by omega)]
      · rw [up_n _ _ e]
        by_cases e2 : k ≤ x ∧ x < n
        · rw [if_pos e2, if_pos (by omega)]
        · rw [if_neg e2, if_neg (by omega)]
    · rw [if_neg hk, if_neg (by omega)]
/-- the first u cells are filled and nothing is against it -/
def PF (w g : Nat) (gi fl : Nat → Nat) (u : Nat) : Prop := ∀ c, c < u → (1 ≤ fl c ∧ fl c ≤ g) ∧ (gi c ≠ 0 → fl c = gi c) ∧ ∀ d, d < u → mSee w c d → fl c ≠ fl d
noncomputable def Zc (w n g : Nat) (gi : Nat → Nat) (d : Nat) (F : Nat → Nat) : Nat := Z n g (fun F => ind (Cp w n g gi F)) d F
theorem Zc_base {w n g : Nat} {gi : Nat → Nat} {d : Nat} {F G : Nat → Nat} (hd : d ≤ n) (h : ∀ k, k < n - d → F k = G k) : Zc w n g gi d F = Zc w n g gi d G :=
  Z_base (fun _ _ h => ind_iff ⟨Cp_eq (fun k hk => (h k hk).symm), Cp_eq h⟩) d F G hd h
theorem Zc_pos {w n g : Nat} {gi : Nat → Nat} {d : Nat} {F : Nat → Nat} (hd : d ≤ n) (h : 0 < Zc w n g gi d F) : ∃ G, Bg w n g gi F (n - d) G := by
  obtain ⟨G, g1, g2⟩ := Z_pos d F hd h
  exact ⟨G, ind_pos g2, g1.1⟩
theorem Zc_some {w n g : Nat} {gi : Nat → Nat} {d : Nat} {F G : Nat → Nat} (hd : d ≤ n) (B : Bg w n g gi F (n - d) G) : 0 < Zc w n g gi d F := by
  have C2 : Cp w n g gi (fun k => if k < n then G k else F k) := Cp_eq (fun k hk => by rw [if_pos hk]) B.1
  have := Z_ge (P := fun F => ind (Cp w n g gi F)) (g := g) d F hd (G := fun k => if k < n then G k else F k) ⟨fun k hk => by
    dsimp only; rw [if_pos (by omega)]; exact B.2 k hk, fun k _ hk => by
    dsimp only; rw [if_pos hk]; exact (B.1.1 k hk).1, fun k hk => by dsimp only; rw [if_neg (by omega)]⟩
  rw [ind_t C2] at this
  exact this
def RO (w n g : Nat) (gi : Nat → Nat) (most kp c lo : Nat) (base fo : Nat → Nat) (cnt T : Nat) (r : Nat × FS) : Prop :=
  r.2.2.2.2 = min most (cnt + T) ∧ (r.1 = 0 ↔ cnt + T < most) ∧ (∀ k, k < c → r.2.1 k = base k) ∧ ((0 < cnt ∨ T = 0) → r.2.2.1 = fo) ∧
  (0 < kp → cnt = 0 → 0 < T → Cp w n g gi r.2.2.1 ∧ (∀ k, k < c → r.2.2.1 k = base k) ∧ ∀ j, j < n → ∀ G, Cp w n g gi G → (∀ k, k < c → G k = base k) → (c < n → lo ≤ G c) → (∀ i, i < j → G i = r.2.2.1 i) → r.2.2.1 j ≤ G j)
theorem RO_base {w n g : Nat} {gi : Nat → Nat} {most kp c lo : Nat} {base base' fo : Nat → Nat} {cnt T : Nat} {r : Nat × FS} (h : ∀ k, k < c → base k = base' k) (R : RO w n g gi most kp c lo base fo cnt T r) : RO w n g gi most kp c lo base' fo cnt T r := by
  obtain ⟨a, b, d, e, f⟩ := R
  refine ⟨a, b, fun k hk => by rw [d k hk, h k hk], e, fun h1 h2 h3 => ?_⟩
  obtain ⟨x, y, z⟩ := f h1 h2 h3
  exact ⟨x, fun k hk => by rw [y k hk, h k hk], fun j hj G CG hG => z j hj G CG (fun k hk => by rw [hG k hk, h k hk])⟩
theorem fI_sp {w h g n : Nat} (hw1 : 1 ≤ w) (hw : w ≤ 6) (hh : h ≤ 6) (hg : g ≤ 6) (hn : n = w * h) {gi : Nat → Nat} {most kp c d : Nat} (hc : c + 1 + d = n) {go : FS → Nat × FS}
    (Hg : ∀ fl fo my cnt, PF w g gi fl (c + 1) → cnt < most → RO w n g gi most kp (c + 1) 0 fl fo cnt (Zc w n g gi d fl) (go (fl, fo, my, cnt))) :
    ∀ m x fl fo my cnt, g < x + m → x ≤ g → PF w g gi fl c → cnt < most → RO w n g gi most kp c (x + 1) fl fo cnt (sumg (fun v => Zc w n g gi d (va_up fl c v)) g - sumg (fun v => Zc w n g gi d (va_up fl c v)) x) (fI w h g gi go c m x (fl, fo, my, cnt)) := by
  intro m
  induction m with
  | zero => intro x fl fo my cnt h1 h2; omega
  | succ m ih =>
    intro x fl fo my cnt h1 h2 hP hcm
    rw [fI]
    dsimp only [f1, f2]
    by_cases hx : g < x + 1
    · rw [if_pos hx, show x = g by omega, Nat.sub_self]
      exact ⟨by show cnt = _; omega, ⟨fun _ => by omega, fun _ => rfl⟩, fun k hk => up_n _ _ (by omega), fun _ => rfl, fun _ _ z => by omega⟩
    · rw [if_neg hx]
      have hs : sumg (fun v => Zc w n g gi d (va_up fl c v)) (x + 1) = sumg (fun v => Zc w n g gi d (va_up fl c v)) x + Zc w n g gi d (va_up fl c (x + 1)) := rfl
      have mono := sumg_mono (fun v => Zc w n g gi d (va_up fl c v)) (x + 1) (g - (x + 1))
      rw [show x + 1 + (g - (x + 1)) = g by omega] at mono
      have hkeep : ∀ fl2 : Nat → Nat, (∀ k, k < c → fl2 k = fl k) → ∀ v, Zc w n g gi d (va_up fl2 c v) = Zc w n g gi d (va_up fl c v) := by
        intro fl2 h2 v
        apply Zc_base (by omega)
        intro k hk
        by_cases e : k = c
        · rw [e, up_s, up_s]
        · rw [up_n _ _ e, up_n _ _ e]; exact h2 k (by omega)
      -- the number x + 1 leads nowhere
      have skip : ∀ fl2 my2, (∀ k, k < c → fl2 k = fl k) → Zc w n g gi d (va_up fl c (x + 1)) = 0 → RO w n g gi most kp c (x + 1) fl fo cnt (sumg (fun v => Zc w n g gi d (va_up fl c v)) g - sumg (fun v => Zc w n g gi d (va_up fl c v)) x) (fI w h g gi go c m (x + 1) (fl2, fo, my2, cnt)) := by
        intro fl2 my2 h2 hz
        have r := ih (x + 1) fl2 fo my2 cnt (by omega) (by omega) (fun k hk => by
          rw [h2 k hk]
          refine ⟨(hP k hk).1, (hP k hk).2.1, fun e he hs => ?_⟩
          rw [h2 e he]; exact (hP k hk).2.2 e he hs) hcm
        have r := RO_base h2 r
        rw [sumg_congr g (fun v _ _ => hkeep fl2 h2 v), sumg_congr (x + 1) (fun v _ _ => hkeep fl2 h2 v), hs, hz, Nat.add_zero] at r
        obtain ⟨a, b, d1, e, f⟩ := r
        refine ⟨a, b, d1, e, fun k1 k2 k3 => ?_⟩
        obtain ⟨p, q, s⟩ := f k1 k2 k3
        refine ⟨p, q, fun j hj G CG hG hlo hi => s j hj G CG hG (fun hcn => ?_) hi⟩
        apply Decidable.byContradiction
        intro hq
        have hGc : G c = x + 1 := by have := hlo hcn; omega
        have := Zc_some (w := w) (n := n) (g := g) (gi := gi) (d := d) (F := va_up fl c (x + 1)) (G := G) (by omega) ⟨CG, fun k hk => by
          by_cases e : k = c
          · rw [e, up_s, hGc]
          · rw [up_n _ _ e]; exact hG k (by omega)⟩
        omega
      have hup : ∀ k, k < c → va_up fl c (x + 1) k = fl k := fun k hk => up_n _ _ (by omega)
      have hfit := mFit_sp (w := w) (h := h) (fl := va_up fl c (x + 1)) (gi := gi) (k := c) (v := x + 1) hw1 hw hh (by omega)
      by_cases q1 : mFit w h (va_up fl c (x + 1)) gi c (x + 1) = 0
      · rw [if_pos q1]
        apply skip _ _ hup
        rcases Nat.eq_zero_or_pos (Zc w n g gi d (va_up fl c (x + 1))) with e | e
        · exact e
        · exfalso
          obtain ⟨G, B⟩ := Zc_pos (by omega) e
          have hGc : G c = x + 1 := by rw [B.2 c (by omega), up_s]
          apply absurd q1
          apply hfit.mpr
          refine ⟨fun e he hs hz => ?_, ?_⟩
          · have : G e = x + 1 := by
              by_cases hec : e < c
              · simp only [mAtc, if_pos hec] at hz
                rw [B.2 e (by omega)]; exact hz
              · simp only [mAtc, if_neg hec] at hz
                rw [← hz]; exact B.1.2 e (by omega) (by omega)
            exact (B.1.1 c (by omega)).2 e (by omega) hs (by rw [hGc, this])
          · by_cases h0 : gi c = 0
            · exact Or.inl h0
            · right; rw [← hGc]; exact (B.1.2 c (by omega) h0).symm
      · rw [if_neg q1]
        obtain ⟨ft1, ft2⟩ := hfit.mp q1
        by_cases q2 : mGn w h g (va_up fl c (x + 1)) gi (c + 1) my = 0
        · rw [if_pos q2]
          apply skip _ _ hup
          rcases Nat.eq_zero_or_pos (Zc w n g gi d (va_up fl c (x + 1))) with e | e
          · exact e
          · exfalso
            obtain ⟨G, B⟩ := Zc_pos (by omega) e
            rw [show n - d = c + 1 by omega, hn] at B
            exact mGn_sp hw hh hg B q2
        · rw [if_neg q2]
          have hP2 : PF w g gi (va_up fl c (x + 1)) (c + 1) := by
            intro k hk
            by_cases e : k = c
            · rw [e, up_s]
              refine ⟨by omega, fun z => ?_, fun e2 he2 hs => ?_⟩
              · rcases ft2 with f2 | f2
                · exact absurd f2 z
                · exact f2.symm
              · have := ft1 e2 (by omega) hs
                have hlt : e2 < c := by have := hs.1; omega
                simp only [mAtc, if_pos hlt] at this
                exact fun z => this z.symm
            · rw [up_n _ _ e]
              refine ⟨(hP k (by omega)).1, (hP k (by omega)).2.1, fun e2 he2 hs => ?_⟩
              by_cases e3 : e2 = c
              · rw [e3, up_s]
                rw [e3] at hs
                have := ft1 k (by omega) (mSee_symm hs)
                have hlt : k < c := by omega
                simp only [mAtc, if_pos hlt] at this
                rw [up_n _ _ e] at this
                exact this
              · rw [up_n _ _ e3]; exact (hP k (by omega)).2.2 e2 (by omega) hs
          have g0 := Hg (va_up fl c (x + 1)) fo (mMz w h g (va_up fl c (x + 1)) gi (c + 1) my) cnt hP2 hcm
          generalize go (va_up fl c (x + 1), fo, mMz w h g (va_up fl c (x + 1)) gi (c + 1) my, cnt) = r at g0
          obtain ⟨r0, rfl', rfo, rmy, rc⟩ := r
          obtain ⟨a, b, d1, e, f⟩ := g0
          dsimp only at a b d1 e f ⊢
          have keep2 : ∀ k, k < c → rfl' k = fl k := fun k hk => by rw [d1 k (by omega)]; exact hup k hk
          -- where the first filling has x + 1 here
          have first : 0 < kp → cnt = 0 → 0 < Zc w n g gi d (va_up fl c (x + 1)) → Cp w n g gi rfo ∧ (∀ k, k < c → rfo k = fl k) ∧ ∀ j, j < n → ∀ G, Cp w n g gi G → (∀ k, k < c → G k = fl k) → (c < n → x + 1 ≤ G c) → (∀ i, i < j → G i = rfo i) → rfo j ≤ G j := by
            intro k1 k2 k3
            obtain ⟨p, q, s⟩ := f k1 k2 k3
            have hrc : rfo c = x + 1 := by rw [q c (by omega), up_s]
            refine ⟨p, fun k hk => by rw [q k (by omega)]; exact hup k hk, fun j hj G CG hG hlo hi => ?_⟩
            have hl := hlo (by omega)
            by_cases eG : G c = x + 1
            · refine s j hj G CG (fun k hk => ?_) (fun _ => Nat.zero_le _) hi
              by_cases ek : k = c
              · rw [ek, up_s, eG]
              · rw [up_n _ _ ek]; exact hG k (by omega)
            · rcases Nat.lt_trichotomy j c with hj2 | hj2 | hj2
              · rw [q j (by omega), hup j hj2, hG j hj2]; exact Nat.le_refl _
              · rw [hj2, hrc]; exact hl
              · have := hi c hj2; rw [hrc] at this; exact absurd this eG
          by_cases hz : r0 = 0
          · rw [if_pos hz]
            have hlt := b.mp hz
            have a' : rc = cnt + Zc w n g gi d (va_up fl c (x + 1)) := by omega
            have r := ih (x + 1) rfl' rfo rmy rc (by omega) (by omega) (fun k hk => by
              rw [keep2 k hk]
              refine ⟨(hP k hk).1, (hP k hk).2.1, fun e he hs => ?_⟩
              rw [keep2 e he]; exact (hP k hk).2.2 e he hs) (by omega)
            have r := RO_base keep2 r
            rw [sumg_congr g (fun v _ _ => hkeep rfl' keep2 v), sumg_congr (x + 1) (fun v _ _ => hkeep rfl' keep2 v)] at r
            obtain ⟨a2, b2, d2, e2, f2⟩ := r
            refine ⟨by omega, by rw [b2]; omega, d2, ?_, ?_⟩
            · intro hq
              rw [e2 (by omega), e (by omega)]
            · intro k1 k2 k3
              rcases Nat.eq_zero_or_pos (Zc w n g gi d (va_up fl c (x + 1))) with ez | ez
              · obtain ⟨p, q, s⟩ := f2 k1 (by omega) (by omega)
                refine ⟨p, q, fun j hj G CG hG hlo hi => s j hj G CG hG (fun hcn => ?_) hi⟩
                apply Decidable.byContradiction
                intro hq
                have hGc : G c = x + 1 := by have := hlo hcn; omega
                have := Zc_some (w := w) (n := n) (g := g) (gi := gi) (d := d) (F := va_up fl c (x + 1)) (G := G) (by omega) ⟨CG, fun k hk => by
                  by_cases e : k = c
                  · rw [e, up_s, hGc]
                  · rw [up_n _ _ e]; exact hG k (by omega)⟩
                omega
              · rw [e2 (by omega)]
                exact first k1 k2 ez
          · rw [if_neg hz]
            have hge : ¬ cnt + Zc w n g gi d (va_up fl c (x + 1)) < most := fun q => hz (b.mpr q)
            refine ⟨by show rc = _; omega, ⟨fun q => absurd q hz, fun q => by omega⟩, fun k hk => keep2 k hk, ?_, ?_⟩
            · intro hq
              exact e (by omega)
            · intro k1 k2 k3
              exact first k1 k2 (by omega)
theorem fP_sp {w h g n : Nat} (hw1 : 1 ≤ w) (hw : w ≤ 6) (hh : h ≤ 6) (hg : g ≤ 6) (hn : n = w * h) {gi : Nat → Nat} {most kp : Nat} : ∀ d, d ≤ n → ∀ fl fo my cnt, PF w g gi fl (n - d) → cnt < most → RO w n g gi most kp (n - d) 0 fl fo cnt (Zc w n g gi d fl) (fP w h g gi most kp d (fl, fo, my, cnt)) := by
  intro d
  induction d with
  | zero =>
    intro _ fl fo my cnt hP hcm
    rw [Nat.sub_zero] at hP ⊢
    have C : Cp w n g gi fl := ⟨fun c hc => ⟨(hP c hc).1, (hP c hc).2.2⟩, fun k hk => (hP k hk).2.1⟩
    have e1 : Zc w n g gi 0 fl = 1 := ind_t C
    rw [fP, e1, ← hn]
    dsimp only
    refine ⟨by show cnt + 1 = _; omega, ?_, fun _ _ => rfl, ?_, ?_⟩
    · by_cases q : cnt + 1 < most
      · simp [q]
      · simp [q]
    · intro q
      dsimp only
      rw [if_neg (by omega)]
    · intro k1 k2 _
      dsimp only
      rw [if_pos ⟨k1, k2⟩]
      have e : ∀ k, k < n → mCf n fl (n + 1) 0 fo k = fl k := fun k hk => by rw [mCf_sp _ _ _ _ _ _ (by omega), if_pos (by omega)]
      refine ⟨Cp_eq e C, e, fun j hj G _ hG _ _ => ?_⟩
      rw [e j hj, hG j hj]; exact Nat.le_refl _
  | succ d ih =>
    intro hd fl fo my cnt hP hcm
    rw [fP]
    dsimp only
    rw [← hn]
    have hc : n - 1 - d = n - (d + 1) := by omega
    rw [hc]
    have r := fI_sp hw1 hw hh hg hn (gi := gi) (most := most) (kp := kp) (c := n - (d + 1)) (d := d) (by omega) (go := fP w h g gi most kp d) (by
      intro fl fo my cnt hP hcm
      rw [show n - (d + 1) + 1 = n - d by omega] at hP ⊢
      exact ih (by omega) fl fo my cnt hP hcm) (g + 1) 0 (va_up fl (n - (d + 1)) 0) fo my cnt (by omega) (by omega) (fun k hk => by
        rw [up_n _ _ (by omega)]
        refine ⟨(hP k hk).1, (hP k hk).2.1, fun e he hs => ?_⟩
        rw [up_n _ _ (by omega)]; exact (hP k hk).2.2 e he hs) hcm
    have r := RO_base (base' := fl) (fun k hk => up_n _ _ (by omega)) r
    have eZ : Zc w n g gi (d + 1) fl = sumg (fun v => Zc w n g gi d (va_up (va_up fl (n - (d + 1)) 0) (n - (d + 1)) v)) g - sumg (fun v => Zc w n g gi d (va_up (va_up fl (n - (d + 1)) 0) (n - (d + 1)) v)) 0 := by
      rw [show sumg (fun v => Zc w n g gi d (va_up (va_up fl (n - (d + 1)) 0) (n - (d + 1)) v)) 0 = 0 from rfl, Nat.sub_zero, Zc, Z]
      apply sumg_congr
      intro v _ _
      rw [hc]
      congr 1
      funext k
      by_cases e : k = n - (d + 1)
      · rw [e, up_s, up_s]
      · rw [up_n _ _ e, up_n _ _ e, up_n _ _ e]
    rw [eZ]
    obtain ⟨a, b, d1, e, f⟩ := r
    refine ⟨a, b, d1, e, fun k1 k2 k3 => ?_⟩
    obtain ⟨p, q, s⟩ := f k1 k2 k3
    exact ⟨p, q, fun j hj G CG hG _ hi => s j hj G CG hG (fun hcn => (CG.1 _ hcn).1.1) hi⟩
/-- the reference's whole search -/
theorem fT_sp {w h g n : Nat} (hw1 : 1 ≤ w) (hh1 : 1 ≤ h) (hw : w ≤ 6) (hh : h ≤ 6) (hg : g ≤ 6) (hn : n = w * h) (gi : Nat → Nat) (most kp : Nat) (fl fo my : Nat → Nat) :
    (fT w h g gi most kp fl fo my).2.2.2 = min most (Nn w n g gi) ∧ ((most = 0 ∨ Nn w n g gi = 0) → (fT w h g gi most kp fl fo my).2.1 = fo) ∧ (0 < kp → 0 < most → 0 < Nn w n g gi → LexL w n g gi (fT w h g gi most kp fl fo my).2.1) := by
  have hn1 : 1 ≤ n := by rw [hn]; exact Nat.mul_pos hw1 hh1
  rw [fT]
  by_cases q1 : mGn w h g fl gi 0 my = 0
  · rw [if_pos q1]
    have hN : Nn w n g gi = 0 := by
      apply Nn_none
      intro F C
      rw [hn] at C
      exact mGn_sp hw hh hg (u := 0) ⟨C, fun k hk => by omega⟩ q1
    rw [hN]
    exact ⟨by simp, fun _ => rfl, fun _ _ z => by omega⟩
  · rw [if_neg q1]
    by_cases q2 : most = 0
    · rw [if_pos q2, q2]
      exact ⟨by simp, fun _ => rfl, fun _ z => by omega⟩
    · rw [if_neg q2]
      have e : fI w h g gi (fP w h g gi most kp (w * h - 1)) 0 (g + 1) 0 (va_up fl 0 0, fo, mMz w h g fl gi 0 my, 0) = fP w h g gi most kp n (fl, fo, mMz w h g fl gi 0 my, 0) := by
        rw [← hn]
        cases n with
        | zero => omega
        | succ m =>
          rw [fP, ← hn]
          simp only [Nat.add_sub_cancel, Nat.sub_self]
      rw [e]
      have r := fP_sp hw1 hw hh hg hn (gi := gi) (most := most) (kp := kp) n (Nat.le_refl n) fl fo (mMz w h g fl gi 0 my) 0 (fun k hk => by omega) (by omega)
      have eN : Zc w n g gi n fl = Nn w n g gi := Zc_base (Nat.le_refl n) (fun k hk => by omega)
      rw [eN] at r
      obtain ⟨a, b, d1, e2, f⟩ := r
      refine ⟨by rw [a]; omega, fun z => e2 (by omega), fun k1 k2 k3 => ?_⟩
      obtain ⟨p, q, s⟩ := f k1 rfl k3
      exact ⟨p, fun j hj G CG hG => s j hj G CG (fun k hk => by omega) (fun _ => Nat.zero_le _) hG⟩
