/-! Rectangle: fills and fill -/
theorem rLay_ok {n al : Nat} {fx co ro : Nat → Nat} (hfx : ∀ k, fx k < 7) : ∀ m k (st : S3), ((∀ j, st.1 j < 8) ∧ (∀ j, st.2.1 j < 128) ∧ (∀ j, st.2.2 j < 128)) → (rLay n al fx co ro m k st).1 ≤ 1 ∧ (∀ j, (rLay n al fx co ro m k st).2.1 j < 8) ∧ (∀ j, (rLay n al fx co ro m k st).2.2.1 j < 128) ∧ (∀ j, (rLay n al fx co ro m k st).2.2.2 j < 128) := by
  intro m
  induction m with
  | zero => intro k st hs; exact ⟨Nat.le_refl 1, hs⟩
  | succ m ih =>
    intro k st hs
    rw [rLay]
    split
    · split
      · exact ih _ _ hs
      · split
        · exact ⟨Nat.zero_le 1, hs⟩
        · exact ih _ _ ⟨up_lt hs.1 (by have := hfx k; omega), rPut_lt hs.2.1 (hfx k), rPut_lt hs.2.2 (hfx k)⟩
    · exact ⟨Nat.le_refl 1, hs⟩
abbrev sL0 (n al : Nat) (fx co ro : Nat → Nat) (st : S6) : Nat × S3 := rLG n al fx co ro (st.1, st.2.1, st.2.2.1)
abbrev sLG (n al : Nat) (fx co ro : Nat → Nat) (st : S6) : S6 := ((sL0 n al fx co ro st).2.1, (sL0 n al fx co ro st).2.2.1, (sL0 n al fx co ro st).2.2.2, st.2.2.2)
theorem iv_lg {n al : Nat} {fx co ro : Nat → Nat} {st : S6} (hfx : ∀ k, fx k < 7) (h : Iv st) : (sL0 n al fx co ro st).1 ≤ 1 ∧ Iv (sLG n al fx co ro st) := by
  obtain ⟨h0, h1, h2, h3⟩ := rLay_ok (n := n) (al := al) (fx := fx) (co := co) (ro := ro) hfx (n + 1) 0 (rZ (n + 1) 0 n st.1, rZ 7 0 6 st.2.1, rZ 7 0 6 st.2.2.1) ⟨rZ_lt (by decide) _ _ _ h.1, rZ_lt (by decide) _ _ _ h.2.1, rZ_lt (by decide) _ _ _ h.2.2.1⟩
  exact ⟨h0, h1, h2, h3, h.2.2.2⟩
/-- fills: how many, and what the arrays are then -/
def sUp (n g sh al : Nat) (fx co ro : Nat → Nat) (most : Nat) (st : S6) : Nat × S6 := if most = 0 then (0, st) else if (sL0 n al fx co ro st).1 = 0 then (0, sLG n al fx co ro st) else cF n g sh al co ro 36 most (sLG n al fx co ro st)
/-- one cell settled on its least number; known: the number of a rectangle that there is -/
def sSt (n g sh al : Nat) (co ro : Nat → Nat) (k known ch : Nat) : Nat → Nat → S6 → S6
  | 0, _, st => sPut co ro st k known
  | m + 1, v, st => if v < known then (if ch / 2 ^ v % 2 = 0 then sSt n g sh al co ro k known ch m (v + 1) st else if (cF n g sh al co ro 36 1 (sPut co ro st k v)).1 = 0 then sSt n g sh al co ro k known ch m (v + 1) (sTake co ro (cF n g sh al co ro 36 1 (sPut co ro st k v)).2 k v) else (cF n g sh al co ro 36 1 (sPut co ro st k v)).2) else sPut co ro st k known
abbrev sS1 (n g sh al : Nat) (co ro : Nat → Nat) (k : Nat) (st : S6) : S6 := sSt n g sh al co ro k (st.2.2.2.1 k) (sCh al co ro st k) 8 1 st
def sLp (n g sh al : Nat) (co ro : Nat → Nat) : Nat → Nat → S6 → S6
  | 0, _, st => st
  | m + 1, k, st => if k < n then (if st.1 k = 0 then sLp n g sh al co ro m (k + 1) (sS1 n g sh al co ro k st) else sLp n g sh al co ro m (k + 1) st) else st
theorem iv_st {n g sh al : Nat} {co ro : Nat → Nat} (hg : g ≤ 6) (hal : al < 128) {k known ch : Nat} (hk : known < 7) : ∀ m v st, known ≤ v + m → Iv st → Iv (sSt n g sh al co ro k known ch m v st) := by
  intro m
  induction m with
  | zero => intro v st _ h; exact iv_put h hk
  | succ m ih =>
    intro v st hm h
    rw [sSt]
    split
    · have g1 := cF_ok (n := n) (sh := sh) (co := co) (ro := ro) hg hal 36 1 (sPut co ro st k v) (by decide) (iv_put h (by omega))
      split
      · exact ih _ _ (by omega) h
      · split
        · exact ih _ _ (by omega) (iv_take g1.2)
        · exact g1.2
    · exact iv_put h hk
set_option maxHeartbeats 1000000 in
set_option maxRecDepth 100000 in
theorem c_RC_countUpTo (l : Launch) (D : va_G) (cI cL : ClassId) (a b1 b2 b3 b4 b5 b6 n g sh al fd : Nat) (fx le co ro : Nat → Nat) (most : Nat) (hm : most < 2 ^ 31) (hco : ∀ k, co k < 6) (hro : ∀ k, ro k < 6) (hn : n ≤ 36) (hg : g ≤ 6) (hsh : sh ≤ 6) (hal : al < 128) (hfx : ∀ k, fx k < 7) (st : S6) (hiv : Iv st) : CI l y_RC_countUpTo (.code y_RC_countUpTo b_RC_countUpTo 2 (some .int) :: Om) { frames := 76, cells := 0, slots := 0, locals := 2300 } D [(a, .inr (2, [.int (nI n), .int (nI g), .int (nI sh), .int (nI al), .ref b1, .ref b2, .ref b3, .ref b4, .ref b5, .ref b6, .long (lN (lz st.2.1)), .long (lN (lz st.2.2.1)), .int (nI fd)])), (b1, .inl (cI, 36, .inl (nA fx))), (b2, .inl (cI, 36, .inl (nA le))), (b3, .inl (cI, 36, .inl (nA st.1))), (b4, .inl (cI, 36, .inl (nA st.2.2.2.1))), (b5, .inl (cI, 36, .inl (nA (e8 co)))), (b6, .inl (cI, 36, .inl (nA (e8 ro))))] [(cI, .int), (cL, .long)] [.ref a, .int (nI most)] (fun r u => r = nI (sUp n g sh al fx co ro most st).1 ∧ u = [(a, .inr (2, [.int (nI n), .int (nI g), .int (nI sh), .int (nI al), .ref b1, .ref b2, .ref b3, .ref b4, .ref b5, .ref b6, .long (lN (lz (((sUp n g sh al fx co ro most st).2).2.1))), .long (lN (lz (((sUp n g sh al fx co ro most st).2).2.2.1))), .int (nI fd)])), (b1, .inl (cI, 36, .inl (nA fx))), (b2, .inl (cI, 36, .inl (nA le))), (b3, .inl (cI, 36, .inl (nA (((sUp n g sh al fx co ro most st).2).1)))), (b4, .inl (cI, 36, .inl (nA (((sUp n g sh al fx co ro most st).2).2.2.2.1)))), (b5, .inl (cI, 36, .inl (nA (e8 co)))), (b6, .inl (cI, 36, .inl (nA (e8 ro))))]) := by
  refine en_of (cc := b_RC_countUpTo) (Qc := qI D [(cI, .int), (cL, .long)] (fun r u => r = nI (sUp n g sh al fx co ro most st).1 ∧ u = [(a, .inr (2, [.int (nI n), .int (nI g), .int (nI sh), .int (nI al), .ref b1, .ref b2, .ref b3, .ref b4, .ref b5, .ref b6, .long (lN (lz (((sUp n g sh al fx co ro most st).2).2.1))), .long (lN (lz (((sUp n g sh al fx co ro most st).2).2.2.1))), .int (nI fd)])), (b1, .inl (cI, 36, .inl (nA fx))), (b2, .inl (cI, 36, .inl (nA le))), (b3, .inl (cI, 36, .inl (nA (((sUp n g sh al fx co ro most st).2).1)))), (b4, .inl (cI, 36, .inl (nA (((sUp n g sh al fx co ro most st).2).2.2.2.1)))), (b5, .inl (cI, 36, .inl (nA (e8 co)))), (b6, .inl (cI, 36, .inl (nA (e8 ro))))])) (by decide) rfl (Nat.le_of_ble_eq_true rfl) ?_
  intro p e s m below meth c A E hnm hP hD hS ls hl
  have hl : lv_has ls 2 [(0, .ref a), (1, .int (nI most))] := hl
  obtain ⟨hx, hb, hml, hown, hts, hr, hlk, hA, hK, hN⟩ := id E
  have ho : ∀ q ∈ Om, q.before _ s = true := fun q h => hts q (List.mem_cons_of_mem _ h)
  refine lv_iload_n hx hb d_RC_countUpTo_0 rfl (lv_at hl 1 rfl) ?_
  refine nr_if_le (tgt := 20) hx hb d_RC_countUpTo_1 (by decide) (by omega) (fun h_1 => ?_) (fun h_1 => ?_)
  · refine lv_iconst (v := nI 0) hx hb d_RC_countUpTo_20 (by decide) ?_
    exact rt_i E hP hD hS (by rw [sUp]; first | (rw [if_pos (by omega)]; exact ⟨rfl, rfl⟩) | (rw [if_neg (by omega), if_pos (by omega)]; exact ⟨rfl, rfl⟩) | (rw [if_neg (by omega), if_neg (by omega)]; exact ⟨rfl, rfl⟩)) d_RC_countUpTo_21
  · refine lv_aload_n hx hb d_RC_countUpTo_4 rfl (lv_at hl 0 rfl) ?_
    have hlg := iv_lg (n := n) (al := al) (co := co) (ro := ro) hfx hiv
    have hlg2 : (rLG n al fx co ro (st.1, st.2.1, st.2.2.1)).1 = (sL0 n al fx co ro st).1 := rfl
    refine af_i (wc := [(a, .inr (2, [.int (nI n), .int (nI g), .int (nI sh), .int (nI al), .ref b1, .ref b2, .ref b3, .ref b4, .ref b5, .ref b6, .long (lN (lz st.2.1)), .long (lN (lz st.2.2.1)), .int (nI fd)])), (b1, .inl (cI, 36, .inl (nA fx))), (b2, .inl (cI, 36, .inl (nA le))), (b3, .inl (cI, 36, .inl (nA st.1))), (b4, .inl (cI, 36, .inl (nA st.2.2.2.1))), (b5, .inl (cI, 36, .inl (nA (e8 co)))), (b6, .inl (cI, 36, .inl (nA (e8 ro))))]) (wr := []) (rest := []) [0, 1, 2, 3, 4, 5, 6] [] hP hD hS hA rfl rfl (by decide) (by decide) (rn_V E (As := []) m_RC_layGiven km_RC_56 (c_RC_layGiven l D cI cL a b1 b2 b3 b4 b5 b6 n g sh al fd fx le st.1 st.2.2.2.1 co ro st.2.1 st.2.2.1 hco hro hn hal hfx hiv.2.1 hiv.2.2.1 _) ⟨rfl, rfl, by dsimp only; omega, by dsimp only; omega⟩ (hP.sub [0, 1, 2, 3, 4, 5, 6] rfl) (hD.sub [0, 1, 2, 3, 4, 5, 6] (by decide) rfl) (q0 := 0) (ci := 2) rfl rfl rfl hl.1 rfl (Nat.le_of_ble_eq_true rfl) ⟨Nat.le_of_ble_eq_true rfl, Nat.le_of_ble_eq_true rfl⟩ d_RC_countUpTo_5) (fun r_3 u_2 H locs hw hP hD hS => ?_)
    obtain ⟨rfl, rfl⟩ := hw
    have hP : va_P D classes [(a, .inr (2, [.int (nI n), .int (nI g), .int (nI sh), .int (nI al), .ref b1, .ref b2, .ref b3, .ref b4, .ref b5, .ref b6, .long (lN (lz ((sLG n al fx co ro st).2.1))), .long (lN (lz ((sLG n al fx co ro st).2.2.1))), .int (nI fd)])), (b1, .inl (cI, 36, .inl (nA fx))), (b2, .inl (cI, 36, .inl (nA le))), (b3, .inl (cI, 36, .inl (nA ((sLG n al fx co ro st).1)))), (b4, .inl (cI, 36, .inl (nA ((sLG n al fx co ro st).2.2.2.1)))), (b5, .inl (cI, 36, .inl (nA (e8 co)))), (b6, .inl (cI, 36, .inl (nA (e8 ro))))] H := hP
    have hD : va_D A [(a, .inr (2, [.int (nI n), .int (nI g), .int (nI sh), .int (nI al), .ref b1, .ref b2, .ref b3, .ref b4, .ref b5, .ref b6, .long (lN (lz ((sLG n al fx co ro st).2.1))), .long (lN (lz ((sLG n al fx co ro st).2.2.1))), .int (nI fd)])), (b1, .inl (cI, 36, .inl (nA fx))), (b2, .inl (cI, 36, .inl (nA le))), (b3, .inl (cI, 36, .inl (nA ((sLG n al fx co ro st).1)))), (b4, .inl (cI, 36, .inl (nA ((sLG n al fx co ro st).2.2.2.1)))), (b5, .inl (cI, 36, .inl (nA (e8 co)))), (b6, .inl (cI, 36, .inl (nA (e8 ro))))] := hD
    refine nr_if_eq (tgt := 20) hx hb d_RC_countUpTo_8 (by decide) (by omega) (fun h_4 => ?_) (fun h_4 => ?_)
    · refine lv_iconst (v := nI 0) hx hb d_RC_countUpTo_20 (by decide) ?_
      exact rt_i E hP hD hS (by rw [sUp]; first | (rw [if_pos (by omega)]; exact ⟨rfl, rfl⟩) | (rw [if_neg (by omega), if_pos (by omega)]; exact ⟨rfl, rfl⟩) | (rw [if_neg (by omega), if_neg (by omega)]; exact ⟨rfl, rfl⟩)) d_RC_countUpTo_21
    · refine lv_aload_n hx hb d_RC_countUpTo_11 rfl (lv_at hl 0 rfl) ?_
      refine lv_iconst (v := nI 0) hx hb d_RC_countUpTo_12 (by decide) ?_
      refine lv_iload_n hx hb d_RC_countUpTo_13 rfl (lv_at hl 1 rfl) ?_
      have hgo := cF_ok (n := n) (sh := sh) (co := co) (ro := ro) hg hal 36 most (sLG n al fx co ro st) (by omega) hlg.2
      refine af_i (wc := [(a, .inr (2, [.int (nI n), .int (nI g), .int (nI sh), .int (nI al), .ref b1, .ref b2, .ref b3, .ref b4, .ref b5, .ref b6, .long (lN (lz ((sLG n al fx co ro st).2.1))), .long (lN (lz ((sLG n al fx co ro st).2.2.1))), .int (nI fd)])), (b1, .inl (cI, 36, .inl (nA fx))), (b2, .inl (cI, 36, .inl (nA le))), (b3, .inl (cI, 36, .inl (nA ((sLG n al fx co ro st).1)))), (b4, .inl (cI, 36, .inl (nA ((sLG n al fx co ro st).2.2.2.1)))), (b5, .inl (cI, 36, .inl (nA (e8 co)))), (b6, .inl (cI, 36, .inl (nA (e8 ro))))]) (wr := []) (rest := []) [0, 1, 2, 3, 4, 5, 6] [] hP hD hS hA rfl rfl (by decide) (by decide) (rn_V E (As := [.int (nI 0), .int (nI most)]) m_RC_countFrom km_RC_60 (c_RC_countFrom l D cI cL a b1 b2 b3 b4 b5 b6 n g sh al fd fx le co ro hco hro hn hg hsh hal 36 (Nat.le_refl 36) most (sLG n al fx co ro st) (by omega) (by omega) hlg.2 _) ⟨rfl, rfl, by dsimp only; omega, by dsimp only; omega⟩ (hP.sub [0, 1, 2, 3, 4, 5, 6] rfl) (hD.sub [0, 1, 2, 3, 4, 5, 6] (by decide) rfl) (q0 := 0) (ci := 2) rfl rfl rfl hl.1 rfl (Nat.le_of_ble_eq_true rfl) ⟨Nat.le_of_ble_eq_true rfl, Nat.le_of_ble_eq_true rfl⟩ d_RC_countUpTo_14) (fun r_6 u_5 H locs hw hP hD hS => ?_)
      obtain ⟨rfl, rfl⟩ := hw
      have hP : va_P D classes [(a, .inr (2, [.int (nI n), .int (nI g), .int (nI sh), .int (nI al), .ref b1, .ref b2, .ref b3, .ref b4, .ref b5, .ref b6, .long (lN (lz (((cF n g sh al co ro 36 most (sLG n al fx co ro st)).2).2.1))), .long (lN (lz (((cF n g sh al co ro 36 most (sLG n al fx co ro st)).2).2.2.1))), .int (nI fd)])), (b1, .inl (cI, 36, .inl (nA fx))), (b2, .inl (cI, 36, .inl (nA le))), (b3, .inl (cI, 36, .inl (nA (((cF n g sh al co ro 36 most (sLG n al fx co ro st)).2).1)))), (b4, .inl (cI, 36, .inl (nA (((cF n g sh al co ro 36 most (sLG n al fx co ro st)).2).2.2.2.1)))), (b5, .inl (cI, 36, .inl (nA (e8 co)))), (b6, .inl (cI, 36, .inl (nA (e8 ro))))] H := hP
      have hD : va_D A [(a, .inr (2, [.int (nI n), .int (nI g), .int (nI sh), .int (nI al), .ref b1, .ref b2, .ref b3, .ref b4, .ref b5, .ref b6, .long (lN (lz (((cF n g sh al co ro 36 most (sLG n al fx co ro st)).2).2.1))), .long (lN (lz (((cF n g sh al co ro 36 most (sLG n al fx co ro st)).2).2.2.1))), .int (nI fd)])), (b1, .inl (cI, 36, .inl (nA fx))), (b2, .inl (cI, 36, .inl (nA le))), (b3, .inl (cI, 36, .inl (nA (((cF n g sh al co ro 36 most (sLG n al fx co ro st)).2).1)))), (b4, .inl (cI, 36, .inl (nA (((cF n g sh al co ro 36 most (sLG n al fx co ro st)).2).2.2.2.1)))), (b5, .inl (cI, 36, .inl (nA (e8 co)))), (b6, .inl (cI, 36, .inl (nA (e8 ro))))] := hD
      refine lv_goto (tgt := 21) hx hb d_RC_countUpTo_17 (by decide) ?_
      exact rt_i E hP hD hS (by rw [sUp]; first | (rw [if_pos (by omega)]; exact ⟨rfl, rfl⟩) | (rw [if_neg (by omega), if_pos (by omega)]; exact ⟨rfl, rfl⟩) | (rw [if_neg (by omega), if_neg (by omega)]; exact ⟨rfl, rfl⟩)) d_RC_countUpTo_21
set_option maxHeartbeats 1000000 in
set_option maxRecDepth 100000 in
theorem L_RC_settle {p : Program} {l : Launch} {e : Env} {s : State} {m : MethodId} {args : Array Value} {below : List Frame} {meth : Method} {c : Code} {A : Nat → Prop} {D : va_G} {cI cL : ClassId} {c0 : Cond} {post : va_W → Prop} (a b1 b2 b3 b4 b5 b6 n g sh al fd : Nat) (fx le co ro : Nat → Nat) (k known ch : Nat) (hk : k < 36) (hkn : known < 7) (hch : ch < 128) (hco : ∀ k, co k < 6) (hro : ∀ k, ro k < 6) (hn : n ≤ 36) (hg : g ≤ 6) (hsh : sh ≤ 6) (hal : al < 128) (E : En p s m args meth c b_RC_settle 5 (c0 :: Om) R_RC none A D [(cI, .int), (cL, .long)]) : ∀ (m1 : Nat) (v : Nat) (st : S6), 1 ≤ v → v ≤ 8 → 8 < v + m1 → Iv st → post [(a, .inr (2, [.int (nI n), .int (nI g), .int (nI sh), .int (nI al), .ref b1, .ref b2, .ref b3, .ref b4, .ref b5, .ref b6, .long (lN (lz ((sSt n g sh al co ro k known ch m1 v st).2.1))), .long (lN (lz ((sSt n g sh al co ro k known ch m1 v st).2.2.1))), .int (nI fd)])), (b1, .inl (cI, 36, .inl (nA fx))), (b2, .inl (cI, 36, .inl (nA le))), (b3, .inl (cI, 36, .inl (nA ((sSt n g sh al co ro k known ch m1 v st).1)))), (b4, .inl (cI, 36, .inl (nA ((sSt n g sh al co ro k known ch m1 v st).2.2.2.1)))), (b5, .inl (cI, 36, .inl (nA (e8 co)))), (b6, .inl (cI, 36, .inl (nA (e8 ro))))] → ∀ (H : Heap) (locs : List Loc), va_P D classes [(a, .inr (2, [.int (nI n), .int (nI g), .int (nI sh), .int (nI al), .ref b1, .ref b2, .ref b3, .ref b4, .ref b5, .ref b6, .long (lN (lz st.2.1)), .long (lN (lz st.2.2.1)), .int (nI fd)])), (b1, .inl (cI, 36, .inl (nA fx))), (b2, .inl (cI, 36, .inl (nA le))), (b3, .inl (cI, 36, .inl (nA st.1))), (b4, .inl (cI, 36, .inl (nA st.2.2.2.1))), (b5, .inl (cI, 36, .inl (nA (e8 co)))), (b6, .inl (cI, 36, .inl (nA (e8 ro))))] H → va_D A [(a, .inr (2, [.int (nI n), .int (nI g), .int (nI sh), .int (nI al), .ref b1, .ref b2, .ref b3, .ref b4, .ref b5, .ref b6, .long (lN (lz st.2.1)), .long (lN (lz st.2.2.1)), .int (nI fd)])), (b1, .inl (cI, 36, .inl (nA fx))), (b2, .inl (cI, 36, .inl (nA le))), (b3, .inl (cI, 36, .inl (nA st.1))), (b4, .inl (cI, 36, .inl (nA st.2.2.2.1))), (b5, .inl (cI, 36, .inl (nA (e8 co)))), (b6, .inl (cI, 36, .inl (nA (e8 ro))))] → va_S A s.heap H locs → ∀ ls : Array Slot, lv_has ls 5 [(0, .ref a), (1, .int (nI k)), (2, .int (nI known)), (3, .int (nI ch)), (4, .int (nI v))] → W p l e { frames := 76, cells := 0, slots := 0, locals := 2300 } s m args below meth c H locs 0 0 (MQ below (qV D [(cI, .int), (cL, .long)] post A) args s 0 0 A) (F0 m 27 ls []) := by
  obtain ⟨hx, hb, hml, hown, hts, hr, hlk, hA, hK, hN⟩ := id E
  have ho : ∀ q ∈ Om, q.before _ s = true := fun q h => hts q (List.mem_cons_of_mem _ h)
  intro m1
  induction m1 with
  | zero =>
    intro v st h0 h1 h2 hiv hq
    exact absurd h2 (by omega)
  | succ m1 ih =>
    intro v st h0 h1 h2 hiv hq H locs hP hD hS ls hl
    refine lv_iload hx hb d_RC_settle_27 (lv_at hl 4 rfl) ?_
    refine lv_iload_n hx hb d_RC_settle_29 rfl (lv_at hl 2 rfl) ?_
    refine nr_icmp_ge (tgt := 72) hx hb d_RC_settle_30 (by decide) (by omega) (by omega) (fun h_1 => ?_) (fun h_1 => ?_)
    · refine lv_aload_n hx hb d_RC_settle_72 rfl (lv_at hl 0 rfl) ?_
      refine lv_iload_n hx hb d_RC_settle_73 rfl (lv_at hl 1 rfl) ?_
      refine lv_iload_n hx hb d_RC_settle_74 rfl (lv_at hl 2 rfl) ?_
      refine af_v (wc := [(a, .inr (2, [.int (nI n), .int (nI g), .int (nI sh), .int (nI al), .ref b1, .ref b2, .ref b3, .ref b4, .ref b5, .ref b6, .long (lN (lz st.2.1)), .long (lN (lz st.2.2.1)), .int (nI fd)])), (b1, .inl (cI, 36, .inl (nA fx))), (b2, .inl (cI, 36, .inl (nA le))), (b3, .inl (cI, 36, .inl (nA st.1))), (b4, .inl (cI, 36, .inl (nA st.2.2.2.1))), (b5, .inl (cI, 36, .inl (nA (e8 co)))), (b6, .inl (cI, 36, .inl (nA (e8 ro))))]) (wr := []) (rest := []) [0, 1, 2, 3, 4, 5, 6] [] hP hD hS hA rfl rfl (by decide) (by decide) (rn_V E (As := [.int (nI k), .int (nI known)]) m_RC_put km_RC_77 (c_RC_put l D cI cL a b1 b2 b3 b4 b5 b6 n g sh al fd fx le st.1 st.2.2.2.1 co ro st.2.1 st.2.2.1 k known (by omega) (by omega) hco hro hiv.2.1 hiv.2.2.1 _) ⟨rfl, rfl, by dsimp only; omega, by dsimp only; omega⟩ (hP.sub [0, 1, 2, 3, 4, 5, 6] rfl) (hD.sub [0, 1, 2, 3, 4, 5, 6] (by decide) rfl) (q0 := 0) (ci := 2) rfl rfl rfl hl.1 rfl (Nat.le_of_ble_eq_true rfl) ⟨Nat.le_of_ble_eq_true rfl, Nat.le_of_ble_eq_true rfl⟩ d_RC_settle_75) (fun u_2 H locs hw hP hD hS => ?_)
      obtain rfl := hw
      have hP : va_P D classes [(a, .inr (2, [.int (nI n), .int (nI g), .int (nI sh), .int (nI al), .ref b1, .ref b2, .ref b3, .ref b4, .ref b5, .ref b6, .long (lN (lz (rPut st.2.1 (co k) known))), .long (lN (lz (rPut st.2.2.1 (ro k) known))), .int (nI fd)])), (b1, .inl (cI, 36, .inl (nA fx))), (b2, .inl (cI, 36, .inl (nA le))), (b3, .inl (cI, 36, .inl (nA (va_up st.1 k known)))), (b4, .inl (cI, 36, .inl (nA st.2.2.2.1))), (b5, .inl (cI, 36, .inl (nA (e8 co)))), (b6, .inl (cI, 36, .inl (nA (e8 ro))))] H := hP
      have hD : va_D A [(a, .inr (2, [.int (nI n), .int (nI g), .int (nI sh), .int (nI al), .ref b1, .ref b2, .ref b3, .ref b4, .ref b5, .ref b6, .long (lN (lz (rPut st.2.1 (co k) known))), .long (lN (lz (rPut st.2.2.1 (ro k) known))), .int (nI fd)])), (b1, .inl (cI, 36, .inl (nA fx))), (b2, .inl (cI, 36, .inl (nA le))), (b3, .inl (cI, 36, .inl (nA (va_up st.1 k known)))), (b4, .inl (cI, 36, .inl (nA st.2.2.2.1))), (b5, .inl (cI, 36, .inl (nA (e8 co)))), (b6, .inl (cI, 36, .inl (nA (e8 ro))))] := hD
      exact rt_v E hP hD hS (by rw [sSt, if_neg (by omega)] at hq; exact hq) d_RC_settle_78
    · refine lv_iload_n hx hb d_RC_settle_33 rfl (lv_at hl 3 rfl) ?_
      refine lv_iload hx hb d_RC_settle_34 (lv_at hl 4 rfl) ?_
      refine nr_iushr hx hb d_RC_settle_36 (by omega) (by omega) ?_
      refine lv_iconst (v := nI 1) hx hb d_RC_settle_37 (by decide) ?_
      refine nr_iand1 hx hb d_RC_settle_38 ?_
      refine nr_if_eq (tgt := 66) hx hb d_RC_settle_39 (by decide) (by omega) (fun h_4 => ?_) (fun h_4 => ?_)
      · refine nr_iinc (lv' := [(4, .int (nI (v + 1))), (0, .ref a), (1, .int (nI k)), (2, .int (nI known)), (3, .int (nI ch))]) hx hb d_RC_settle_66 hl (k := 4) rfl (by decide) rfl (fun ls hl => ?_)
        refine lv_goto (tgt := 27) hx hb d_RC_settle_69 (by decide) ?_
        exact ih (v + 1) st (by omega) (by omega) (by omega) hiv (by rw [sSt, if_pos (by omega), if_pos (by omega)] at hq; exact hq) _ _ hP hD hS ls (lv_sub hl [1, 2, 3, 4, 0] rfl)
      · refine lv_aload_n hx hb d_RC_settle_42 rfl (lv_at hl 0 rfl) ?_
        refine lv_iload_n hx hb d_RC_settle_43 rfl (lv_at hl 1 rfl) ?_
        refine lv_iload hx hb d_RC_settle_44 (lv_at hl 4 rfl) ?_
        refine af_v (wc := [(a, .inr (2, [.int (nI n), .int (nI g), .int (nI sh), .int (nI al), .ref b1, .ref b2, .ref b3, .ref b4, .ref b5, .ref b6, .long (lN (lz st.2.1)), .long (lN (lz st.2.2.1)), .int (nI fd)])), (b1, .inl (cI, 36, .inl (nA fx))), (b2, .inl (cI, 36, .inl (nA le))), (b3, .inl (cI, 36, .inl (nA st.1))), (b4, .inl (cI, 36, .inl (nA st.2.2.2.1))), (b5, .inl (cI, 36, .inl (nA (e8 co)))), (b6, .inl (cI, 36, .inl (nA (e8 ro))))]) (wr := []) (rest := []) [0, 1, 2, 3, 4, 5, 6] [] hP hD hS hA rfl rfl (by decide) (by decide) (rn_V E (As := [.int (nI k), .int (nI v)]) m_RC_put km_RC_77 (c_RC_put l D cI cL a b1 b2 b3 b4 b5 b6 n g sh al fd fx le st.1 st.2.2.2.1 co ro st.2.1 st.2.2.1 k v (by omega) (by omega) hco hro hiv.2.1 hiv.2.2.1 _) ⟨rfl, rfl, by dsimp only; omega, by dsimp only; omega⟩ (hP.sub [0, 1, 2, 3, 4, 5, 6] rfl) (hD.sub [0, 1, 2, 3, 4, 5, 6] (by decide) rfl) (q0 := 0) (ci := 2) rfl rfl rfl hl.1 rfl (Nat.le_of_ble_eq_true rfl) ⟨Nat.le_of_ble_eq_true rfl, Nat.le_of_ble_eq_true rfl⟩ d_RC_settle_46) (fun u_5 H locs hw hP hD hS => ?_)
        obtain rfl := hw
        have hP : va_P D classes [(a, .inr (2, [.int (nI n), .int (nI g), .int (nI sh), .int (nI al), .ref b1, .ref b2, .ref b3, .ref b4, .ref b5, .ref b6, .long (lN (lz (rPut st.2.1 (co k) v))), .long (lN (lz (rPut st.2.2.1 (ro k) v))), .int (nI fd)])), (b1, .inl (cI, 36, .inl (nA fx))), (b2, .inl (cI, 36, .inl (nA le))), (b3, .inl (cI, 36, .inl (nA (va_up st.1 k v)))), (b4, .inl (cI, 36, .inl (nA st.2.2.2.1))), (b5, .inl (cI, 36, .inl (nA (e8 co)))), (b6, .inl (cI, 36, .inl (nA (e8 ro))))] H := hP
        have hD : va_D A [(a, .inr (2, [.int (nI n), .int (nI g), .int (nI sh), .int (nI al), .ref b1, .ref b2, .ref b3, .ref b4, .ref b5, .ref b6, .long (lN (lz (rPut st.2.1 (co k) v))), .long (lN (lz (rPut st.2.2.1 (ro k) v))), .int (nI fd)])), (b1, .inl (cI, 36, .inl (nA fx))), (b2, .inl (cI, 36, .inl (nA le))), (b3, .inl (cI, 36, .inl (nA (va_up st.1 k v)))), (b4, .inl (cI, 36, .inl (nA st.2.2.2.1))), (b5, .inl (cI, 36, .inl (nA (e8 co)))), (b6, .inl (cI, 36, .inl (nA (e8 ro))))] := hD
        refine lv_aload_n hx hb d_RC_settle_49 rfl (lv_at hl 0 rfl) ?_
        refine lv_iconst (v := nI 0) hx hb d_RC_settle_50 (by decide) ?_
        refine lv_iconst (v := nI 1) hx hb d_RC_settle_51 (by decide) ?_
        have hgo := cF_ok (n := n) (sh := sh) (co := co) (ro := ro) hg hal 36 1 (sPut co ro st k v) (by omega) (iv_put hiv (by omega))
        refine af_i (wc := [(a, .inr (2, [.int (nI n), .int (nI g), .int (nI sh), .int (nI al), .ref b1, .ref b2, .ref b3, .ref b4, .ref b5, .ref b6, .long (lN (lz (rPut st.2.1 (co k) v))), .long (lN (lz (rPut st.2.2.1 (ro k) v))), .int (nI fd)])), (b1, .inl (cI, 36, .inl (nA fx))), (b2, .inl (cI, 36, .inl (nA le))), (b3, .inl (cI, 36, .inl (nA (va_up st.1 k v)))), (b4, .inl (cI, 36, .inl (nA st.2.2.2.1))), (b5, .inl (cI, 36, .inl (nA (e8 co)))), (b6, .inl (cI, 36, .inl (nA (e8 ro))))]) (wr := []) (rest := []) [0, 1, 2, 3, 4, 5, 6] [] hP hD hS hA rfl rfl (by decide) (by decide) (rn_V E (As := [.int (nI 0), .int (nI 1)]) m_RC_countFrom km_RC_60 (c_RC_countFrom l D cI cL a b1 b2 b3 b4 b5 b6 n g sh al fd fx le co ro hco hro hn hg hsh hal 36 (Nat.le_refl 36) 1 (sPut co ro st k v) (by omega) (by omega) (iv_put hiv (by omega)) _) ⟨rfl, rfl, by dsimp only; omega, by dsimp only; omega⟩ (hP.sub [0, 1, 2, 3, 4, 5, 6] rfl) (hD.sub [0, 1, 2, 3, 4, 5, 6] (by decide) rfl) (q0 := 0) (ci := 2) rfl rfl rfl hl.1 rfl (Nat.le_of_ble_eq_true rfl) ⟨Nat.le_of_ble_eq_true rfl, Nat.le_of_ble_eq_true rfl⟩ d_RC_settle_52) (fun r_8 u_7 H locs hw hP hD hS => ?_)
        obtain ⟨rfl, rfl⟩ := hw
        have hP : va_P D classes [(a, .inr (2, [.int (nI n), .int (nI g), .int (nI sh), .int (nI al), .ref b1, .ref b2, .ref b3, .ref b4, .ref b5, .ref b6, .long (lN (lz (((cF n g sh al co ro 36 1 (sPut co ro st k v)).2).2.1))), .long (lN (lz (((cF n g sh al co ro 36 1 (sPut co ro st k v)).2).2.2.1))), .int (nI fd)])), (b1, .inl (cI, 36, .inl (nA fx))), (b2, .inl (cI, 36, .inl (nA le))), (b3, .inl (cI, 36, .inl (nA (((cF n g sh al co ro 36 1 (sPut co ro st k v)).2).1)))), (b4, .inl (cI, 36, .inl (nA (((cF n g sh al co ro 36 1 (sPut co ro st k v)).2).2.2.2.1)))), (b5, .inl (cI, 36, .inl (nA (e8 co)))), (b6, .inl (cI, 36, .inl (nA (e8 ro))))] H := hP
        have hD : va_D A [(a, .inr (2, [.int (nI n), .int (nI g), .int (nI sh), .int (nI al), .ref b1, .ref b2, .ref b3, .ref b4, .ref b5, .ref b6, .long (lN (lz (((cF n g sh al co ro 36 1 (sPut co ro st k v)).2).2.1))), .long (lN (lz (((cF n g sh al co ro 36 1 (sPut co ro st k v)).2).2.2.1))), .int (nI fd)])), (b1, .inl (cI, 36, .inl (nA fx))), (b2, .inl (cI, 36, .inl (nA le))), (b3, .inl (cI, 36, .inl (nA (((cF n g sh al co ro 36 1 (sPut co ro st k v)).2).1)))), (b4, .inl (cI, 36, .inl (nA (((cF n g sh al co ro 36 1 (sPut co ro st k v)).2).2.2.2.1)))), (b5, .inl (cI, 36, .inl (nA (e8 co)))), (b6, .inl (cI, 36, .inl (nA (e8 ro))))] := hD
        refine nr_if_le (tgt := 59) hx hb d_RC_settle_55 (by decide) (by omega) (fun h_9 => ?_) (fun h_9 => ?_)
        · refine lv_aload_n hx hb d_RC_settle_59 rfl (lv_at hl 0 rfl) ?_
          refine lv_iload_n hx hb d_RC_settle_60 rfl (lv_at hl 1 rfl) ?_
          refine lv_iload hx hb d_RC_settle_61 (lv_at hl 4 rfl) ?_
          refine af_v (wc := [(a, .inr (2, [.int (nI n), .int (nI g), .int (nI sh), .int (nI al), .ref b1, .ref b2, .ref b3, .ref b4, .ref b5, .ref b6, .long (lN (lz (((cF n g sh al co ro 36 1 (sPut co ro st k v)).2).2.1))), .long (lN (lz (((cF n g sh al co ro 36 1 (sPut co ro st k v)).2).2.2.1))), .int (nI fd)])), (b1, .inl (cI, 36, .inl (nA fx))), (b2, .inl (cI, 36, .inl (nA le))), (b3, .inl (cI, 36, .inl (nA (((cF n g sh al co ro 36 1 (sPut co ro st k v)).2).1)))), (b4, .inl (cI, 36, .inl (nA (((cF n g sh al co ro 36 1 (sPut co ro st k v)).2).2.2.2.1)))), (b5, .inl (cI, 36, .inl (nA (e8 co)))), (b6, .inl (cI, 36, .inl (nA (e8 ro))))]) (wr := []) (rest := []) [0, 1, 2, 3, 4, 5, 6] [] hP hD hS hA rfl rfl (by decide) (by decide) (rn_V E (As := [.int (nI k), .int (nI v)]) m_RC_take km_RC_81 (c_RC_take l D cI cL a b1 b2 b3 b4 b5 b6 n g sh al fd fx le (((cF n g sh al co ro 36 1 (sPut co ro st k v)).2).1) (((cF n g sh al co ro 36 1 (sPut co ro st k v)).2).2.2.2.1) co ro (((cF n g sh al co ro 36 1 (sPut co ro st k v)).2).2.1) (((cF n g sh al co ro 36 1 (sPut co ro st k v)).2).2.2.1) k v (by omega) (by omega) hco hro hgo.2.2.1 hgo.2.2.2.1 _) ⟨rfl, rfl, by dsimp only; omega, by dsimp only; omega⟩ (hP.sub [0, 1, 2, 3, 4, 5, 6] rfl) (hD.sub [0, 1, 2, 3, 4, 5, 6] (by decide) rfl) (q0 := 0) (ci := 2) rfl rfl rfl hl.1 rfl (Nat.le_of_ble_eq_true rfl) ⟨Nat.le_of_ble_eq_true rfl, Nat.le_of_ble_eq_true rfl⟩ d_RC_settle_63) (fun u_10 H locs hw hP hD hS => ?_)
          obtain rfl := hw
          have hP : va_P D classes [(a, .inr (2, [.int (nI n), .int (nI g), .int (nI sh), .int (nI al), .ref b1, .ref b2, .ref b3, .ref b4, .ref b5, .ref b6, .long (lN (lz (rTake (((cF n g sh al co ro 36 1 (sPut co ro st k v)).2).2.1) (co k) v))), .long (lN (lz (rTake (((cF n g sh al co ro 36 1 (sPut co ro st k v)).2).2.2.1) (ro k) v))), .int (nI fd)])), (b1, .inl (cI, 36, .inl (nA fx))), (b2, .inl (cI, 36, .inl (nA le))), (b3, .inl (cI, 36, .inl (nA (va_up (((cF n g sh al co ro 36 1 (sPut co ro st k v)).2).1) k 0)))), (b4, .inl (cI, 36, .inl (nA (((cF n g sh al co ro 36 1 (sPut co ro st k v)).2).2.2.2.1)))), (b5, .inl (cI, 36, .inl (nA (e8 co)))), (b6, .inl (cI, 36, .inl (nA (e8 ro))))] H := hP
          have hD : va_D A [(a, .inr (2, [.int (nI n), .int (nI g), .int (nI sh), .int (nI al), .ref b1, .ref b2, .ref b3, .ref b4, .ref b5, .ref b6, .long (lN (lz (rTake (((cF n g sh al co ro 36 1 (sPut co ro st k v)).2).2.1) (co k) v))), .long (lN (lz (rTake (((cF n g sh al co ro 36 1 (sPut co ro st k v)).2).2.2.1) (ro k) v))), .int (nI fd)])), (b1, .inl (cI, 36, .inl (nA fx))), (b2, .inl (cI, 36, .inl (nA le))), (b3, .inl (cI, 36, .inl (nA (va_up (((cF n g sh al co ro 36 1 (sPut co ro st k v)).2).1) k 0)))), (b4, .inl (cI, 36, .inl (nA (((cF n g sh al co ro 36 1 (sPut co ro st k v)).2).2.2.2.1)))), (b5, .inl (cI, 36, .inl (nA (e8 co)))), (b6, .inl (cI, 36, .inl (nA (e8 ro))))] := hD
          refine nr_iinc (lv' := [(4, .int (nI (v + 1))), (0, .ref a), (1, .int (nI k)), (2, .int (nI known)), (3, .int (nI ch))]) hx hb d_RC_settle_66 hl (k := 4) rfl (by decide) rfl (fun ls hl => ?_)
          refine lv_goto (tgt := 27) hx hb d_RC_settle_69 (by decide) ?_
          exact ih (v + 1) (sTake co ro (cF n g sh al co ro 36 1 (sPut co ro st k v)).2 k v) (by omega) (by omega) (by omega) (iv_take hgo.2) (by rw [sSt, if_pos (by omega), if_neg (by omega), if_pos (by omega)] at hq; exact hq) _ _ hP hD hS ls (lv_sub hl [1, 2, 3, 4, 0] rfl)
        · exact rt_v E hP hD hS (by rw [sSt, if_pos (by omega), if_neg (by omega), if_neg (by omega)] at hq; exact hq) d_RC_settle_58
set_option maxHeartbeats 1000000 in
set_option maxRecDepth 100000 in
theorem c_RC_settle (l : Launch) (D : va_G) (cI cL : ClassId) (a b1 b2 b3 b4 b5 b6 n g sh al fd : Nat) (fx le co ro : Nat → Nat) (k : Nat) (hk : k < 36) (hco : ∀ k, co k < 6) (hro : ∀ k, ro k < 6) (hn : n ≤ 36) (hg : g ≤ 6) (hsh : sh ≤ 6) (hal : al < 128) (st : S6) (hiv : Iv st) (hwi : ∀ k, st.2.2.2.1 k < 7) : CV l y_RC_settle (.code y_RC_settle b_RC_settle 5 none :: Om) { frames := 76, cells := 0, slots := 0, locals := 2300 } D [(a, .inr (2, [.int (nI n), .int (nI g), .int (nI sh), .int (nI al), .ref b1, .ref b2, .ref b3, .ref b4, .ref b5, .ref b6, .long (lN (lz st.2.1)), .long (lN (lz st.2.2.1)), .int (nI fd)])), (b1, .inl (cI, 36, .inl (nA fx))), (b2, .inl (cI, 36, .inl (nA le))), (b3, .inl (cI, 36, .inl (nA st.1))), (b4, .inl (cI, 36, .inl (nA st.2.2.2.1))), (b5, .inl (cI, 36, .inl (nA (e8 co)))), (b6, .inl (cI, 36, .inl (nA (e8 ro))))] [(cI, .int), (cL, .long)] [.ref a, .int (nI k)] (fun u => u = [(a, .inr (2, [.int (nI n), .int (nI g), .int (nI sh), .int (nI al), .ref b1, .ref b2, .ref b3, .ref b4, .ref b5, .ref b6, .long (lN (lz ((sS1 n g sh al co ro k st).2.1))), .long (lN (lz ((sS1 n g sh al co ro k st).2.2.1))), .int (nI fd)])), (b1, .inl (cI, 36, .inl (nA fx))), (b2, .inl (cI, 36, .inl (nA le))), (b3, .inl (cI, 36, .inl (nA ((sS1 n g sh al co ro k st).1)))), (b4, .inl (cI, 36, .inl (nA ((sS1 n g sh al co ro k st).2.2.2.1)))), (b5, .inl (cI, 36, .inl (nA (e8 co)))), (b6, .inl (cI, 36, .inl (nA (e8 ro))))]) := by
  refine en_of (cc := b_RC_settle) (Qc := qV D [(cI, .int), (cL, .long)] (fun u => u = [(a, .inr (2, [.int (nI n), .int (nI g), .int (nI sh), .int (nI al), .ref b1, .ref b2, .ref b3, .ref b4, .ref b5, .ref b6, .long (lN (lz ((sS1 n g sh al co ro k st).2.1))), .long (lN (lz ((sS1 n g sh al co ro k st).2.2.1))), .int (nI fd)])), (b1, .inl (cI, 36, .inl (nA fx))), (b2, .inl (cI, 36, .inl (nA le))), (b3, .inl (cI, 36, .inl (nA ((sS1 n g sh al co ro k st).1)))), (b4, .inl (cI, 36, .inl (nA ((sS1 n g sh al co ro k st).2.2.2.1)))), (b5, .inl (cI, 36, .inl (nA (e8 co)))), (b6, .inl (cI, 36, .inl (nA (e8 ro))))])) (by decide) rfl (Nat.le_of_ble_eq_true rfl) ?_
  intro p e s m below meth c A E hnm hP hD hS ls hl
  have hl : lv_has ls 5 [(0, .ref a), (1, .int (nI k))] := hl
  obtain ⟨hx, hb, hml, hown, hts, hr, hlk, hA, hK, hN⟩ := id E
  have ho : ∀ q ∈ Om, q.before _ s = true := fun q h => hts q (List.mem_cons_of_mem _ h)
  have hwk := hwi k
  refine lv_iload_n hx hb d_RC_settle_0 rfl (lv_at hl 1 rfl) ?_
  refine nr_if_lt (tgt := 10) hx hb d_RC_settle_1 (by decide) (by omega) ?_
  refine lv_iload_n hx hb d_RC_settle_4 rfl (lv_at hl 1 rfl) ?_
  refine lv_bipush (v := nI 36) hx hb d_RC_settle_5 (by decide) ?_
  refine nr_icmp_lt (tgt := 11) hx hb d_RC_settle_7 (by decide) (by omega) (by omega) (fun _ => ?_) (fun h9 => absurd h9 (by omega))
  refine lv_aload_n hx hb d_RC_settle_11 rfl (lv_at hl 0 rfl) ?_
  refine va_get (D := D) (ci := 2) (v := .ref b4) (C := R_RC) (T := F_RC) (N := 13) hx hb ho j_RC hown hK hP 0 rfl rfl 7 (by decide) (ho _ kf_RC_21) (fun _ h9 => h9) rfl d_RC_settle_12 ?_
  refine lv_iload_n hx hb d_RC_settle_15 rfl (lv_at hl 1 rfl) ?_
  refine nr_ialdN hx hb hK hP 4 0 rfl rfl (i := k) (by omega) (by decide) d_RC_settle_16 ?_
  refine lv_istore_n (lv' := [(2, .int (nI (st.2.2.2.1 k))), (0, .ref a), (1, .int (nI k))]) hx hb d_RC_settle_17 rfl hl (by decide) rfl (fun ls hl => ?_)
  refine lv_aload_n hx hb d_RC_settle_18 rfl (lv_at hl 1 rfl) ?_
  refine lv_iload_n hx hb d_RC_settle_19 rfl (lv_at hl 2 rfl) ?_
  refine af_i (wc := [(a, .inr (2, [.int (nI n), .int (nI g), .int (nI sh), .int (nI al), .ref b1, .ref b2, .ref b3, .ref b4, .ref b5, .ref b6, .long (lN (lz st.2.1)), .long (lN (lz st.2.2.1)), .int (nI fd)])), (b1, .inl (cI, 36, .inl (nA fx))), (b2, .inl (cI, 36, .inl (nA le))), (b3, .inl (cI, 36, .inl (nA st.1))), (b4, .inl (cI, 36, .inl (nA st.2.2.2.1))), (b5, .inl (cI, 36, .inl (nA (e8 co)))), (b6, .inl (cI, 36, .inl (nA (e8 ro))))]) (wr := []) (rest := []) [0, 1, 2, 3, 4, 5, 6] [] hP hD hS hA rfl rfl (by decide) (by decide) (rn_V E (As := [.int (nI k)]) m_RC_choicesAt km_RC_73 (c_RC_choicesAt l D cI cL a b1 b2 b3 b4 b5 b6 n g sh al fd fx le st.1 st.2.2.2.1 co ro st.2.1 st.2.2.1 k (by omega) hco hro hal hiv.2.1 hiv.2.2.1 _) ⟨rfl, rfl, by dsimp only; omega, by dsimp only; omega⟩ (hP.sub [0, 1, 2, 3, 4, 5, 6] rfl) (hD.sub [0, 1, 2, 3, 4, 5, 6] (by decide) rfl) (q0 := 0) (ci := 2) rfl rfl rfl hl.1 rfl (Nat.le_of_ble_eq_true rfl) ⟨Nat.le_of_ble_eq_true rfl, Nat.le_of_ble_eq_true rfl⟩ d_RC_settle_20) (fun r_2 u_1 H locs hw hP hD hS => ?_)
  obtain ⟨rfl, rfl⟩ := hw
  have hP : va_P D classes [(a, .inr (2, [.int (nI n), .int (nI g), .int (nI sh), .int (nI al), .ref b1, .ref b2, .ref b3, .ref b4, .ref b5, .ref b6, .long (lN (lz st.2.1)), .long (lN (lz st.2.2.1)), .int (nI fd)])), (b1, .inl (cI, 36, .inl (nA fx))), (b2, .inl (cI, 36, .inl (nA le))), (b3, .inl (cI, 36, .inl (nA st.1))), (b4, .inl (cI, 36, .inl (nA st.2.2.2.1))), (b5, .inl (cI, 36, .inl (nA (e8 co)))), (b6, .inl (cI, 36, .inl (nA (e8 ro))))] H := hP
  have hD : va_D A [(a, .inr (2, [.int (nI n), .int (nI g), .int (nI sh), .int (nI al), .ref b1, .ref b2, .ref b3, .ref b4, .ref b5, .ref b6, .long (lN (lz st.2.1)), .long (lN (lz st.2.2.1)), .int (nI fd)])), (b1, .inl (cI, 36, .inl (nA fx))), (b2, .inl (cI, 36, .inl (nA le))), (b3, .inl (cI, 36, .inl (nA st.1))), (b4, .inl (cI, 36, .inl (nA st.2.2.2.1))), (b5, .inl (cI, 36, .inl (nA (e8 co)))), (b6, .inl (cI, 36, .inl (nA (e8 ro))))] := hD
  have hch : sCh al co ro st k ≤ al := rCh_le _ _ _ _ _ _
  refine lv_istore_n (lv' := [(3, .int (nI (sCh al co ro st k))), (2, .int (nI (st.2.2.2.1 k))), (0, .ref a), (1, .int (nI k))]) hx hb d_RC_settle_23 rfl hl (by decide) rfl (fun ls hl => ?_)
  refine lv_iconst (v := nI 1) hx hb d_RC_settle_24 (by decide) ?_
  refine lv_istore (lv' := [(4, .int (nI 1)), (3, .int (nI (sCh al co ro st k))), (2, .int (nI (st.2.2.2.1 k))), (0, .ref a), (1, .int (nI k))]) hx hb d_RC_settle_25 hl (by decide) rfl (fun ls hl => ?_)
  exact L_RC_settle a b1 b2 b3 b4 b5 b6 n g sh al fd fx le co ro k (st.2.2.2.1 k) (sCh al co ro st k) hk (hwi k) (by omega) hco hro hn hg hsh hal E 8 1 st (by omega) (by omega) (by omega) hiv (by exact rfl) _ _ hP hD hS ls (lv_sub hl [3, 4, 2, 1, 0] rfl)
abbrev W7 (st : S6) : Prop := (∀ k, st.1 k < 7) ∧ ∀ k, st.2.2.2.1 k < 7
theorem w7_put {co ro : Nat → Nat} {st : S6} {k v : Nat} (h : W7 st) (hv : v < 7) : W7 (sPut co ro st k v) := ⟨up_lt h.1 hv, h.2⟩
theorem w7_take {co ro : Nat → Nat} {st : S6} {k v : Nat} (h : W7 st) : W7 (sTake co ro st k v) := ⟨up_lt h.1 (by decide), h.2⟩
theorem w7_wit {st : S6} (h : W7 st) : W7 (sWit st) := ⟨h.1, fun k => by
  show va_cpy st.1 st.2.2.2.1 0 0 36 k < 7
  unfold va_cpy
  split
  · exact h.1 _
  · exact h.2 _⟩
theorem w7_cW {g : Nat} {co ro : Nat → Nat} {go : Nat → S6 → Nat × S6} {k ch most : Nat} (hg : g ≤ 6) (hgo : ∀ x st, W7 st → W7 (go x st).2) : ∀ m v cnt st, W7 st → W7 (cW g co ro go k ch most m v cnt st).2 := by
  intro m
  induction m with
  | zero => intro v cnt st h2; exact h2
  | succ m ih =>
    intro v cnt st h2
    rw [cW]
    split
    · split
      · exact ih _ _ _ h2
      · exact ih _ _ _ (w7_take (hgo _ _ (w7_put h2 (by omega))))
    · exact h2
theorem w7_cF {n g sh al : Nat} {co ro : Nat → Nat} (hg : g ≤ 6) : ∀ e most st, W7 st → W7 (cF n g sh al co ro e most st).2 := by
  intro e
  induction e with
  | zero =>
    intro most st h2
    rw [cF]
    split
    · exact w7_wit h2
    · exact h2
  | succ e ih =>
    intro most st h2
    rw [cF]
    split
    · exact w7_wit h2
    · split
      · split
        · exact w7_cW hg ih _ _ _ _ ⟨h2.1, h2.2⟩
        · exact ⟨h2.1, h2.2⟩
      · exact w7_cW hg ih _ _ _ _ h2
theorem w7_st {n g sh al : Nat} {co ro : Nat → Nat} (hg : g ≤ 6) {k known ch : Nat} (hk : known < 7) : ∀ m v st, W7 st → W7 (sSt n g sh al co ro k known ch m v st) := by
  intro m
  induction m with
  | zero => intro v st h; exact w7_put h hk
  | succ m ih =>
    intro v st h
    rw [sSt]
    split
    · have g1 := w7_cF (n := n) (sh := sh) (al := al) (co := co) (ro := ro) hg 36 1 (sPut co ro st k v) (w7_put h (by omega))
      split
      · exact ih _ _ h
      · split
        · exact ih _ _ (w7_take g1)
        · exact g1
    · exact w7_put h hk
theorem w7_lay {n al : Nat} {fx co ro : Nat → Nat} (hfx : ∀ k, fx k < 7) : ∀ m k (st : S3), (∀ j, st.1 j < 7) → (∀ j, (rLay n al fx co ro m k st).2.1 j < 7) := by
  intro m
  induction m with
  | zero => intro k st hs; exact hs
  | succ m ih =>
    intro k st hs
    rw [rLay]
    split
    · split
      · exact ih _ _ hs
      · split
        · exact hs
        · exact ih _ _ (up_lt hs (hfx k))
    · exact hs
theorem w7_lg {n al : Nat} {fx co ro : Nat → Nat} {st : S6} (hfx : ∀ k, fx k < 7) (h : W7 st) : W7 (sLG n al fx co ro st) := ⟨w7_lay hfx _ _ _ (rZ_lt (by decide) _ _ _ h.1), h.2⟩
theorem sLp_ok {n g sh al : Nat} {co ro : Nat → Nat} (hg : g ≤ 6) (hal : al < 128) : ∀ m k st, Iv st → W7 st → Iv (sLp n g sh al co ro m k st) ∧ W7 (sLp n g sh al co ro m k st) := by
  intro m
  induction m with
  | zero => intro k st h1 h2; exact ⟨h1, h2⟩
  | succ m ih =>
    intro k st h1 h2
    rw [sLp]
    split
    · split
      · exact ih _ _ (iv_st hg hal (h2.2 k) _ _ _ (by have := h2.2 k; omega) h1) (w7_st hg (h2.2 k) _ _ _ h2)
      · exact ih _ _ h1 h2
    · exact ⟨h1, h2⟩
/-- fill: found or not, the least rectangle, what the arrays are then -/
def sFl (n g sh al : Nat) (fx co ro : Nat → Nat) (le : Nat → Nat) (st : S6) : Nat × (Nat → Nat) × S6 :=
  if (sL0 n al fx co ro st).1 = 0 then (0, le, sLG n al fx co ro st)
  else if (cF n g sh al co ro 36 1 (sLG n al fx co ro st)).1 = 0 then (0, le, (cF n g sh al co ro 36 1 (sLG n al fx co ro st)).2)
  else (1, va_cpy (sLp n g sh al co ro (n + 1) 0 (cF n g sh al co ro 36 1 (sLG n al fx co ro st)).2).1 le 0 0 36, sLp n g sh al co ro (n + 1) 0 (cF n g sh al co ro 36 1 (sLG n al fx co ro st)).2)
set_option maxHeartbeats 1000000 in
set_option maxRecDepth 100000 in
theorem L_RC_findLeast {p : Program} {l : Launch} {e : Env} {s : State} {m : MethodId} {args : Array Value} {below : List Frame} {meth : Method} {c : Code} {A : Nat → Prop} {D : va_G} {cI cL : ClassId} {c0 : Cond} {post : Int32 → va_W → Prop} (a b1 b2 b3 b4 b5 b6 n g sh al : Nat) (fx le co ro : Nat → Nat) (hco : ∀ k, co k < 6) (hro : ∀ k, ro k < 6) (hn : n ≤ 36) (hg : g ≤ 6) (hsh : sh ≤ 6) (hal : al < 128) (E : En p s m args meth c b_RC_findLeast 2 (c0 :: Om) R_RC (some .boolean) A D [(cI, .int), (cL, .long)]) : ∀ (m1 : Nat) (k : Nat) (st : S6), k ≤ n → n < k + m1 → Iv st → W7 st → post (nI 1) [(a, .inr (2, [.int (nI n), .int (nI g), .int (nI sh), .int (nI al), .ref b1, .ref b2, .ref b3, .ref b4, .ref b5, .ref b6, .long (lN (lz ((sLp n g sh al co ro m1 k st).2.1))), .long (lN (lz ((sLp n g sh al co ro m1 k st).2.2.1))), .int (nI 1)])), (b1, .inl (cI, 36, .inl (nA fx))), (b2, .inl (cI, 36, .inl (nA (va_cpy (sLp n g sh al co ro m1 k st).1 le 0 0 36)))), (b3, .inl (cI, 36, .inl (nA ((sLp n g sh al co ro m1 k st).1)))), (b4, .inl (cI, 36, .inl (nA ((sLp n g sh al co ro m1 k st).2.2.2.1)))), (b5, .inl (cI, 36, .inl (nA (e8 co)))), (b6, .inl (cI, 36, .inl (nA (e8 ro))))] → ∀ (H : Heap) (locs : List Loc), va_P D classes [(a, .inr (2, [.int (nI n), .int (nI g), .int (nI sh), .int (nI al), .ref b1, .ref b2, .ref b3, .ref b4, .ref b5, .ref b6, .long (lN (lz st.2.1)), .long (lN (lz st.2.2.1)), .int (nI 1)])), (b1, .inl (cI, 36, .inl (nA fx))), (b2, .inl (cI, 36, .inl (nA le))), (b3, .inl (cI, 36, .inl (nA st.1))), (b4, .inl (cI, 36, .inl (nA st.2.2.2.1))), (b5, .inl (cI, 36, .inl (nA (e8 co)))), (b6, .inl (cI, 36, .inl (nA (e8 ro))))] H → va_D A [(a, .inr (2, [.int (nI n), .int (nI g), .int (nI sh), .int (nI al), .ref b1, .ref b2, .ref b3, .ref b4, .ref b5, .ref b6, .long (lN (lz st.2.1)), .long (lN (lz st.2.2.1)), .int (nI 1)])), (b1, .inl (cI, 36, .inl (nA fx))), (b2, .inl (cI, 36, .inl (nA le))), (b3, .inl (cI, 36, .inl (nA st.1))), (b4, .inl (cI, 36, .inl (nA st.2.2.2.1))), (b5, .inl (cI, 36, .inl (nA (e8 co)))), (b6, .inl (cI, 36, .inl (nA (e8 ro))))] → va_S A s.heap H locs → ∀ ls : Array Slot, lv_has ls 2 [(0, .ref a), (1, .int (nI k))] → W p l e { frames := 78, cells := 0, slots := 0, locals := 2400 } s m args below meth c H locs 0 0 (MQ below (qI D [(cI, .int), (cL, .long)] post A) args s 0 0 A) (F0 m 27 ls []) := by
  obtain ⟨hx, hb, hml, hown, hts, hr, hlk, hA, hK, hN⟩ := id E
  have ho : ∀ q ∈ Om, q.before _ s = true := fun q h => hts q (List.mem_cons_of_mem _ h)
  intro m1
  induction m1 with
  | zero =>
    intro k st h1 h2 hiv hw7 hq
    exact absurd h2 (by omega)
  | succ m1 ih =>
    intro k st h1 h2 hiv hw7 hq H locs hP hD hS ls hl
    refine lv_aload_n hx hb d_RC_findLeast_27 rfl (lv_at hl 0 rfl) ?_
    refine va_get (D := D) (ci := 2) (v := .int (nI 1)) (C := R_RC) (T := F_RC) (N := 13) hx hb ho j_RC hown hK hP 0 rfl rfl 12 (by decide) (ho _ kf_RC_52) (fun _ h9 => h9) rfl d_RC_findLeast_28 ?_
    refine nr_if_eq (tgt := 62) hx hb d_RC_findLeast_31 (by decide) (by decide) (fun h9 => absurd h9 (by decide)) (fun _ => ?_)
    refine lv_iload_n hx hb d_RC_findLeast_34 rfl (lv_at hl 1 rfl) ?_
    refine lv_aload_n hx hb d_RC_findLeast_35 rfl (lv_at hl 0 rfl) ?_
    refine va_get (D := D) (ci := 2) (v := .int (nI n)) (C := R_RC) (T := F_RC) (N := 13) hx hb ho j_RC hown hK hP 0 rfl rfl 0 (by decide) (ho _ kf_RC_36) (fun _ h9 => h9) rfl d_RC_findLeast_36 ?_
    refine nr_icmp_ge (tgt := 62) hx hb d_RC_findLeast_39 (by decide) (by omega) (by omega) (fun h_1 => ?_) (fun h_1 => ?_)
    · refine lv_aload_n hx hb d_RC_findLeast_62 rfl (lv_at hl 0 rfl) ?_
      refine va_get (D := D) (ci := 2) (v := .int (nI 1)) (C := R_RC) (T := F_RC) (N := 13) hx hb ho j_RC hown hK hP 0 rfl rfl 12 (by decide) (ho _ kf_RC_52) (fun _ h9 => h9) rfl d_RC_findLeast_63 ?_
      refine nr_if_eq (tgt := 84) hx hb d_RC_findLeast_66 (by decide) (by decide) (fun h9 => absurd h9 (by decide)) (fun _ => ?_)
      refine lv_aload_n hx hb d_RC_findLeast_69 rfl (lv_at hl 0 rfl) ?_
      refine va_get (D := D) (ci := 2) (v := .ref b3) (C := R_RC) (T := F_RC) (N := 13) hx hb ho j_RC hown hK hP 0 rfl rfl 6 (by decide) (ho _ kf_RC_18) (fun _ h9 => h9) rfl d_RC_findLeast_70 ?_
      refine lv_iconst (v := nI 0) hx hb d_RC_findLeast_73 (by decide) ?_
      refine lv_aload_n hx hb d_RC_findLeast_74 rfl (lv_at hl 0 rfl) ?_
      refine va_get (D := D) (ci := 2) (v := .ref b2) (C := R_RC) (T := F_RC) (N := 13) hx hb ho j_RC hown hK hP 0 rfl rfl 5 (by decide) (ho _ kf_RC_15) (fun _ h9 => h9) rfl d_RC_findLeast_75 ?_
      refine lv_iconst (v := nI 0) hx hb d_RC_findLeast_78 (by decide) ?_
      refine lv_bipush (v := nI 36) hx hb d_RC_findLeast_79 (by decide) ?_
      refine nr_copy hx hb (hml.trans hl.1.symm) hown (ho _ km_RC_67) (ho _ kq_copy.1) (ho _ kq_copy.2) (ho _ kz_SY) hK hP hD hS 3 2 0 rfl rfl rfl (by decide) (by decide) (by decide) (by first | decide | (dsimp only; omega)) (Nat.le_of_ble_eq_true rfl) (by first | decide | (dsimp only; omega)) d_RC_findLeast_81 (fun H locs hP hD hS => ?_)
      have hP : va_P D classes [(a, .inr (2, [.int (nI n), .int (nI g), .int (nI sh), .int (nI al), .ref b1, .ref b2, .ref b3, .ref b4, .ref b5, .ref b6, .long (lN (lz st.2.1)), .long (lN (lz st.2.2.1)), .int (nI 1)])), (b1, .inl (cI, 36, .inl (nA fx))), (b2, .inl (cI, 36, .inl (nA (va_cpy st.1 le 0 0 36)))), (b3, .inl (cI, 36, .inl (nA st.1))), (b4, .inl (cI, 36, .inl (nA st.2.2.2.1))), (b5, .inl (cI, 36, .inl (nA (e8 co)))), (b6, .inl (cI, 36, .inl (nA (e8 ro))))] H := hP
      have hD : va_D A [(a, .inr (2, [.int (nI n), .int (nI g), .int (nI sh), .int (nI al), .ref b1, .ref b2, .ref b3, .ref b4, .ref b5, .ref b6, .long (lN (lz st.2.1)), .long (lN (lz st.2.2.1)), .int (nI 1)])), (b1, .inl (cI, 36, .inl (nA fx))), (b2, .inl (cI, 36, .inl (nA (va_cpy st.1 le 0 0 36)))), (b3, .inl (cI, 36, .inl (nA st.1))), (b4, .inl (cI, 36, .inl (nA st.2.2.2.1))), (b5, .inl (cI, 36, .inl (nA (e8 co)))), (b6, .inl (cI, 36, .inl (nA (e8 ro))))] := hD
      refine lv_aload_n hx hb d_RC_findLeast_84 rfl (lv_at hl 0 rfl) ?_
      refine va_get (D := D) (ci := 2) (v := .int (nI 1)) (C := R_RC) (T := F_RC) (N := 13) hx hb ho j_RC hown hK hP 0 rfl rfl 12 (by decide) (ho _ kf_RC_52) (fun _ h9 => h9) rfl d_RC_findLeast_85 ?_
      exact rt_z E hP hD hS (by decide) (by rw [sLp, if_neg (by omega)] at hq; exact hq) d_RC_findLeast_88
    · refine lv_aload_n hx hb d_RC_findLeast_42 rfl (lv_at hl 0 rfl) ?_
      refine va_get (D := D) (ci := 2) (v := .ref b3) (C := R_RC) (T := F_RC) (N := 13) hx hb ho j_RC hown hK hP 0 rfl rfl 6 (by decide) (ho _ kf_RC_18) (fun _ h9 => h9) rfl d_RC_findLeast_43 ?_
      refine lv_iload_n hx hb d_RC_findLeast_46 rfl (lv_at hl 1 rfl) ?_
      have htk := hiv.1 k
      refine nr_ialdN hx hb hK hP 3 0 rfl rfl (i := k) (by omega) (by decide) d_RC_findLeast_47 ?_
      refine nr_if_ne (tgt := 56) hx hb d_RC_findLeast_48 (by decide) (by omega) (fun h_2 => ?_) (fun h_2 => ?_)
      · refine nr_iinc (lv' := [(1, .int (nI (k + 1))), (0, .ref a)]) hx hb d_RC_findLeast_56 hl (k := 1) rfl (by decide) rfl (fun ls hl => ?_)
        refine lv_goto (tgt := 27) hx hb d_RC_findLeast_59 (by decide) ?_
        exact ih (k + 1) st (by omega) (by omega) hiv hw7 (by rw [sLp, if_pos (by omega), if_neg (by omega)] at hq; exact hq) _ _ hP hD hS ls (lv_sub hl [1, 0] rfl)
      · refine lv_aload_n hx hb d_RC_findLeast_51 rfl (lv_at hl 0 rfl) ?_
        refine lv_iload_n hx hb d_RC_findLeast_52 rfl (lv_at hl 1 rfl) ?_
        refine af_v (wc := [(a, .inr (2, [.int (nI n), .int (nI g), .int (nI sh), .int (nI al), .ref b1, .ref b2, .ref b3, .ref b4, .ref b5, .ref b6, .long (lN (lz st.2.1)), .long (lN (lz st.2.2.1)), .int (nI 1)])), (b1, .inl (cI, 36, .inl (nA fx))), (b2, .inl (cI, 36, .inl (nA le))), (b3, .inl (cI, 36, .inl (nA st.1))), (b4, .inl (cI, 36, .inl (nA st.2.2.2.1))), (b5, .inl (cI, 36, .inl (nA (e8 co)))), (b6, .inl (cI, 36, .inl (nA (e8 ro))))]) (wr := []) (rest := []) [0, 1, 2, 3, 4, 5, 6] [] hP hD hS hA rfl rfl (by decide) (by decide) (rn_V E (As := [.int (nI k)]) m_RC_settle km_RC_63 (c_RC_settle l D cI cL a b1 b2 b3 b4 b5 b6 n g sh al 1 fx le co ro k (by omega) hco hro hn hg hsh hal st hiv hw7.2 _) ⟨rfl, rfl, by dsimp only; omega, by dsimp only; omega⟩ (hP.sub [0, 1, 2, 3, 4, 5, 6] rfl) (hD.sub [0, 1, 2, 3, 4, 5, 6] (by decide) rfl) (q0 := 0) (ci := 2) rfl rfl rfl hl.1 rfl (Nat.le_of_ble_eq_true rfl) ⟨Nat.le_of_ble_eq_true rfl, Nat.le_of_ble_eq_true rfl⟩ d_RC_findLeast_53) (fun u_3 H locs hw hP hD hS => ?_)
        obtain rfl := hw
        have hP : va_P D classes [(a, .inr (2, [.int (nI n), .int (nI g), .int (nI sh), .int (nI al), .ref b1, .ref b2, .ref b3, .ref b4, .ref b5, .ref b6, .long (lN (lz ((sS1 n g sh al co ro k st).2.1))), .long (lN (lz ((sS1 n g sh al co ro k st).2.2.1))), .int (nI 1)])), (b1, .inl (cI, 36, .inl (nA fx))), (b2, .inl (cI, 36, .inl (nA le))), (b3, .inl (cI, 36, .inl (nA ((sS1 n g sh al co ro k st).1)))), (b4, .inl (cI, 36, .inl (nA ((sS1 n g sh al co ro k st).2.2.2.1)))), (b5, .inl (cI, 36, .inl (nA (e8 co)))), (b6, .inl (cI, 36, .inl (nA (e8 ro))))] H := hP
        have hD : va_D A [(a, .inr (2, [.int (nI n), .int (nI g), .int (nI sh), .int (nI al), .ref b1, .ref b2, .ref b3, .ref b4, .ref b5, .ref b6, .long (lN (lz ((sS1 n g sh al co ro k st).2.1))), .long (lN (lz ((sS1 n g sh al co ro k st).2.2.1))), .int (nI 1)])), (b1, .inl (cI, 36, .inl (nA fx))), (b2, .inl (cI, 36, .inl (nA le))), (b3, .inl (cI, 36, .inl (nA ((sS1 n g sh al co ro k st).1)))), (b4, .inl (cI, 36, .inl (nA ((sS1 n g sh al co ro k st).2.2.2.1)))), (b5, .inl (cI, 36, .inl (nA (e8 co)))), (b6, .inl (cI, 36, .inl (nA (e8 ro))))] := hD
        refine nr_iinc (lv' := [(1, .int (nI (k + 1))), (0, .ref a)]) hx hb d_RC_findLeast_56 hl (k := 1) rfl (by decide) rfl (fun ls hl => ?_)
        refine lv_goto (tgt := 27) hx hb d_RC_findLeast_59 (by decide) ?_
        exact ih (k + 1) (sS1 n g sh al co ro k st) (by omega) (by omega) (iv_st hg hal (hw7.2 k) _ _ _ (by have := hw7.2 k; omega) hiv) (w7_st hg (hw7.2 k) _ _ _ hw7) (by rw [sLp, if_pos (by omega), if_pos (by omega)] at hq; exact hq) _ _ hP hD hS ls (lv_sub hl [1, 0] rfl)
set_option maxHeartbeats 1000000 in
set_option maxRecDepth 100000 in
theorem c_RC_findLeast (l : Launch) (D : va_G) (cI cL : ClassId) (a b1 b2 b3 b4 b5 b6 n g sh al fd : Nat) (fx le co ro : Nat → Nat) (hco : ∀ k, co k < 6) (hro : ∀ k, ro k < 6) (hn : n ≤ 36) (hg : g ≤ 6) (hsh : sh ≤ 6) (hal : al < 128) (hfx : ∀ k, fx k < 7) (st : S6) (hiv : Iv st) (hw7 : W7 st) : CI l y_RC_findLeast (.code y_RC_findLeast b_RC_findLeast 2 (some .boolean) :: Om) { frames := 78, cells := 0, slots := 0, locals := 2400 } D [(a, .inr (2, [.int (nI n), .int (nI g), .int (nI sh), .int (nI al), .ref b1, .ref b2, .ref b3, .ref b4, .ref b5, .ref b6, .long (lN (lz st.2.1)), .long (lN (lz st.2.2.1)), .int (nI fd)])), (b1, .inl (cI, 36, .inl (nA fx))), (b2, .inl (cI, 36, .inl (nA le))), (b3, .inl (cI, 36, .inl (nA st.1))), (b4, .inl (cI, 36, .inl (nA st.2.2.2.1))), (b5, .inl (cI, 36, .inl (nA (e8 co)))), (b6, .inl (cI, 36, .inl (nA (e8 ro))))] [(cI, .int), (cL, .long)] [.ref a] (fun r u => r = nI (sFl n g sh al fx co ro le st).1 ∧ u = [(a, .inr (2, [.int (nI n), .int (nI g), .int (nI sh), .int (nI al), .ref b1, .ref b2, .ref b3, .ref b4, .ref b5, .ref b6, .long (lN (lz (((sFl n g sh al fx co ro le st).2.2).2.1))), .long (lN (lz (((sFl n g sh al fx co ro le st).2.2).2.2.1))), .int (nI ((sFl n g sh al fx co ro le st).1))])), (b1, .inl (cI, 36, .inl (nA fx))), (b2, .inl (cI, 36, .inl (nA ((sFl n g sh al fx co ro le st).2.1)))), (b3, .inl (cI, 36, .inl (nA (((sFl n g sh al fx co ro le st).2.2).1)))), (b4, .inl (cI, 36, .inl (nA (((sFl n g sh al fx co ro le st).2.2).2.2.2.1)))), (b5, .inl (cI, 36, .inl (nA (e8 co)))), (b6, .inl (cI, 36, .inl (nA (e8 ro))))]) := by
  refine en_of (cc := b_RC_findLeast) (Qc := qI D [(cI, .int), (cL, .long)] (fun r u => r = nI (sFl n g sh al fx co ro le st).1 ∧ u = [(a, .inr (2, [.int (nI n), .int (nI g), .int (nI sh), .int (nI al), .ref b1, .ref b2, .ref b3, .ref b4, .ref b5, .ref b6, .long (lN (lz (((sFl n g sh al fx co ro le st).2.2).2.1))), .long (lN (lz (((sFl n g sh al fx co ro le st).2.2).2.2.1))), .int (nI ((sFl n g sh al fx co ro le st).1))])), (b1, .inl (cI, 36, .inl (nA fx))), (b2, .inl (cI, 36, .inl (nA ((sFl n g sh al fx co ro le st).2.1)))), (b3, .inl (cI, 36, .inl (nA (((sFl n g sh al fx co ro le st).2.2).1)))), (b4, .inl (cI, 36, .inl (nA (((sFl n g sh al fx co ro le st).2.2).2.2.2.1)))), (b5, .inl (cI, 36, .inl (nA (e8 co)))), (b6, .inl (cI, 36, .inl (nA (e8 ro))))])) (by decide) rfl (Nat.le_of_ble_eq_true rfl) ?_
  intro p e s m below meth c A E hnm hP hD hS ls hl
  have hl : lv_has ls 2 [(0, .ref a)] := hl
  obtain ⟨hx, hb, hml, hown, hts, hr, hlk, hA, hK, hN⟩ := id E
  have ho : ∀ q ∈ Om, q.before _ s = true := fun q h => hts q (List.mem_cons_of_mem _ h)
  refine lv_aload_n hx hb d_RC_findLeast_0 rfl (lv_at hl 0 rfl) ?_
  refine lv_aload_n hx hb d_RC_findLeast_1 rfl (lv_at hl 0 rfl) ?_
  have hlg := iv_lg (n := n) (al := al) (co := co) (ro := ro) hfx hiv
  have hlg2 : (rLG n al fx co ro (st.1, st.2.1, st.2.2.1)).1 = (sL0 n al fx co ro st).1 := rfl
  refine af_i (wc := [(a, .inr (2, [.int (nI n), .int (nI g), .int (nI sh), .int (nI al), .ref b1, .ref b2, .ref b3, .ref b4, .ref b5, .ref b6, .long (lN (lz st.2.1)), .long (lN (lz st.2.2.1)), .int (nI fd)])), (b1, .inl (cI, 36, .inl (nA fx))), (b2, .inl (cI, 36, .inl (nA le))), (b3, .inl (cI, 36, .inl (nA st.1))), (b4, .inl (cI, 36, .inl (nA st.2.2.2.1))), (b5, .inl (cI, 36, .inl (nA (e8 co)))), (b6, .inl (cI, 36, .inl (nA (e8 ro))))]) (wr := []) (rest := [.ref a]) [0, 1, 2, 3, 4, 5, 6] [] hP hD hS hA rfl rfl (by decide) (by decide) (rn_V E (As := []) m_RC_layGiven km_RC_56 (c_RC_layGiven l D cI cL a b1 b2 b3 b4 b5 b6 n g sh al fd fx le st.1 st.2.2.2.1 co ro st.2.1 st.2.2.1 hco hro hn hal hfx hiv.2.1 hiv.2.2.1 _) ⟨rfl, rfl, by dsimp only; omega, by dsimp only; omega⟩ (hP.sub [0, 1, 2, 3, 4, 5, 6] rfl) (hD.sub [0, 1, 2, 3, 4, 5, 6] (by decide) rfl) (q0 := 0) (ci := 2) rfl rfl rfl hl.1 rfl (Nat.le_of_ble_eq_true rfl) ⟨Nat.le_of_ble_eq_true rfl, Nat.le_of_ble_eq_true rfl⟩ d_RC_findLeast_2) (fun r_2 u_1 H locs hw hP hD hS => ?_)
  obtain ⟨rfl, rfl⟩ := hw
  have hP : va_P D classes [(a, .inr (2, [.int (nI n), .int (nI g), .int (nI sh), .int (nI al), .ref b1, .ref b2, .ref b3, .ref b4, .ref b5, .ref b6, .long (lN (lz ((sLG n al fx co ro st).2.1))), .long (lN (lz ((sLG n al fx co ro st).2.2.1))), .int (nI fd)])), (b1, .inl (cI, 36, .inl (nA fx))), (b2, .inl (cI, 36, .inl (nA le))), (b3, .inl (cI, 36, .inl (nA ((sLG n al fx co ro st).1)))), (b4, .inl (cI, 36, .inl (nA ((sLG n al fx co ro st).2.2.2.1)))), (b5, .inl (cI, 36, .inl (nA (e8 co)))), (b6, .inl (cI, 36, .inl (nA (e8 ro))))] H := hP
  have hD : va_D A [(a, .inr (2, [.int (nI n), .int (nI g), .int (nI sh), .int (nI al), .ref b1, .ref b2, .ref b3, .ref b4, .ref b5, .ref b6, .long (lN (lz ((sLG n al fx co ro st).2.1))), .long (lN (lz ((sLG n al fx co ro st).2.2.1))), .int (nI fd)])), (b1, .inl (cI, 36, .inl (nA fx))), (b2, .inl (cI, 36, .inl (nA le))), (b3, .inl (cI, 36, .inl (nA ((sLG n al fx co ro st).1)))), (b4, .inl (cI, 36, .inl (nA ((sLG n al fx co ro st).2.2.2.1)))), (b5, .inl (cI, 36, .inl (nA (e8 co)))), (b6, .inl (cI, 36, .inl (nA (e8 ro))))] := hD
  refine nr_if_eq (tgt := 21) hx hb d_RC_findLeast_5 (by decide) (by omega) (fun h_3 => ?_) (fun h_3 => ?_)
  · refine lv_iconst (v := nI 0) hx hb d_RC_findLeast_21 (by decide) ?_
    refine va_put (D := D) (ci := 2) (v := .int (nI 0)) (ty := .boolean) (C := R_RC) (T := F_RC) (N := 13) hx hb ho j_RC t_RC t_RC_ok n_RC hown hK hP hD hS 0 rfl rfl 12 (by decide) (ho _ kf_RC_52) (fun _ h9 => h9) rfl (by decide +kernel) (by first | rfl | decide | assumption) (by first | rfl | decide | assumption) (Nat.le_of_ble_eq_true rfl) d_RC_findLeast_22 (fun H locs hP hD hS => ?_)
    have hP : va_P D classes [(a, .inr (2, [.int (nI n), .int (nI g), .int (nI sh), .int (nI al), .ref b1, .ref b2, .ref b3, .ref b4, .ref b5, .ref b6, .long (lN (lz ((sLG n al fx co ro st).2.1))), .long (lN (lz ((sLG n al fx co ro st).2.2.1))), .int (nI 0)])), (b1, .inl (cI, 36, .inl (nA fx))), (b2, .inl (cI, 36, .inl (nA le))), (b3, .inl (cI, 36, .inl (nA ((sLG n al fx co ro st).1)))), (b4, .inl (cI, 36, .inl (nA ((sLG n al fx co ro st).2.2.2.1)))), (b5, .inl (cI, 36, .inl (nA (e8 co)))), (b6, .inl (cI, 36, .inl (nA (e8 ro))))] H := hP
    have hD : va_D A [(a, .inr (2, [.int (nI n), .int (nI g), .int (nI sh), .int (nI al), .ref b1, .ref b2, .ref b3, .ref b4, .ref b5, .ref b6, .long (lN (lz ((sLG n al fx co ro st).2.1))), .long (lN (lz ((sLG n al fx co ro st).2.2.1))), .int (nI 0)])), (b1, .inl (cI, 36, .inl (nA fx))), (b2, .inl (cI, 36, .inl (nA le))), (b3, .inl (cI, 36, .inl (nA ((sLG n al fx co ro st).1)))), (b4, .inl (cI, 36, .inl (nA ((sLG n al fx co ro st).2.2.2.1)))), (b5, .inl (cI, 36, .inl (nA (e8 co)))), (b6, .inl (cI, 36, .inl (nA (e8 ro))))] := hD
    refine lv_iconst (v := nI 0) hx hb d_RC_findLeast_25 (by decide) ?_
    refine lv_istore_n (lv' := [(1, .int (nI 0)), (0, .ref a)]) hx hb d_RC_findLeast_26 rfl hl (by decide) rfl (fun ls hl => ?_)
    refine lv_aload_n hx hb d_RC_findLeast_27 rfl (lv_at hl 1 rfl) ?_
    refine va_get (D := D) (ci := 2) (v := .int (nI 0)) (C := R_RC) (T := F_RC) (N := 13) hx hb ho j_RC hown hK hP 0 rfl rfl 12 (by decide) (ho _ kf_RC_52) (fun _ h9 => h9) rfl d_RC_findLeast_28 ?_
    refine nr_if_eq (tgt := 62) hx hb d_RC_findLeast_31 (by decide) (by decide) (fun _ => ?_) (fun h9 => absurd h9 (by decide))
    refine lv_aload_n hx hb d_RC_findLeast_62 rfl (lv_at hl 1 rfl) ?_
    refine va_get (D := D) (ci := 2) (v := .int (nI 0)) (C := R_RC) (T := F_RC) (N := 13) hx hb ho j_RC hown hK hP 0 rfl rfl 12 (by decide) (ho _ kf_RC_52) (fun _ h9 => h9) rfl d_RC_findLeast_63 ?_
    refine nr_if_eq (tgt := 84) hx hb d_RC_findLeast_66 (by decide) (by decide) (fun _ => ?_) (fun h9 => absurd h9 (by decide))
    refine lv_aload_n hx hb d_RC_findLeast_84 rfl (lv_at hl 1 rfl) ?_
    refine va_get (D := D) (ci := 2) (v := .int (nI 0)) (C := R_RC) (T := F_RC) (N := 13) hx hb ho j_RC hown hK hP 0 rfl rfl 12 (by decide) (ho _ kf_RC_52) (fun _ h9 => h9) rfl d_RC_findLeast_85 ?_
    exact rt_z E hP hD hS (by decide) (by rw [sFl]; first | (rw [if_pos (by omega)]; exact ⟨rfl, rfl⟩) | (rw [if_neg (by omega), if_pos (by omega)]; exact ⟨rfl, rfl⟩)) d_RC_findLeast_88
  · refine lv_aload_n hx hb d_RC_findLeast_8 rfl (lv_at hl 0 rfl) ?_
    refine lv_iconst (v := nI 0) hx hb d_RC_findLeast_9 (by decide) ?_
    refine lv_iconst (v := nI 1) hx hb d_RC_findLeast_10 (by decide) ?_
    have hgo := cF_ok (n := n) (sh := sh) (co := co) (ro := ro) hg hal 36 1 (sLG n al fx co ro st) (by omega) hlg.2
    refine af_i (wc := [(a, .inr (2, [.int (nI n), .int (nI g), .int (nI sh), .int (nI al), .ref b1, .ref b2, .ref b3, .ref b4, .ref b5, .ref b6, .long (lN (lz ((sLG n al fx co ro st).2.1))), .long (lN (lz ((sLG n al fx co ro st).2.2.1))), .int (nI fd)])), (b1, .inl (cI, 36, .inl (nA fx))), (b2, .inl (cI, 36, .inl (nA le))), (b3, .inl (cI, 36, .inl (nA ((sLG n al fx co ro st).1)))), (b4, .inl (cI, 36, .inl (nA ((sLG n al fx co ro st).2.2.2.1)))), (b5, .inl (cI, 36, .inl (nA (e8 co)))), (b6, .inl (cI, 36, .inl (nA (e8 ro))))]) (wr := []) (rest := [.ref a]) [0, 1, 2, 3, 4, 5, 6] [] hP hD hS hA rfl rfl (by decide) (by decide) (rn_V E (As := [.int (nI 0), .int (nI 1)]) m_RC_countFrom km_RC_60 (c_RC_countFrom l D cI cL a b1 b2 b3 b4 b5 b6 n g sh al fd fx le co ro hco hro hn hg hsh hal 36 (Nat.le_refl 36) 1 (sLG n al fx co ro st) (by omega) (by omega) hlg.2 _) ⟨rfl, rfl, by dsimp only; omega, by dsimp only; omega⟩ (hP.sub [0, 1, 2, 3, 4, 5, 6] rfl) (hD.sub [0, 1, 2, 3, 4, 5, 6] (by decide) rfl) (q0 := 0) (ci := 2) rfl rfl rfl hl.1 rfl (Nat.le_of_ble_eq_true rfl) ⟨Nat.le_of_ble_eq_true rfl, Nat.le_of_ble_eq_true rfl⟩ d_RC_findLeast_11) (fun r_5 u_4 H locs hw hP hD hS => ?_)
    obtain ⟨rfl, rfl⟩ := hw
    have hP : va_P D classes [(a, .inr (2, [.int (nI n), .int (nI g), .int (nI sh), .int (nI al), .ref b1, .ref b2, .ref b3, .ref b4, .ref b5, .ref b6, .long (lN (lz (((cF n g sh al co ro 36 1 (sLG n al fx co ro st)).2).2.1))), .long (lN (lz (((cF n g sh al co ro 36 1 (sLG n al fx co ro st)).2).2.2.1))), .int (nI fd)])), (b1, .inl (cI, 36, .inl (nA fx))), (b2, .inl (cI, 36, .inl (nA le))), (b3, .inl (cI, 36, .inl (nA (((cF n g sh al co ro 36 1 (sLG n al fx co ro st)).2).1)))), (b4, .inl (cI, 36, .inl (nA (((cF n g sh al co ro 36 1 (sLG n al fx co ro st)).2).2.2.2.1)))), (b5, .inl (cI, 36, .inl (nA (e8 co)))), (b6, .inl (cI, 36, .inl (nA (e8 ro))))] H := hP
    have hD : va_D A [(a, .inr (2, [.int (nI n), .int (nI g), .int (nI sh), .int (nI al), .ref b1, .ref b2, .ref b3, .ref b4, .ref b5, .ref b6, .long (lN (lz (((cF n g sh al co ro 36 1 (sLG n al fx co ro st)).2).2.1))), .long (lN (lz (((cF n g sh al co ro 36 1 (sLG n al fx co ro st)).2).2.2.1))), .int (nI fd)])), (b1, .inl (cI, 36, .inl (nA fx))), (b2, .inl (cI, 36, .inl (nA le))), (b3, .inl (cI, 36, .inl (nA (((cF n g sh al co ro 36 1 (sLG n al fx co ro st)).2).1)))), (b4, .inl (cI, 36, .inl (nA (((cF n g sh al co ro 36 1 (sLG n al fx co ro st)).2).2.2.2.1)))), (b5, .inl (cI, 36, .inl (nA (e8 co)))), (b6, .inl (cI, 36, .inl (nA (e8 ro))))] := hD
    refine nr_if_le (tgt := 21) hx hb d_RC_findLeast_14 (by decide) (by omega) (fun h_6 => ?_) (fun h_6 => ?_)
    · refine lv_iconst (v := nI 0) hx hb d_RC_findLeast_21 (by decide) ?_
      refine va_put (D := D) (ci := 2) (v := .int (nI 0)) (ty := .boolean) (C := R_RC) (T := F_RC) (N := 13) hx hb ho j_RC t_RC t_RC_ok n_RC hown hK hP hD hS 0 rfl rfl 12 (by decide) (ho _ kf_RC_52) (fun _ h9 => h9) rfl (by decide +kernel) (by first | rfl | decide | assumption) (by first | rfl | decide | assumption) (Nat.le_of_ble_eq_true rfl) d_RC_findLeast_22 (fun H locs hP hD hS => ?_)
      have hP : va_P D classes [(a, .inr (2, [.int (nI n), .int (nI g), .int (nI sh), .int (nI al), .ref b1, .ref b2, .ref b3, .ref b4, .ref b5, .ref b6, .long (lN (lz (((cF n g sh al co ro 36 1 (sLG n al fx co ro st)).2).2.1))), .long (lN (lz (((cF n g sh al co ro 36 1 (sLG n al fx co ro st)).2).2.2.1))), .int (nI 0)])), (b1, .inl (cI, 36, .inl (nA fx))), (b2, .inl (cI, 36, .inl (nA le))), (b3, .inl (cI, 36, .inl (nA (((cF n g sh al co ro 36 1 (sLG n al fx co ro st)).2).1)))), (b4, .inl (cI, 36, .inl (nA (((cF n g sh al co ro 36 1 (sLG n al fx co ro st)).2).2.2.2.1)))), (b5, .inl (cI, 36, .inl (nA (e8 co)))), (b6, .inl (cI, 36, .inl (nA (e8 ro))))] H := hP
      have hD : va_D A [(a, .inr (2, [.int (nI n), .int (nI g), .int (nI sh), .int (nI al), .ref b1, .ref b2, .ref b3, .ref b4, .ref b5, .ref b6, .long (lN (lz (((cF n g sh al co ro 36 1 (sLG n al fx co ro st)).2).2.1))), .long (lN (lz (((cF n g sh al co ro 36 1 (sLG n al fx co ro st)).2).2.2.1))), .int (nI 0)])), (b1, .inl (cI, 36, .inl (nA fx))), (b2, .inl (cI, 36, .inl (nA le))), (b3, .inl (cI, 36, .inl (nA (((cF n g sh al co ro 36 1 (sLG n al fx co ro st)).2).1)))), (b4, .inl (cI, 36, .inl (nA (((cF n g sh al co ro 36 1 (sLG n al fx co ro st)).2).2.2.2.1)))), (b5, .inl (cI, 36, .inl (nA (e8 co)))), (b6, .inl (cI, 36, .inl (nA (e8 ro))))] := hD
      refine lv_iconst (v := nI 0) hx hb d_RC_findLeast_25 (by decide) ?_
      refine lv_istore_n (lv' := [(1, .int (nI 0)), (0, .ref a)]) hx hb d_RC_findLeast_26 rfl hl (by decide) rfl (fun ls hl => ?_)
      refine lv_aload_n hx hb d_RC_findLeast_27 rfl (lv_at hl 1 rfl) ?_
      refine va_get (D := D) (ci := 2) (v := .int (nI 0)) (C := R_RC) (T := F_RC) (N := 13) hx hb ho j_RC hown hK hP 0 rfl rfl 12 (by decide) (ho _ kf_RC_52) (fun _ h9 => h9) rfl d_RC_findLeast_28 ?_
      refine nr_if_eq (tgt := 62) hx hb d_RC_findLeast_31 (by decide) (by decide) (fun _ => ?_) (fun h9 => absurd h9 (by decide))
      refine lv_aload_n hx hb d_RC_findLeast_62 rfl (lv_at hl 1 rfl) ?_
      refine va_get (D := D) (ci := 2) (v := .int (nI 0)) (C := R_RC) (T := F_RC) (N := 13) hx hb ho j_RC hown hK hP 0 rfl rfl 12 (by decide) (ho _ kf_RC_52) (fun _ h9 => h9) rfl d_RC_findLeast_63 ?_
      refine nr_if_eq (tgt := 84) hx hb d_RC_findLeast_66 (by decide) (by decide) (fun _ => ?_) (fun h9 => absurd h9 (by decide))
      refine lv_aload_n hx hb d_RC_findLeast_84 rfl (lv_at hl 1 rfl) ?_
      refine va_get (D := D) (ci := 2) (v := .int (nI 0)) (C := R_RC) (T := F_RC) (N := 13) hx hb ho j_RC hown hK hP 0 rfl rfl 12 (by decide) (ho _ kf_RC_52) (fun _ h9 => h9) rfl d_RC_findLeast_85 ?_
      exact rt_z E hP hD hS (by decide) (by rw [sFl]; first | (rw [if_pos (by omega)]; exact ⟨rfl, rfl⟩) | (rw [if_neg (by omega), if_pos (by omega)]; exact ⟨rfl, rfl⟩)) d_RC_findLeast_88
    · refine lv_iconst (v := nI 1) hx hb d_RC_findLeast_17 (by decide) ?_
      refine lv_goto (tgt := 22) hx hb d_RC_findLeast_18 (by decide) ?_
      refine va_put (D := D) (ci := 2) (v := .int (nI 1)) (ty := .boolean) (C := R_RC) (T := F_RC) (N := 13) hx hb ho j_RC t_RC t_RC_ok n_RC hown hK hP hD hS 0 rfl rfl 12 (by decide) (ho _ kf_RC_52) (fun _ h9 => h9) rfl (by decide +kernel) (by first | rfl | decide | assumption) (by first | rfl | decide | assumption) (Nat.le_of_ble_eq_true rfl) d_RC_findLeast_22 (fun H locs hP hD hS => ?_)
      have hP : va_P D classes [(a, .inr (2, [.int (nI n), .int (nI g), .int (nI sh), .int (nI al), .ref b1, .ref b2, .ref b3, .ref b4, .ref b5, .ref b6, .long (lN (lz (((cF n g sh al co ro 36 1 (sLG n al fx co ro st)).2).2.1))), .long (lN (lz (((cF n g sh al co ro 36 1 (sLG n al fx co ro st)).2).2.2.1))), .int (nI 1)])), (b1, .inl (cI, 36, .inl (nA fx))), (b2, .inl (cI, 36, .inl (nA le))), (b3, .inl (cI, 36, .inl (nA (((cF n g sh al co ro 36 1 (sLG n al fx co ro st)).2).1)))), (b4, .inl (cI, 36, .inl (nA (((cF n g sh al co ro 36 1 (sLG n al fx co ro st)).2).2.2.2.1)))), (b5, .inl (cI, 36, .inl (nA (e8 co)))), (b6, .inl (cI, 36, .inl (nA (e8 ro))))] H := hP
      have hD : va_D A [(a, .inr (2, [.int (nI n), .int (nI g), .int (nI sh), .int (nI al), .ref b1, .ref b2, .ref b3, .ref b4, .ref b5, .ref b6, .long (lN (lz (((cF n g sh al co ro 36 1 (sLG n al fx co ro st)).2).2.1))), .long (lN (lz (((cF n g sh al co ro 36 1 (sLG n al fx co ro st)).2).2.2.1))), .int (nI 1)])), (b1, .inl (cI, 36, .inl (nA fx))), (b2, .inl (cI, 36, .inl (nA le))), (b3, .inl (cI, 36, .inl (nA (((cF n g sh al co ro 36 1 (sLG n al fx co ro st)).2).1)))), (b4, .inl (cI, 36, .inl (nA (((cF n g sh al co ro 36 1 (sLG n al fx co ro st)).2).2.2.2.1)))), (b5, .inl (cI, 36, .inl (nA (e8 co)))), (b6, .inl (cI, 36, .inl (nA (e8 ro))))] := hD
      refine lv_iconst (v := nI 0) hx hb d_RC_findLeast_25 (by decide) ?_
      refine lv_istore_n (lv' := [(1, .int (nI 0)), (0, .ref a)]) hx hb d_RC_findLeast_26 rfl hl (by decide) rfl (fun ls hl => ?_)
      exact L_RC_findLeast a b1 b2 b3 b4 b5 b6 n g sh al fx le co ro hco hro hn hg hsh hal E (n + 1) 0 (cF n g sh al co ro 36 1 (sLG n al fx co ro st)).2 (by omega) (by omega) hgo.2 (w7_cF hg _ _ _ (w7_lg hfx hw7)) (by rw [sFl, if_neg (by omega), if_neg (by omega)]; exact ⟨rfl, rfl⟩) _ _ hP hD hS ls (lv_sub hl [1, 0] rfl)
