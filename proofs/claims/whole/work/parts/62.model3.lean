/-! the reference: the search for a tour -/
def sumv (f : Nat → Nat) : Nat → Nat
  | 0 => 0
  | n + 1 => sumv f n + f n
theorem sumv_up_ge (f : Nat → Nat) (c x : Nat) : ∀ n, n ≤ c → sumv (va_up f c x) n = sumv f n := by
  intro n
  induction n with
  | zero => intro _; rfl
  | succ n ih => intro h; rw [sumv, sumv, ih (by omega), va_up_ne f x (by omega)]
theorem sumv_up (f : Nat → Nat) {c x : Nat} : ∀ n, c < n → sumv (va_up f c x) n + f c = sumv f n + x := by
  intro n
  induction n with
  | zero => intro h; omega
  | succ n ih =>
    intro h
    rw [sumv, sumv]
    rcases Nat.lt_or_ge c n with q | q
    · have := ih q
      rw [va_up_ne f x (by omega)]
      omega
    · have e : c = n := by omega
      subst e
      rw [sumv_up_ge f c x c (Nat.le_refl c), va_up_self]
      omega
theorem sumv_le {f : Nat → Nat} (h : ∀ j, f j ≤ 1) : ∀ n, sumv f n ≤ n := by
  intro n
  induction n with
  | zero => exact Nat.le_refl 0
  | succ n ih => rw [sumv]; have := h n; omega
theorem sumv_lt {f : Nat → Nat} (h : ∀ j, f j ≤ 1) {c n : Nat} (hc : c < n) (h0 : f c = 0) : sumv f n < n := by
  have e := sumv_up f (c := c) (x := 1) n hc
  have l := sumv_le (f := va_up f c 1) (up_le h (Nat.le_refl 1)) n
  omega
/-- what holds of the path: k cells, different, and just they are visited -/
abbrev MPi (n k : Nat) (vi to : Nat → Nat) : Prop := (∀ j, vi j ≤ 1) ∧ (∀ j, to j < 36) ∧ sumv vi n = k ∧ (∀ i, i < k → to i < n ∧ vi (to i) = 1) ∧ (∀ i j, i < j → j < k → to i ≠ to j)
theorem mi_step {n k c : Nat} {vi to : Nat → Nat} (h : MPi n k vi to) (hc : c < n) (hn : n ≤ 36) (h0 : vi c = 0) : k < n ∧ MPi n (k + 1) (va_up vi c 1) (va_up to k c) := by
  obtain ⟨h1, h2, h3, h4, h5⟩ := h
  have e := sumv_up vi (c := c) (x := 1) n hc
  refine ⟨by have := sumv_lt h1 hc h0; omega, up_le h1 (Nat.le_refl 1), up_lt h2 (by omega), by omega, ?_, ?_⟩
  · intro i hi
    rcases Nat.lt_or_ge i k with q | q
    · obtain ⟨a1, a2⟩ := h4 i q
      rw [va_up_ne to c (by omega)]
      refine ⟨a1, ?_⟩
      rw [va_up_ne vi 1 (fun z => by rw [z] at a2; omega)]
      exact a2
    · have e1 : i = k := by omega
      subst e1
      rw [va_up_self, va_up_self]
      exact ⟨hc, rfl⟩
  · intro i j hij hj
    rw [va_up_ne to c (show i ≠ k by omega)]
    rcases Nat.lt_or_ge j k with q | q
    · rw [va_up_ne to c (by omega)]
      exact h5 i j hij q
    · have e1 : j = k := by omega
      subst e1
      rw [va_up_self]
      intro z
      have := (h4 i hij).2
      rw [z] at this
      omega
theorem mi_back {n k : Nat} {vi to : Nat → Nat} (h : MPi n (k + 1) vi to) : MPi n k (va_up vi (to k) 0) to := by
  obtain ⟨h1, h2, h3, h4, h5⟩ := h
  obtain ⟨a1, a2⟩ := h4 k (by omega)
  have e := sumv_up vi (c := to k) (x := 0) n a1
  refine ⟨up_le h1 (by omega), h2, by omega, ?_, fun i j hij hj => h5 i j hij (by omega)⟩
  intro i hi
  obtain ⟨b1, b2⟩ := h4 i (by omega)
  refine ⟨b1, ?_⟩
  rw [va_up_ne vi 0 (h5 i k hi (by omega))]
  exact b2
theorem mNl_ok {w n p : Nat} {ba vi : Nat → Nat} {fr t ah : Nat} : ∀ m c bs fw, (bs = 0 ∨ mWq w p ba vi fr (bs - 1) = true) → (mNl w n p ba vi fr t ah m c bs fw = 0 ∨ mWq w p ba vi fr (mNl w n p ba vi fr t ah m c bs fw - 1) = true) := by
  intro m
  induction m with
  | zero => intro c bs fw h; exact h
  | succ m ih =>
    intro c bs fw h
    rw [mNl]
    split
    · split
      · rename_i hq
        split
        · exact ih _ _ _ (Or.inr hq)
        · exact ih _ _ _ h
      · exact ih _ _ _ h
    · exact h
theorem mNx_ok {w n p : Nat} {ba vi : Nat → Nat} {fr t c : Nat} (h : mNx w n p ba vi fr t = c + 1) : c < n ∧ ba c = 0 ∧ vi c = 0 ∧ mGo w p fr c = 1 := by
  have h1 : mNx w n p ba vi fr t ≤ n := mNl_le _ _ _ _ (Nat.zero_le _)
  have h2 := mNl_ok (w := w) (n := n) (p := p) (ba := ba) (vi := vi) (fr := fr) (t := t) (ah := if t = 0 then 0 else mWo w n p ba vi (t - 1)) (n + 1) 0 0 99 (Or.inl rfl)
  have h3 : mNx w n p ba vi fr t = 0 ∨ mWq w p ba vi fr (mNx w n p ba vi fr t - 1) = true := h2
  rw [h] at h3 h1
  rcases h3 with q | q
  · omega
  · exact ⟨by omega, of_decide_eq_true q⟩
abbrev M3 : Type := (Nat → Nat) × (Nat → Nat) × Nat
/-- the search: 0 found, 1 none, 2 the steps do not do; how long the tour is; visited, path, steps -/
def mS (w n p : Nat) (ba : Nat → Nat) (bg cl most al : Nat) : Nat → Nat → Nat → M3 → Nat × Nat × M3
  | 0, _, _, st => (1, 0, st)
  | m + 1, k, t, st => if 0 < k then (if k = al ∧ t = 0 ∧ (cl = 0 ∨ mGo w p (st.2.1 (k - 1)) bg = 1) then (0, k, st)
      else if mNx w n p ba st.1 (st.2.1 (k - 1)) t = 0 then mS w n p ba bg cl most al m (k - 1) (st.2.1 (k - 1) + 1) (va_up st.1 (st.2.1 (k - 1)) 0, st.2.1, st.2.2)
      else if st.2.2 = most then (2, 0, st)
      else mS w n p ba bg cl most al m (k + 1) 0 (va_up st.1 (mNx w n p ba st.1 (st.2.1 (k - 1)) t - 1) 1, va_up st.2.1 k (mNx w n p ba st.1 (st.2.1 (k - 1)) t - 1), st.2.2 + 1)) else (1, 0, st)
set_option maxHeartbeats 1000000 in
set_option maxRecDepth 100000 in
theorem L_MD_search {p : Program} {l : Launch} {e : Env} {s : State} {m : MethodId} {args : Array Value} {below : List Frame} {meth : Method} {c : Code} {A : Nat → Prop} {D : va_G} {cI cL : ClassId} {c0 : Cond} {post : Int32 → va_W → Prop} (a b1 b2 b3 b4 b5 b6 b7 b8 b9 w h g bg th isf : Nat) (ba rw li gi fl fo my : Nat → Nat) (p0 cl most al : Nat) (hw1 : 1 ≤ w) (hw6 : w ≤ 6) (hh6 : h ≤ 6) (hp : p0 < 3) (hcl : cl ≤ 1) (hmost : most ≤ 100000) (hal : al ≤ 100) (hbg : bg < 36) (hba : ∀ k, ba k ≤ 1) (E : En p s m args meth c b_MD_search 8 (c0 :: Om) R_MD (some .int) A D [(cI, .int), (cL, .boolean)]) : ∀ (m1 : Nat) (k : Nat) (t : Nat) (vi : Nat → Nat) (to : Nat → Nat) (sp : Nat), 2 * (most - sp) + k < m1 → sp ≤ most → t ≤ 36 → MPi (w * h) k vi to → post (nI (mS w (w * h) p0 ba bg cl most al m1 k t (vi, to, sp)).1) [(a, .inr (5, [.int (nI w), .int (nI h), .int (nI (w * h)), .int (nI g), .ref b1, .ref b2, .ref b3, .int (nI bg), .int (nI ((mS w (w * h) p0 ba bg cl most al m1 k t (vi, to, sp)).2.1)), .int (nI ((mS w (w * h) p0 ba bg cl most al m1 k t (vi, to, sp)).2.2.2.2)), .int (nI th), .ref b4, .ref b5, .ref b6, .ref b7, .ref b8, .ref b9, .int (nI isf)])), (b1, .inl (cL, 36, .inl (nA ba))), (b2, .inl (cL, 36, .inl (nA ((mS w (w * h) p0 ba bg cl most al m1 k t (vi, to, sp)).2.2.1)))), (b3, .inl (cI, 36, .inl (nA ((mS w (w * h) p0 ba bg cl most al m1 k t (vi, to, sp)).2.2.2.1)))), (b4, .inl (cI, 6, .inl (mA rw))), (b5, .inl (cI, 6, .inl (mA li))), (b6, .inl (cI, 36, .inl (nA gi))), (b7, .inl (cI, 36, .inl (nA fl))), (b8, .inl (cI, 36, .inl (nA fo))), (b9, .inl (cI, 36, .inl (nA my)))] → ∀ (H : Heap) (locs : List Loc), va_P D classes [(a, .inr (5, [.int (nI w), .int (nI h), .int (nI (w * h)), .int (nI g), .ref b1, .ref b2, .ref b3, .int (nI bg), .int (nI 0), .int (nI sp), .int (nI th), .ref b4, .ref b5, .ref b6, .ref b7, .ref b8, .ref b9, .int (nI isf)])), (b1, .inl (cL, 36, .inl (nA ba))), (b2, .inl (cL, 36, .inl (nA vi))), (b3, .inl (cI, 36, .inl (nA to))), (b4, .inl (cI, 6, .inl (mA rw))), (b5, .inl (cI, 6, .inl (mA li))), (b6, .inl (cI, 36, .inl (nA gi))), (b7, .inl (cI, 36, .inl (nA fl))), (b8, .inl (cI, 36, .inl (nA fo))), (b9, .inl (cI, 36, .inl (nA my)))] H → va_D A [(a, .inr (5, [.int (nI w), .int (nI h), .int (nI (w * h)), .int (nI g), .ref b1, .ref b2, .ref b3, .int (nI bg), .int (nI 0), .int (nI sp), .int (nI th), .ref b4, .ref b5, .ref b6, .ref b7, .ref b8, .ref b9, .int (nI isf)])), (b1, .inl (cL, 36, .inl (nA ba))), (b2, .inl (cL, 36, .inl (nA vi))), (b3, .inl (cI, 36, .inl (nA to))), (b4, .inl (cI, 6, .inl (mA rw))), (b5, .inl (cI, 6, .inl (mA li))), (b6, .inl (cI, 36, .inl (nA gi))), (b7, .inl (cI, 36, .inl (nA fl))), (b8, .inl (cI, 36, .inl (nA fo))), (b9, .inl (cI, 36, .inl (nA my)))] → va_S A s.heap H locs → ∀ ls : Array Slot, lv_has ls 8 [(0, .ref a), (1, .int (nI p0)), (2, .int (nI cl)), (3, .int (nI most)), (4, .int (nI al)), (5, .int (nI k)), (6, .int (nI t - 1))] → W p l e { frames := 4, cells := 0, slots := 0, locals := 118 } s m args below meth c H locs 0 0 (MQ below (qI D [(cI, .int), (cL, .boolean)] post A) args s 0 0 A) (F0 m 58 ls []) := by
  obtain ⟨hx, hb, hml, hown, hts, hr, hlk, hA, hK, hN⟩ := id E
  have ho : ∀ q ∈ Om, q.before _ s = true := fun q h => hts q (List.mem_cons_of_mem _ h)
  intro m1
  induction m1 with
  | zero =>
    intro k t vi to sp h2 hsp ht hmi hq
    exact absurd h2 (by omega)
  | succ m1 ih =>
    intro k t vi to sp h2 hsp ht hmi hq H locs hP hD hS ls hl
    have h36 := wh36 hw6 hh6
    have hk36 : k ≤ 36 := by have := hmi.2.2.1; have := sumv_le hmi.1 (w * h); omega
    have htp := hmi.2.1 (k - 1)
    rcases t with _ | tk
    · have hl : lv_has ls 8 [(0, .ref a), (1, .int (nI p0)), (2, .int (nI cl)), (3, .int (nI most)), (4, .int (nI al)), (5, .int (nI k)), (6, .int (-1))] := by
        rw [show nI 0 - 1 = (-1 : Int32) by decide] at hl; exact hl
      refine lv_iload hx hb d_MD_search_58 (lv_at hl 5 rfl) ?_
      refine nr_if_le (tgt := 202) hx hb d_MD_search_60 (by decide) (by omega) (fun h_1 => ?_) (fun h_1 => ?_)
      · refine lv_iconst (v := nI 1) hx hb d_MD_search_202 (by decide) ?_
        exact rt_i E hP hD hS (by rw [mS] at hq; dsimp only at hq; rw [if_neg (by omega)] at hq; exact hq) d_MD_search_203
      · refine lv_iload hx hb d_MD_search_63 (lv_at hl 5 rfl) ?_
        refine lv_iload hx hb d_MD_search_65 (lv_at hl 4 rfl) ?_
        refine nr_icmp_ne (tgt := 109) hx hb d_MD_search_67 (by decide) (by omega) (by omega) (fun h_2 => ?_) (fun h_2 => ?_)
        · refine lv_aload_n hx hb d_MD_search_109 rfl (lv_at hl 0 rfl) ?_
          refine lv_iload_n hx hb d_MD_search_110 rfl (lv_at hl 1 rfl) ?_
          refine lv_aload_n hx hb d_MD_search_111 rfl (lv_at hl 0 rfl) ?_
          refine va_get (D := D) (ci := 5) (v := .ref b3) (C := R_MD) (T := F_MD) (N := 18) hx hb ho j_MD hown hK hP 0 rfl rfl 6 (by decide) (ho _ kf_MD_16) (fun _ h9 => h9) rfl d_MD_search_112 ?_
          refine lv_iload hx hb d_MD_search_115 (lv_at hl 5 rfl) ?_
          refine lv_iconst (v := nI 1) hx hb d_MD_search_117 (by decide) ?_
          refine nr_isub hx hb d_MD_search_118 (by omega) ?_
          refine nr_ialdN hx hb hK hP 3 0 rfl rfl (i := k - 1) (by omega) (by decide) d_MD_search_119 ?_
          refine lv_iload hx hb d_MD_search_120 (lv_at hl 6 rfl) ?_
          refine af_i (wc := [(a, .inr (5, [.int (nI w), .int (nI h), .int (nI (w * h)), .int (nI g), .ref b1, .ref b2, .ref b3, .int (nI bg), .int (nI 0), .int (nI sp), .int (nI th), .ref b4, .ref b5, .ref b6, .ref b7, .ref b8, .ref b9, .int (nI isf)])), (b1, .inl (cL, 36, .inl (nA ba))), (b2, .inl (cL, 36, .inl (nA vi))), (b3, .inl (cI, 36, .inl (nA to))), (b4, .inl (cI, 6, .inl (mA rw))), (b5, .inl (cI, 6, .inl (mA li))), (b6, .inl (cI, 36, .inl (nA gi))), (b7, .inl (cI, 36, .inl (nA fl))), (b8, .inl (cI, 36, .inl (nA fo))), (b9, .inl (cI, 36, .inl (nA my)))]) (wr := []) (rest := []) [0, 1, 2, 3, 4, 5, 6, 7, 8, 9] [] hP hD hS hA rfl rfl (by decide) (by decide) (rn_V E (As := [.int (nI p0), .int (nI (to (k - 1))), .int (-1)]) m_MD_nextCell km_MD_83 (c_MD_next_none l D cI cL a b1 b2 b3 b4 b5 b6 b7 b8 b9 w h g bg 0 sp th isf ba vi to rw li gi fl fo my p0 (to (k - 1)) hw1 hw6 hh6 hp (by omega) hba hmi.1 _) ⟨rfl, rfl, by dsimp only; omega, by dsimp only; omega⟩ (hP.sub [0, 1, 2, 3, 4, 5, 6, 7, 8, 9] rfl) (hD.sub [0, 1, 2, 3, 4, 5, 6, 7, 8, 9] (by decide) rfl) (q0 := 0) (ci := 5) rfl rfl rfl hl.1 rfl (Nat.le_of_ble_eq_true rfl) ⟨Nat.le_of_ble_eq_true rfl, Nat.le_of_ble_eq_true rfl⟩ d_MD_search_122) (fun r_4 u_3 H locs hw hP hD hS => ?_)
          obtain ⟨rfl, rfl⟩ := hw
          have hP : va_P D classes [(a, .inr (5, [.int (nI w), .int (nI h), .int (nI (w * h)), .int (nI g), .ref b1, .ref b2, .ref b3, .int (nI bg), .int (nI 0), .int (nI sp), .int (nI th), .ref b4, .ref b5, .ref b6, .ref b7, .ref b8, .ref b9, .int (nI isf)])), (b1, .inl (cL, 36, .inl (nA ba))), (b2, .inl (cL, 36, .inl (nA vi))), (b3, .inl (cI, 36, .inl (nA to))), (b4, .inl (cI, 6, .inl (mA rw))), (b5, .inl (cI, 6, .inl (mA li))), (b6, .inl (cI, 36, .inl (nA gi))), (b7, .inl (cI, 36, .inl (nA fl))), (b8, .inl (cI, 36, .inl (nA fo))), (b9, .inl (cI, 36, .inl (nA my)))] H := hP
          have hD : va_D A [(a, .inr (5, [.int (nI w), .int (nI h), .int (nI (w * h)), .int (nI g), .ref b1, .ref b2, .ref b3, .int (nI bg), .int (nI 0), .int (nI sp), .int (nI th), .ref b4, .ref b5, .ref b6, .ref b7, .ref b8, .ref b9, .int (nI isf)])), (b1, .inl (cL, 36, .inl (nA ba))), (b2, .inl (cL, 36, .inl (nA vi))), (b3, .inl (cI, 36, .inl (nA to))), (b4, .inl (cI, 6, .inl (mA rw))), (b5, .inl (cI, 6, .inl (mA li))), (b6, .inl (cI, 36, .inl (nA gi))), (b7, .inl (cI, 36, .inl (nA fl))), (b8, .inl (cI, 36, .inl (nA fo))), (b9, .inl (cI, 36, .inl (nA my)))] := hD
          rcases hjx : mNx w (w * h) p0 ba vi (to (k - 1)) 0 with _ | kx
          · refine lv_istore (lv' := [(7, .int (nI 0 - 1)), (0, .ref a), (1, .int (nI p0)), (2, .int (nI cl)), (3, .int (nI most)), (4, .int (nI al)), (5, .int (nI k)), (6, .int (-1))]) hx hb d_MD_search_125 hl (by decide) rfl (fun ls hl => ?_)
            refine lv_iload hx hb d_MD_search_127 (lv_at hl 0 rfl) ?_
            refine lv_iconst (v := (-1)) hx hb d_MD_search_129 (by decide) ?_
            refine lv_icmp_ne (tgt := 156) hx hb d_MD_search_130 (by decide) (fun h9 => absurd (by decide) h9) (fun _ => ?_)
            refine nr_iincm (lv' := [(5, .int (nI (k - 1))), (7, .int (nI 0 - 1)), (0, .ref a), (1, .int (nI p0)), (2, .int (nI cl)), (3, .int (nI most)), (4, .int (nI al)), (6, .int (-1))]) hx hb d_MD_search_133 hl (k := 6) rfl (by omega) (by decide) rfl (fun ls hl => ?_)
            refine lv_aload_n hx hb d_MD_search_136 rfl (lv_at hl 2 rfl) ?_
            refine va_get (D := D) (ci := 5) (v := .ref b3) (C := R_MD) (T := F_MD) (N := 18) hx hb ho j_MD hown hK hP 0 rfl rfl 6 (by decide) (ho _ kf_MD_16) (fun _ h9 => h9) rfl d_MD_search_137 ?_
            refine lv_iload hx hb d_MD_search_140 (lv_at hl 0 rfl) ?_
            refine nr_ialdN hx hb hK hP 3 0 rfl rfl (i := k - 1) (by omega) (by decide) d_MD_search_142 ?_
            refine lv_istore (lv' := [(6, .int (nI (to (k - 1)))), (5, .int (nI (k - 1))), (7, .int (nI 0 - 1)), (0, .ref a), (1, .int (nI p0)), (2, .int (nI cl)), (3, .int (nI most)), (4, .int (nI al))]) hx hb d_MD_search_143 hl (by decide) rfl (fun ls hl => ?_)
            refine lv_aload_n hx hb d_MD_search_145 rfl (lv_at hl 3 rfl) ?_
            refine va_get (D := D) (ci := 5) (v := .ref b2) (C := R_MD) (T := F_MD) (N := 18) hx hb ho j_MD hown hK hP 0 rfl rfl 5 (by decide) (ho _ kf_MD_13) (fun _ h9 => h9) rfl d_MD_search_146 ?_
            refine lv_iload hx hb d_MD_search_149 (lv_at hl 0 rfl) ?_
            refine lv_iconst (v := nI 0) hx hb d_MD_search_151 (by decide) ?_
            refine nr_zast hx hb hK hP hD hS 2 1 rfl rfl (i := to (k - 1)) (x := 0) (by omega) (by decide) (by omega) d_MD_search_152 (fun H locs hP hD hS => ?_)
            have hP : va_P D classes [(a, .inr (5, [.int (nI w), .int (nI h), .int (nI (w * h)), .int (nI g), .ref b1, .ref b2, .ref b3, .int (nI bg), .int (nI 0), .int (nI sp), .int (nI th), .ref b4, .ref b5, .ref b6, .ref b7, .ref b8, .ref b9, .int (nI isf)])), (b1, .inl (cL, 36, .inl (nA ba))), (b2, .inl (cL, 36, .inl (nA (va_up vi (to (k - 1)) 0)))), (b3, .inl (cI, 36, .inl (nA to))), (b4, .inl (cI, 6, .inl (mA rw))), (b5, .inl (cI, 6, .inl (mA li))), (b6, .inl (cI, 36, .inl (nA gi))), (b7, .inl (cI, 36, .inl (nA fl))), (b8, .inl (cI, 36, .inl (nA fo))), (b9, .inl (cI, 36, .inl (nA my)))] H := hP
            have hD : va_D A [(a, .inr (5, [.int (nI w), .int (nI h), .int (nI (w * h)), .int (nI g), .ref b1, .ref b2, .ref b3, .int (nI bg), .int (nI 0), .int (nI sp), .int (nI th), .ref b4, .ref b5, .ref b6, .ref b7, .ref b8, .ref b9, .int (nI isf)])), (b1, .inl (cL, 36, .inl (nA ba))), (b2, .inl (cL, 36, .inl (nA (va_up vi (to (k - 1)) 0)))), (b3, .inl (cI, 36, .inl (nA to))), (b4, .inl (cI, 6, .inl (mA rw))), (b5, .inl (cI, 6, .inl (mA li))), (b6, .inl (cI, 36, .inl (nA gi))), (b7, .inl (cI, 36, .inl (nA fl))), (b8, .inl (cI, 36, .inl (nA fo))), (b9, .inl (cI, 36, .inl (nA my)))] := hD
            refine lv_goto (tgt := 199) hx hb d_MD_search_153 (by decide) ?_
            refine lv_goto (tgt := 58) hx hb d_MD_search_199 (by decide) ?_
            have hl2 : lv_has ls 8 [(0, .ref a), (1, .int (nI p0)), (2, .int (nI cl)), (3, .int (nI most)), (4, .int (nI al)), (5, .int (nI (k - 1))), (6, .int (nI (to (k - 1))))] := lv_sub hl [3, 4, 5, 6, 7, 1, 0] rfl
            have hl2 : lv_has ls 8 [(0, .ref a), (1, .int (nI p0)), (2, .int (nI cl)), (3, .int (nI most)), (4, .int (nI al)), (5, .int (nI (k - 1))), (6, .int (nI (to (k - 1) + 1) - 1))] := by rw [nI_pred]; exact hl2
            exact ih (k - 1) (to (k - 1) + 1) (va_up vi (to (k - 1)) 0) to sp (by omega) (by omega) (by omega) (mi_back (show MPi (w * h) (k - 1 + 1) vi to by rw [Nat.sub_add_cancel (by omega)]; exact hmi)) (by rw [mS] at hq; dsimp only at hq; rw [if_pos (by omega), if_neg (by omega), if_pos (by omega)] at hq; exact hq) _ _ hP hD hS ls hl2
          · rw [nI_pred]
            obtain ⟨hkx, hkb, hkv, -⟩ := mNx_ok hjx
            have hst := mi_step hmi hkx h36 hkv
            refine lv_istore (lv' := [(7, .int (nI kx)), (0, .ref a), (1, .int (nI p0)), (2, .int (nI cl)), (3, .int (nI most)), (4, .int (nI al)), (5, .int (nI k)), (6, .int (-1))]) hx hb d_MD_search_125 hl (by decide) rfl (fun ls hl => ?_)
            refine lv_iload hx hb d_MD_search_127 (lv_at hl 0 rfl) ?_
            refine lv_iconst (v := (-1)) hx hb d_MD_search_129 (by decide) ?_
            refine lv_icmp_ne (tgt := 156) hx hb d_MD_search_130 (by decide) (fun _ => ?_) (fun h9 => absurd h9 (nI_m1 (by omega)))
            refine lv_aload_n hx hb d_MD_search_156 rfl (lv_at hl 1 rfl) ?_
            refine va_get (D := D) (ci := 5) (v := .int (nI sp)) (C := R_MD) (T := F_MD) (N := 18) hx hb ho j_MD hown hK hP 0 rfl rfl 9 (by decide) (ho _ kf_MD_87) (fun _ h9 => h9) rfl d_MD_search_157 ?_
            refine lv_iload_n hx hb d_MD_search_160 rfl (lv_at hl 4 rfl) ?_
            have hsp := hsp
            refine nr_icmp_ne (tgt := 166) hx hb d_MD_search_161 (by decide) (by omega) (by omega) (fun h_5 => ?_) (fun h_5 => ?_)
            · refine lv_aload_n hx hb d_MD_search_166 rfl (lv_at hl 1 rfl) ?_
              refine lv_dup hx hb d_MD_search_167 rfl ?_
              refine va_get (D := D) (ci := 5) (v := .int (nI sp)) (C := R_MD) (T := F_MD) (N := 18) hx hb ho j_MD hown hK hP 0 rfl rfl 9 (by decide) (ho _ kf_MD_87) (fun _ h9 => h9) rfl d_MD_search_168 ?_
              refine lv_iconst (v := nI 1) hx hb d_MD_search_171 (by decide) ?_
              refine nr_iadd hx hb d_MD_search_172 ?_
              refine va_put (D := D) (ci := 5) (v := .int (nI (sp + 1))) (ty := .int) (C := R_MD) (T := F_MD) (N := 18) hx hb ho j_MD t_MD t_MD_ok n_MD hown hK hP hD hS 0 rfl rfl 9 (by decide) (ho _ kf_MD_87) (fun _ h9 => h9) rfl (by decide +kernel) rfl rfl (Nat.le_of_ble_eq_true rfl) d_MD_search_173 (fun H locs hP hD hS => ?_)
              have hP : va_P D classes [(a, .inr (5, [.int (nI w), .int (nI h), .int (nI (w * h)), .int (nI g), .ref b1, .ref b2, .ref b3, .int (nI bg), .int (nI 0), .int (nI (sp + 1)), .int (nI th), .ref b4, .ref b5, .ref b6, .ref b7, .ref b8, .ref b9, .int (nI isf)])), (b1, .inl (cL, 36, .inl (nA ba))), (b2, .inl (cL, 36, .inl (nA vi))), (b3, .inl (cI, 36, .inl (nA to))), (b4, .inl (cI, 6, .inl (mA rw))), (b5, .inl (cI, 6, .inl (mA li))), (b6, .inl (cI, 36, .inl (nA gi))), (b7, .inl (cI, 36, .inl (nA fl))), (b8, .inl (cI, 36, .inl (nA fo))), (b9, .inl (cI, 36, .inl (nA my)))] H := hP
              have hD : va_D A [(a, .inr (5, [.int (nI w), .int (nI h), .int (nI (w * h)), .int (nI g), .ref b1, .ref b2, .ref b3, .int (nI bg), .int (nI 0), .int (nI (sp + 1)), .int (nI th), .ref b4, .ref b5, .ref b6, .ref b7, .ref b8, .ref b9, .int (nI isf)])), (b1, .inl (cL, 36, .inl (nA ba))), (b2, .inl (cL, 36, .inl (nA vi))), (b3, .inl (cI, 36, .inl (nA to))), (b4, .inl (cI, 6, .inl (mA rw))), (b5, .inl (cI, 6, .inl (mA li))), (b6, .inl (cI, 36, .inl (nA gi))), (b7, .inl (cI, 36, .inl (nA fl))), (b8, .inl (cI, 36, .inl (nA fo))), (b9, .inl (cI, 36, .inl (nA my)))] := hD
              refine lv_aload_n hx hb d_MD_search_176 rfl (lv_at hl 1 rfl) ?_
              refine va_get (D := D) (ci := 5) (v := .ref b3) (C := R_MD) (T := F_MD) (N := 18) hx hb ho j_MD hown hK hP 0 rfl rfl 6 (by decide) (ho _ kf_MD_16) (fun _ h9 => h9) rfl d_MD_search_177 ?_
              refine lv_iload hx hb d_MD_search_180 (lv_at hl 6 rfl) ?_
              refine lv_iload hx hb d_MD_search_182 (lv_at hl 0 rfl) ?_
              refine nr_iast hx hb hK hP hD hS 3 0 rfl rfl (i := k) (x := kx) (by omega) (by decide) d_MD_search_184 (fun H locs hP hD hS => ?_)
              have hP : va_P D classes [(a, .inr (5, [.int (nI w), .int (nI h), .int (nI (w * h)), .int (nI g), .ref b1, .ref b2, .ref b3, .int (nI bg), .int (nI 0), .int (nI (sp + 1)), .int (nI th), .ref b4, .ref b5, .ref b6, .ref b7, .ref b8, .ref b9, .int (nI isf)])), (b1, .inl (cL, 36, .inl (nA ba))), (b2, .inl (cL, 36, .inl (nA vi))), (b3, .inl (cI, 36, .inl (nA (va_up to k kx)))), (b4, .inl (cI, 6, .inl (mA rw))), (b5, .inl (cI, 6, .inl (mA li))), (b6, .inl (cI, 36, .inl (nA gi))), (b7, .inl (cI, 36, .inl (nA fl))), (b8, .inl (cI, 36, .inl (nA fo))), (b9, .inl (cI, 36, .inl (nA my)))] H := hP
              have hD : va_D A [(a, .inr (5, [.int (nI w), .int (nI h), .int (nI (w * h)), .int (nI g), .ref b1, .ref b2, .ref b3, .int (nI bg), .int (nI 0), .int (nI (sp + 1)), .int (nI th), .ref b4, .ref b5, .ref b6, .ref b7, .ref b8, .ref b9, .int (nI isf)])), (b1, .inl (cL, 36, .inl (nA ba))), (b2, .inl (cL, 36, .inl (nA vi))), (b3, .inl (cI, 36, .inl (nA (va_up to k kx)))), (b4, .inl (cI, 6, .inl (mA rw))), (b5, .inl (cI, 6, .inl (mA li))), (b6, .inl (cI, 36, .inl (nA gi))), (b7, .inl (cI, 36, .inl (nA fl))), (b8, .inl (cI, 36, .inl (nA fo))), (b9, .inl (cI, 36, .inl (nA my)))] := hD
              refine lv_aload_n hx hb d_MD_search_185 rfl (lv_at hl 1 rfl) ?_
              refine va_get (D := D) (ci := 5) (v := .ref b2) (C := R_MD) (T := F_MD) (N := 18) hx hb ho j_MD hown hK hP 0 rfl rfl 5 (by decide) (ho _ kf_MD_13) (fun _ h9 => h9) rfl d_MD_search_186 ?_
              refine lv_iload hx hb d_MD_search_189 (lv_at hl 0 rfl) ?_
              refine lv_iconst (v := nI 1) hx hb d_MD_search_191 (by decide) ?_
              refine nr_zast hx hb hK hP hD hS 2 1 rfl rfl (i := kx) (x := 1) (by omega) (by decide) (by omega) d_MD_search_192 (fun H locs hP hD hS => ?_)
              have hP : va_P D classes [(a, .inr (5, [.int (nI w), .int (nI h), .int (nI (w * h)), .int (nI g), .ref b1, .ref b2, .ref b3, .int (nI bg), .int (nI 0), .int (nI (sp + 1)), .int (nI th), .ref b4, .ref b5, .ref b6, .ref b7, .ref b8, .ref b9, .int (nI isf)])), (b1, .inl (cL, 36, .inl (nA ba))), (b2, .inl (cL, 36, .inl (nA (va_up vi kx 1)))), (b3, .inl (cI, 36, .inl (nA (va_up to k kx)))), (b4, .inl (cI, 6, .inl (mA rw))), (b5, .inl (cI, 6, .inl (mA li))), (b6, .inl (cI, 36, .inl (nA gi))), (b7, .inl (cI, 36, .inl (nA fl))), (b8, .inl (cI, 36, .inl (nA fo))), (b9, .inl (cI, 36, .inl (nA my)))] H := hP
              have hD : va_D A [(a, .inr (5, [.int (nI w), .int (nI h), .int (nI (w * h)), .int (nI g), .ref b1, .ref b2, .ref b3, .int (nI bg), .int (nI 0), .int (nI (sp + 1)), .int (nI th), .ref b4, .ref b5, .ref b6, .ref b7, .ref b8, .ref b9, .int (nI isf)])), (b1, .inl (cL, 36, .inl (nA ba))), (b2, .inl (cL, 36, .inl (nA (va_up vi kx 1)))), (b3, .inl (cI, 36, .inl (nA (va_up to k kx)))), (b4, .inl (cI, 6, .inl (mA rw))), (b5, .inl (cI, 6, .inl (mA li))), (b6, .inl (cI, 36, .inl (nA gi))), (b7, .inl (cI, 36, .inl (nA fl))), (b8, .inl (cI, 36, .inl (nA fo))), (b9, .inl (cI, 36, .inl (nA my)))] := hD
              refine nr_iinc (lv' := [(5, .int (nI (k + 1))), (7, .int (nI kx)), (0, .ref a), (1, .int (nI p0)), (2, .int (nI cl)), (3, .int (nI most)), (4, .int (nI al)), (6, .int (-1))]) hx hb d_MD_search_193 hl (k := 6) rfl (by decide) rfl (fun ls hl => ?_)
              refine lv_iconst (v := (-1)) hx hb d_MD_search_196 (by decide) ?_
              refine lv_istore (lv' := [(6, .int (-1)), (5, .int (nI (k + 1))), (7, .int (nI kx)), (0, .ref a), (1, .int (nI p0)), (2, .int (nI cl)), (3, .int (nI most)), (4, .int (nI al))]) hx hb d_MD_search_197 hl (by decide) rfl (fun ls hl => ?_)
              refine lv_goto (tgt := 58) hx hb d_MD_search_199 (by decide) ?_
              have hl2 : lv_has ls 8 [(0, .ref a), (1, .int (nI p0)), (2, .int (nI cl)), (3, .int (nI most)), (4, .int (nI al)), (5, .int (nI (k + 1))), (6, .int (-1))] := lv_sub hl [3, 4, 5, 6, 7, 1, 0] rfl
              have hl2 : lv_has ls 8 [(0, .ref a), (1, .int (nI p0)), (2, .int (nI cl)), (3, .int (nI most)), (4, .int (nI al)), (5, .int (nI (k + 1))), (6, .int (nI 0 - 1))] := by rw [show nI 0 - 1 = (-1 : Int32) by decide]; exact hl2
              exact ih (k + 1) 0 (va_up vi kx 1) (va_up to k kx) (sp + 1) (by omega) (by omega) (by omega) hst.2 (by rw [mS] at hq; dsimp only at hq; rw [if_pos (by omega), if_neg (by omega), if_neg (by omega), if_neg (by omega), show mNx w (w * h) p0 ba vi (to (k - 1)) 0 - 1 = kx by omega] at hq; exact hq) _ _ hP hD hS ls hl2
            · refine lv_iconst (v := nI 2) hx hb d_MD_search_164 (by decide) ?_
              exact rt_i E hP hD hS (by rw [mS] at hq; dsimp only at hq; rw [if_pos (by omega), if_neg (by omega), if_neg (by omega), if_pos (by omega)] at hq; exact hq) d_MD_search_165
        · refine lv_iload hx hb d_MD_search_70 (lv_at hl 6 rfl) ?_
          refine lv_iconst (v := (-1)) hx hb d_MD_search_72 (by decide) ?_
          refine lv_icmp_ne (tgt := 109) hx hb d_MD_search_73 (by decide) (fun h9 => absurd rfl h9) (fun _ => ?_)
          refine lv_iload_n hx hb d_MD_search_76 rfl (lv_at hl 2 rfl) ?_
          refine nr_if_eq (tgt := 101) hx hb d_MD_search_77 (by decide) (by omega) (fun h_6 => ?_) (fun h_6 => ?_)
          · refine lv_aload_n hx hb d_MD_search_101 rfl (lv_at hl 0 rfl) ?_
            refine lv_iload hx hb d_MD_search_102 (lv_at hl 5 rfl) ?_
            refine va_put (D := D) (ci := 5) (v := .int (nI k)) (ty := .int) (C := R_MD) (T := F_MD) (N := 18) hx hb ho j_MD t_MD t_MD_ok n_MD hown hK hP hD hS 0 rfl rfl 8 (by decide) (ho _ kf_MD_62) (fun _ h9 => h9) rfl (by decide +kernel) rfl rfl (Nat.le_of_ble_eq_true rfl) d_MD_search_104 (fun H locs hP hD hS => ?_)
            have hP : va_P D classes [(a, .inr (5, [.int (nI w), .int (nI h), .int (nI (w * h)), .int (nI g), .ref b1, .ref b2, .ref b3, .int (nI bg), .int (nI k), .int (nI sp), .int (nI th), .ref b4, .ref b5, .ref b6, .ref b7, .ref b8, .ref b9, .int (nI isf)])), (b1, .inl (cL, 36, .inl (nA ba))), (b2, .inl (cL, 36, .inl (nA vi))), (b3, .inl (cI, 36, .inl (nA to))), (b4, .inl (cI, 6, .inl (mA rw))), (b5, .inl (cI, 6, .inl (mA li))), (b6, .inl (cI, 36, .inl (nA gi))), (b7, .inl (cI, 36, .inl (nA fl))), (b8, .inl (cI, 36, .inl (nA fo))), (b9, .inl (cI, 36, .inl (nA my)))] H := hP
            have hD : va_D A [(a, .inr (5, [.int (nI w), .int (nI h), .int (nI (w * h)), .int (nI g), .ref b1, .ref b2, .ref b3, .int (nI bg), .int (nI k), .int (nI sp), .int (nI th), .ref b4, .ref b5, .ref b6, .ref b7, .ref b8, .ref b9, .int (nI isf)])), (b1, .inl (cL, 36, .inl (nA ba))), (b2, .inl (cL, 36, .inl (nA vi))), (b3, .inl (cI, 36, .inl (nA to))), (b4, .inl (cI, 6, .inl (mA rw))), (b5, .inl (cI, 6, .inl (mA li))), (b6, .inl (cI, 36, .inl (nA gi))), (b7, .inl (cI, 36, .inl (nA fl))), (b8, .inl (cI, 36, .inl (nA fo))), (b9, .inl (cI, 36, .inl (nA my)))] := hD
            refine lv_iconst (v := nI 0) hx hb d_MD_search_107 (by decide) ?_
            exact rt_i E hP hD hS (by rw [mS] at hq; dsimp only at hq; rw [if_pos (by omega), if_pos ⟨by omega, rfl, by omega⟩] at hq; exact hq) d_MD_search_108
          · refine lv_aload_n hx hb d_MD_search_80 rfl (lv_at hl 0 rfl) ?_
            refine lv_iload_n hx hb d_MD_search_81 rfl (lv_at hl 1 rfl) ?_
            refine lv_aload_n hx hb d_MD_search_82 rfl (lv_at hl 0 rfl) ?_
            refine va_get (D := D) (ci := 5) (v := .ref b3) (C := R_MD) (T := F_MD) (N := 18) hx hb ho j_MD hown hK hP 0 rfl rfl 6 (by decide) (ho _ kf_MD_16) (fun _ h9 => h9) rfl d_MD_search_83 ?_
            refine lv_iload hx hb d_MD_search_86 (lv_at hl 5 rfl) ?_
            refine lv_iconst (v := nI 1) hx hb d_MD_search_88 (by decide) ?_
            refine nr_isub hx hb d_MD_search_89 (by omega) ?_
            refine nr_ialdN hx hb hK hP 3 0 rfl rfl (i := k - 1) (by omega) (by decide) d_MD_search_90 ?_
            refine lv_aload_n hx hb d_MD_search_91 rfl (lv_at hl 0 rfl) ?_
            refine va_get (D := D) (ci := 5) (v := .int (nI bg)) (C := R_MD) (T := F_MD) (N := 18) hx hb ho j_MD hown hK hP 0 rfl rfl 7 (by decide) (ho _ kf_MD_65) (fun _ h9 => h9) rfl d_MD_search_92 ?_
            have hgo := mGo_1 w p0 (to (k - 1)) bg
            refine af_i (wc := [(a, .inr (5, [.int (nI w), .int (nI h), .int (nI (w * h)), .int (nI g), .ref b1, .ref b2, .ref b3, .int (nI bg), .int (nI 0), .int (nI sp), .int (nI th), .ref b4, .ref b5, .ref b6, .ref b7, .ref b8, .ref b9, .int (nI isf)])), (b1, .inl (cL, 36, .inl (nA ba))), (b2, .inl (cL, 36, .inl (nA vi))), (b3, .inl (cI, 36, .inl (nA to))), (b4, .inl (cI, 6, .inl (mA rw))), (b5, .inl (cI, 6, .inl (mA li))), (b6, .inl (cI, 36, .inl (nA gi))), (b7, .inl (cI, 36, .inl (nA fl))), (b8, .inl (cI, 36, .inl (nA fo))), (b9, .inl (cI, 36, .inl (nA my)))]) (wr := []) (rest := []) [0, 1, 2, 3, 4, 5, 6, 7, 8, 9] [] hP hD hS hA rfl rfl (by decide) (by decide) (rn_V E (As := [.int (nI p0), .int (nI (to (k - 1))), .int (nI bg)]) m_MD_goes km_MD_72 (c_MD_goes l D cI cL a b1 b2 b3 b4 b5 b6 b7 b8 b9 w h g bg 0 sp th isf ba vi to rw li gi fl fo my p0 (to (k - 1)) bg hw1 hw6 hh6 (by omega) (by omega) (by omega) _) ⟨rfl, rfl, by dsimp only; omega, by dsimp only; omega⟩ (hP.sub [0, 1, 2, 3, 4, 5, 6, 7, 8, 9] rfl) (hD.sub [0, 1, 2, 3, 4, 5, 6, 7, 8, 9] (by decide) rfl) (q0 := 0) (ci := 5) rfl rfl rfl hl.1 rfl (Nat.le_of_ble_eq_true rfl) ⟨Nat.le_of_ble_eq_true rfl, Nat.le_of_ble_eq_true rfl⟩ d_MD_search_95) (fun r_8 u_7 H locs hw hP hD hS => ?_)
            obtain ⟨rfl, rfl⟩ := hw
            have hP : va_P D classes [(a, .inr (5, [.int (nI w), .int (nI h), .int (nI (w * h)), .int (nI g), .ref b1, .ref b2, .ref b3, .int (nI bg), .int (nI 0), .int (nI sp), .int (nI th), .ref b4, .ref b5, .ref b6, .ref b7, .ref b8, .ref b9, .int (nI isf)])), (b1, .inl (cL, 36, .inl (nA ba))), (b2, .inl (cL, 36, .inl (nA vi))), (b3, .inl (cI, 36, .inl (nA to))), (b4, .inl (cI, 6, .inl (mA rw))), (b5, .inl (cI, 6, .inl (mA li))), (b6, .inl (cI, 36, .inl (nA gi))), (b7, .inl (cI, 36, .inl (nA fl))), (b8, .inl (cI, 36, .inl (nA fo))), (b9, .inl (cI, 36, .inl (nA my)))] H := hP
            have hD : va_D A [(a, .inr (5, [.int (nI w), .int (nI h), .int (nI (w * h)), .int (nI g), .ref b1, .ref b2, .ref b3, .int (nI bg), .int (nI 0), .int (nI sp), .int (nI th), .ref b4, .ref b5, .ref b6, .ref b7, .ref b8, .ref b9, .int (nI isf)])), (b1, .inl (cL, 36, .inl (nA ba))), (b2, .inl (cL, 36, .inl (nA vi))), (b3, .inl (cI, 36, .inl (nA to))), (b4, .inl (cI, 6, .inl (mA rw))), (b5, .inl (cI, 6, .inl (mA li))), (b6, .inl (cI, 36, .inl (nA gi))), (b7, .inl (cI, 36, .inl (nA fl))), (b8, .inl (cI, 36, .inl (nA fo))), (b9, .inl (cI, 36, .inl (nA my)))] := hD
            refine nr_if_eq (tgt := 109) hx hb d_MD_search_98 (by decide) (by omega) (fun h_9 => ?_) (fun h_9 => ?_)
            · refine lv_aload_n hx hb d_MD_search_109 rfl (lv_at hl 0 rfl) ?_
              refine lv_iload_n hx hb d_MD_search_110 rfl (lv_at hl 1 rfl) ?_
              refine lv_aload_n hx hb d_MD_search_111 rfl (lv_at hl 0 rfl) ?_
              refine va_get (D := D) (ci := 5) (v := .ref b3) (C := R_MD) (T := F_MD) (N := 18) hx hb ho j_MD hown hK hP 0 rfl rfl 6 (by decide) (ho _ kf_MD_16) (fun _ h9 => h9) rfl d_MD_search_112 ?_
              refine lv_iload hx hb d_MD_search_115 (lv_at hl 5 rfl) ?_
              refine lv_iconst (v := nI 1) hx hb d_MD_search_117 (by decide) ?_
              refine nr_isub hx hb d_MD_search_118 (by omega) ?_
              refine nr_ialdN hx hb hK hP 3 0 rfl rfl (i := k - 1) (by omega) (by decide) d_MD_search_119 ?_
              refine lv_iload hx hb d_MD_search_120 (lv_at hl 6 rfl) ?_
              refine af_i (wc := [(a, .inr (5, [.int (nI w), .int (nI h), .int (nI (w * h)), .int (nI g), .ref b1, .ref b2, .ref b3, .int (nI bg), .int (nI 0), .int (nI sp), .int (nI th), .ref b4, .ref b5, .ref b6, .ref b7, .ref b8, .ref b9, .int (nI isf)])), (b1, .inl (cL, 36, .inl (nA ba))), (b2, .inl (cL, 36, .inl (nA vi))), (b3, .inl (cI, 36, .inl (nA to))), (b4, .inl (cI, 6, .inl (mA rw))), (b5, .inl (cI, 6, .inl (mA li))), (b6, .inl (cI, 36, .inl (nA gi))), (b7, .inl (cI, 36, .inl (nA fl))), (b8, .inl (cI, 36, .inl (nA fo))), (b9, .inl (cI, 36, .inl (nA my)))]) (wr := []) (rest := []) [0, 1, 2, 3, 4, 5, 6, 7, 8, 9] [] hP hD hS hA rfl rfl (by decide) (by decide) (rn_V E (As := [.int (nI p0), .int (nI (to (k - 1))), .int (-1)]) m_MD_nextCell km_MD_83 (c_MD_next_none l D cI cL a b1 b2 b3 b4 b5 b6 b7 b8 b9 w h g bg 0 sp th isf ba vi to rw li gi fl fo my p0 (to (k - 1)) hw1 hw6 hh6 hp (by omega) hba hmi.1 _) ⟨rfl, rfl, by dsimp only; omega, by dsimp only; omega⟩ (hP.sub [0, 1, 2, 3, 4, 5, 6, 7, 8, 9] rfl) (hD.sub [0, 1, 2, 3, 4, 5, 6, 7, 8, 9] (by decide) rfl) (q0 := 0) (ci := 5) rfl rfl rfl hl.1 rfl (Nat.le_of_ble_eq_true rfl) ⟨Nat.le_of_ble_eq_true rfl, Nat.le_of_ble_eq_true rfl⟩ d_MD_search_122) (fun r_11 u_10 H locs hw hP hD hS => ?_)
              obtain ⟨rfl, rfl⟩ := hw
              have hP : va_P D classes [(a, .inr (5, [.int (nI w), .int (nI h), .int (nI (w * h)), .int (nI g), .ref b1, .ref b2, .ref b3, .int (nI bg), .int (nI 0), .int (nI sp), .int (nI th), .ref b4, .ref b5, .ref b6, .ref b7, .ref b8, .ref b9, .int (nI isf)])), (b1, .inl (cL, 36, .inl (nA ba))), (b2, .inl (cL, 36, .inl (nA vi))), (b3, .inl (cI, 36, .inl (nA to))), (b4, .inl (cI, 6, .inl (mA rw))), (b5, .inl (cI, 6, .inl (mA li))), (b6, .inl (cI, 36, .inl (nA gi))), (b7, .inl (cI, 36, .inl (nA fl))), (b8, .inl (cI, 36, .inl (nA fo))), (b9, .inl (cI, 36, .inl (nA my)))] H := hP
              have hD : va_D A [(a, .inr (5, [.int (nI w), .int (nI h), .int (nI (w * h)), .int (nI g), .ref b1, .ref b2, .ref b3, .int (nI bg), .int (nI 0), .int (nI sp), .int (nI th), .ref b4, .ref b5, .ref b6, .ref b7, .ref b8, .ref b9, .int (nI isf)])), (b1, .inl (cL, 36, .inl (nA ba))), (b2, .inl (cL, 36, .inl (nA vi))), (b3, .inl (cI, 36, .inl (nA to))), (b4, .inl (cI, 6, .inl (mA rw))), (b5, .inl (cI, 6, .inl (mA li))), (b6, .inl (cI, 36, .inl (nA gi))), (b7, .inl (cI, 36, .inl (nA fl))), (b8, .inl (cI, 36, .inl (nA fo))), (b9, .inl (cI, 36, .inl (nA my)))] := hD
              rcases hjx : mNx w (w * h) p0 ba vi (to (k - 1)) 0 with _ | kx
              · refine lv_istore (lv' := [(7, .int (nI 0 - 1)), (0, .ref a), (1, .int (nI p0)), (2, .int (nI cl)), (3, .int (nI most)), (4, .int (nI al)), (5, .int (nI k)), (6, .int (-1))]) hx hb d_MD_search_125 hl (by decide) rfl (fun ls hl => ?_)
                refine lv_iload hx hb d_MD_search_127 (lv_at hl 0 rfl) ?_
                refine lv_iconst (v := (-1)) hx hb d_MD_search_129 (by decide) ?_
                refine lv_icmp_ne (tgt := 156) hx hb d_MD_search_130 (by decide) (fun h9 => absurd (by decide) h9) (fun _ => ?_)
                refine nr_iincm (lv' := [(5, .int (nI (k - 1))), (7, .int (nI 0 - 1)), (0, .ref a), (1, .int (nI p0)), (2, .int (nI cl)), (3, .int (nI most)), (4, .int (nI al)), (6, .int (-1))]) hx hb d_MD_search_133 hl (k := 6) rfl (by omega) (by decide) rfl (fun ls hl => ?_)
                refine lv_aload_n hx hb d_MD_search_136 rfl (lv_at hl 2 rfl) ?_
                refine va_get (D := D) (ci := 5) (v := .ref b3) (C := R_MD) (T := F_MD) (N := 18) hx hb ho j_MD hown hK hP 0 rfl rfl 6 (by decide) (ho _ kf_MD_16) (fun _ h9 => h9) rfl d_MD_search_137 ?_
                refine lv_iload hx hb d_MD_search_140 (lv_at hl 0 rfl) ?_
                refine nr_ialdN hx hb hK hP 3 0 rfl rfl (i := k - 1) (by omega) (by decide) d_MD_search_142 ?_
                refine lv_istore (lv' := [(6, .int (nI (to (k - 1)))), (5, .int (nI (k - 1))), (7, .int (nI 0 - 1)), (0, .ref a), (1, .int (nI p0)), (2, .int (nI cl)), (3, .int (nI most)), (4, .int (nI al))]) hx hb d_MD_search_143 hl (by decide) rfl (fun ls hl => ?_)
                refine lv_aload_n hx hb d_MD_search_145 rfl (lv_at hl 3 rfl) ?_
                refine va_get (D := D) (ci := 5) (v := .ref b2) (C := R_MD) (T := F_MD) (N := 18) hx hb ho j_MD hown hK hP 0 rfl rfl 5 (by decide) (ho _ kf_MD_13) (fun _ h9 => h9) rfl d_MD_search_146 ?_
                refine lv_iload hx hb d_MD_search_149 (lv_at hl 0 rfl) ?_
                refine lv_iconst (v := nI 0) hx hb d_MD_search_151 (by decide) ?_
                refine nr_zast hx hb hK hP hD hS 2 1 rfl rfl (i := to (k - 1)) (x := 0) (by omega) (by decide) (by omega) d_MD_search_152 (fun H locs hP hD hS => ?_)
                have hP : va_P D classes [(a, .inr (5, [.int (nI w), .int (nI h), .int (nI (w * h)), .int (nI g), .ref b1, .ref b2, .ref b3, .int (nI bg), .int (nI 0), .int (nI sp), .int (nI th), .ref b4, .ref b5, .ref b6, .ref b7, .ref b8, .ref b9, .int (nI isf)])), (b1, .inl (cL, 36, .inl (nA ba))), (b2, .inl (cL, 36, .inl (nA (va_up vi (to (k - 1)) 0)))), (b3, .inl (cI, 36, .inl (nA to))), (b4, .inl (cI, 6, .inl (mA rw))), (b5, .inl (cI, 6, .inl (mA li))), (b6, .inl (cI, 36, .inl (nA gi))), (b7, .inl (cI, 36, .inl (nA fl))), (b8, .inl (cI, 36, .inl (nA fo))), (b9, .inl (cI, 36, .inl (nA my)))] H := hP
                have hD : va_D A [(a, .inr (5, [.int (nI w), .int (nI h), .int (nI (w * h)), .int (nI g), .ref b1, .ref b2, .ref b3, .int (nI bg), .int (nI 0), .int (nI sp), .int (nI th), .ref b4, .ref b5, .ref b6, .ref b7, .ref b8, .ref b9, .int (nI isf)])), (b1, .inl (cL, 36, .inl (nA ba))), (b2, .inl (cL, 36, .inl (nA (va_up vi (to (k - 1)) 0)))), (b3, .inl (cI, 36, .inl (nA to))), (b4, .inl (cI, 6, .inl (mA rw))), (b5, .inl (cI, 6, .inl (mA li))), (b6, .inl (cI, 36, .inl (nA gi))), (b7, .inl (cI, 36, .inl (nA fl))), (b8, .inl (cI, 36, .inl (nA fo))), (b9, .inl (cI, 36, .inl (nA my)))] := hD
                refine lv_goto (tgt := 199) hx hb d_MD_search_153 (by decide) ?_
                refine lv_goto (tgt := 58) hx hb d_MD_search_199 (by decide) ?_
                have hl2 : lv_has ls 8 [(0, .ref a), (1, .int (nI p0)), (2, .int (nI cl)), (3, .int (nI most)), (4, .int (nI al)), (5, .int (nI (k - 1))), (6, .int (nI (to (k - 1))))] := lv_sub hl [3, 4, 5, 6, 7, 1, 0] rfl
                have hl2 : lv_has ls 8 [(0, .ref a), (1, .int (nI p0)), (2, .int (nI cl)), (3, .int (nI most)), (4, .int (nI al)), (5, .int (nI (k - 1))), (6, .int (nI (to (k - 1) + 1) - 1))] := by rw [nI_pred]; exact hl2
                exact ih (k - 1) (to (k - 1) + 1) (va_up vi (to (k - 1)) 0) to sp (by omega) (by omega) (by omega) (mi_back (show MPi (w * h) (k - 1 + 1) vi to by rw [Nat.sub_add_cancel (by omega)]; exact hmi)) (by rw [mS] at hq; dsimp only at hq; rw [if_pos (by omega), if_neg (by omega), if_pos (by omega)] at hq; exact hq) _ _ hP hD hS ls hl2
              · rw [nI_pred]
                obtain ⟨hkx, hkb, hkv, -⟩ := mNx_ok hjx
                have hst := mi_step hmi hkx h36 hkv
                refine lv_istore (lv' := [(7, .int (nI kx)), (0, .ref a), (1, .int (nI p0)), (2, .int (nI cl)), (3, .int (nI most)), (4, .int (nI al)), (5, .int (nI k)), (6, .int (-1))]) hx hb d_MD_search_125 hl (by decide) rfl (fun ls hl => ?_)
                refine lv_iload hx hb d_MD_search_127 (lv_at hl 0 rfl) ?_
                refine lv_iconst (v := (-1)) hx hb d_MD_search_129 (by decide) ?_
                refine lv_icmp_ne (tgt := 156) hx hb d_MD_search_130 (by decide) (fun _ => ?_) (fun h9 => absurd h9 (nI_m1 (by omega)))
                refine lv_aload_n hx hb d_MD_search_156 rfl (lv_at hl 1 rfl) ?_
                refine va_get (D := D) (ci := 5) (v := .int (nI sp)) (C := R_MD) (T := F_MD) (N := 18) hx hb ho j_MD hown hK hP 0 rfl rfl 9 (by decide) (ho _ kf_MD_87) (fun _ h9 => h9) rfl d_MD_search_157 ?_
                refine lv_iload_n hx hb d_MD_search_160 rfl (lv_at hl 4 rfl) ?_
                have hsp := hsp
                refine nr_icmp_ne (tgt := 166) hx hb d_MD_search_161 (by decide) (by omega) (by omega) (fun h_12 => ?_) (fun h_12 => ?_)
                · refine lv_aload_n hx hb d_MD_search_166 rfl (lv_at hl 1 rfl) ?_
                  refine lv_dup hx hb d_MD_search_167 rfl ?_
                  refine va_get (D := D) (ci := 5) (v := .int (nI sp)) (C := R_MD) (T := F_MD) (N := 18) hx hb ho j_MD hown hK hP 0 rfl rfl 9 (by decide) (ho _ kf_MD_87) (fun _ h9 => h9) rfl d_MD_search_168 ?_
                  refine lv_iconst (v := nI 1) hx hb d_MD_search_171 (by decide) ?_
                  refine nr_iadd hx hb d_MD_search_172 ?_
                  refine va_put (D := D) (ci := 5) (v := .int (nI (sp + 1))) (ty := .int) (C := R_MD) (T := F_MD) (N := 18) hx hb ho j_MD t_MD t_MD_ok n_MD hown hK hP hD hS 0 rfl rfl 9 (by decide) (ho _ kf_MD_87) (fun _ h9 => h9) rfl (by decide +kernel) rfl rfl (Nat.le_of_ble_eq_true rfl) d_MD_search_173 (fun H locs hP hD hS => ?_)
                  have hP : va_P D classes [(a, .inr (5, [.int (nI w), .int (nI h), .int (nI (w * h)), .int (nI g), .ref b1, .ref b2, .ref b3, .int (nI bg), .int (nI 0), .int (nI (sp + 1)), .int (nI th), .ref b4, .ref b5, .ref b6, .ref b7, .ref b8, .ref b9, .int (nI isf)])), (b1, .inl (cL, 36, .inl (nA ba))), (b2, .inl (cL, 36, .inl (nA vi))), (b3, .inl (cI, 36, .inl (nA to))), (b4, .inl (cI, 6, .inl (mA rw))), (b5, .inl (cI, 6, .inl (mA li))), (b6, .inl (cI, 36, .inl (nA gi))), (b7, .inl (cI, 36, .inl (nA fl))), (b8, .inl (cI, 36, .inl (nA fo))), (b9, .inl (cI, 36, .inl (nA my)))] H := hP
                  have hD : va_D A [(a, .inr (5, [.int (nI w), .int (nI h), .int (nI (w * h)), .int (nI g), .ref b1, .ref b2, .ref b3, .int (nI bg), .int (nI 0), .int (nI (sp + 1)), .int (nI th), .ref b4, .ref b5, .ref b6, .ref b7, .ref b8, .ref b9, .int (nI isf)])), (b1, .inl (cL, 36, .inl (nA ba))), (b2, .inl (cL, 36, .inl (nA vi))), (b3, .inl (cI, 36, .inl (nA to))), (b4, .inl (cI, 6, .inl (mA rw))), (b5, .inl (cI, 6, .inl (mA li))), (b6, .inl (cI, 36, .inl (nA gi))), (b7, .inl (cI, 36, .inl (nA fl))), (b8, .inl (cI, 36, .inl (nA fo))), (b9, .inl (cI, 36, .inl (nA my)))] := hD
                  refine lv_aload_n hx hb d_MD_search_176 rfl (lv_at hl 1 rfl) ?_
                  refine va_get (D := D) (ci := 5) (v := .ref b3) (C := R_MD) (T := F_MD) (N := 18) hx hb ho j_MD hown hK hP 0 rfl rfl 6 (by decide) (ho _ kf_MD_16) (fun _ h9 => h9) rfl d_MD_search_177 ?_
                  refine lv_iload hx hb d_MD_search_180 (lv_at hl 6 rfl) ?_
                  refine lv_iload hx hb d_MD_search_182 (lv_at hl 0 rfl) ?_
                  refine nr_iast hx hb hK hP hD hS 3 0 rfl rfl (i := k) (x := kx) (by omega) (by decide) d_MD_search_184 (fun H locs hP hD hS => ?_)
                  have hP : va_P D classes [(a, .inr (5, [.int (nI w), .int (nI h), .int (nI (w * h)), .int (nI g), .ref b1, .ref b2, .ref b3, .int (nI bg), .int (nI 0), .int (nI (sp + 1)), .int (nI th), .ref b4, .ref b5, .ref b6, .ref b7, .ref b8, .ref b9, .int (nI isf)])), (b1, .inl (cL, 36, .inl (nA ba))), (b2, .inl (cL, 36, .inl (nA vi))), (b3, .inl (cI, 36, .inl (nA (va_up to k kx)))), (b4, .inl (cI, 6, .inl (mA rw))), (b5, .inl (cI, 6, .inl (mA li))), (b6, .inl (cI, 36, .inl (nA gi))), (b7, .inl (cI, 36, .inl (nA fl))), (b8, .inl (cI, 36, .inl (nA fo))), (b9, .inl (cI, 36, .inl (nA my)))] H := hP
                  have hD : va_D A [(a, .inr (5, [.int (nI w), .int (nI h), .int (nI (w * h)), .int (nI g), .ref b1, .ref b2, .ref b3, .int (nI bg), .int (nI 0), .int (nI (sp + 1)), .int (nI th), .ref b4, .ref b5, .ref b6, .ref b7, .ref b8, .ref b9, .int (nI isf)])), (b1, .inl (cL, 36, .inl (nA ba))), (b2, .inl (cL, 36, .inl (nA vi))), (b3, .inl (cI, 36, .inl (nA (va_up to k kx)))), (b4, .inl (cI, 6, .inl (mA rw))), (b5, .inl (cI, 6, .inl (mA li))), (b6, .inl (cI, 36, .inl (nA gi))), (b7, .inl (cI, 36, .inl (nA fl))), (b8, .inl (cI, 36, .inl (nA fo))), (b9, .inl (cI, 36, .inl (nA my)))] := hD
                  refine lv_aload_n hx hb d_MD_search_185 rfl (lv_at hl 1 rfl) ?_
                  refine va_get (D := D) (ci := 5) (v := .ref b2) (C := R_MD) (T := F_MD) (N := 18) hx hb ho j_MD hown hK hP 0 rfl rfl 5 (by decide) (ho _ kf_MD_13) (fun _ h9 => h9) rfl d_MD_search_186 ?_
                  refine lv_iload hx hb d_MD_search_189 (lv_at hl 0 rfl) ?_
                  refine lv_iconst (v := nI 1) hx hb d_MD_search_191 (by decide) ?_
                  refine nr_zast hx hb hK hP hD hS 2 1 rfl rfl (i := kx) (x := 1) (by omega) (by decide) (by omega) d_MD_search_192 (fun H locs hP hD hS => ?_)
                  have hP : va_P D classes [(a, .inr (5, [.int (nI w), .int (nI h), .int (nI (w * h)), .int (nI g), .ref b1, .ref b2, .ref b3, .int (nI bg), .int (nI 0), .int (nI (sp + 1)), .int (nI th), .ref b4, .ref b5, .ref b6, .ref b7, .ref b8, .ref b9, .int (nI isf)])), (b1, .inl (cL, 36, .inl (nA ba))), (b2, .inl (cL, 36, .inl (nA (va_up vi kx 1)))), (b3, .inl (cI, 36, .inl (nA (va_up to k kx)))), (b4, .inl (cI, 6, .inl (mA rw))), (b5, .inl (cI, 6, .inl (mA li))), (b6, .inl (cI, 36, .inl (nA gi))), (b7, .inl (cI, 36, .inl (nA fl))), (b8, .inl (cI, 36, .inl (nA fo))), (b9, .inl (cI, 36, .inl (nA my)))] H := hP
                  have hD : va_D A [(a, .inr (5, [.int (nI w), .int (nI h), .int (nI (w * h)), .int (nI g), .ref b1, .ref b2, .ref b3, .int (nI bg), .int (nI 0), .int (nI (sp + 1)), .int (nI th), .ref b4, .ref b5, .ref b6, .ref b7, .ref b8, .ref b9, .int (nI isf)])), (b1, .inl (cL, 36, .inl (nA ba))), (b2, .inl (cL, 36, .inl (nA (va_up vi kx 1)))), (b3, .inl (cI, 36, .inl (nA (va_up to k kx)))), (b4, .inl (cI, 6, .inl (mA rw))), (b5, .inl (cI, 6, .inl (mA li))), (b6, .inl (cI, 36, .inl (nA gi))), (b7, .inl (cI, 36, .inl (nA fl))), (b8, .inl (cI, 36, .inl (nA fo))), (b9, .inl (cI, 36, .inl (nA my)))] := hD
                  refine nr_iinc (lv' := [(5, .int (nI (k + 1))), (7, .int (nI kx)), (0, .ref a), (1, .int (nI p0)), (2, .int (nI cl)), (3, .int (nI most)), (4, .int (nI al)), (6, .int (-1))]) hx hb d_MD_search_193 hl (k := 6) rfl (by decide) rfl (fun ls hl => ?_)
                  refine lv_iconst (v := (-1)) hx hb d_MD_search_196 (by decide) ?_
                  refine lv_istore (lv' := [(6, .int (-1)), (5, .int (nI (k + 1))), (7, .int (nI kx)), (0, .ref a), (1, .int (nI p0)), (2, .int (nI cl)), (3, .int (nI most)), (4, .int (nI al))]) hx hb d_MD_search_197 hl (by decide) rfl (fun ls hl => ?_)
                  refine lv_goto (tgt := 58) hx hb d_MD_search_199 (by decide) ?_
                  have hl2 : lv_has ls 8 [(0, .ref a), (1, .int (nI p0)), (2, .int (nI cl)), (3, .int (nI most)), (4, .int (nI al)), (5, .int (nI (k + 1))), (6, .int (-1))] := lv_sub hl [3, 4, 5, 6, 7, 1, 0] rfl
                  have hl2 : lv_has ls 8 [(0, .ref a), (1, .int (nI p0)), (2, .int (nI cl)), (3, .int (nI most)), (4, .int (nI al)), (5, .int (nI (k + 1))), (6, .int (nI 0 - 1))] := by rw [show nI 0 - 1 = (-1 : Int32) by decide]; exact hl2
                  exact ih (k + 1) 0 (va_up vi kx 1) (va_up to k kx) (sp + 1) (by omega) (by omega) (by omega) hst.2 (by rw [mS] at hq; dsimp only at hq; rw [if_pos (by omega), if_neg (by omega), if_neg (by omega), if_neg (by omega), show mNx w (w * h) p0 ba vi (to (k - 1)) 0 - 1 = kx by omega] at hq; exact hq) _ _ hP hD hS ls hl2
                · refine lv_iconst (v := nI 2) hx hb d_MD_search_164 (by decide) ?_
                  exact rt_i E hP hD hS (by rw [mS] at hq; dsimp only at hq; rw [if_pos (by omega), if_neg (by omega), if_neg (by omega), if_pos (by omega)] at hq; exact hq) d_MD_search_165
            · refine lv_aload_n hx hb d_MD_search_101 rfl (lv_at hl 0 rfl) ?_
              refine lv_iload hx hb d_MD_search_102 (lv_at hl 5 rfl) ?_
              refine va_put (D := D) (ci := 5) (v := .int (nI k)) (ty := .int) (C := R_MD) (T := F_MD) (N := 18) hx hb ho j_MD t_MD t_MD_ok n_MD hown hK hP hD hS 0 rfl rfl 8 (by decide) (ho _ kf_MD_62) (fun _ h9 => h9) rfl (by decide +kernel) rfl rfl (Nat.le_of_ble_eq_true rfl) d_MD_search_104 (fun H locs hP hD hS => ?_)
              have hP : va_P D classes [(a, .inr (5, [.int (nI w), .int (nI h), .int (nI (w * h)), .int (nI g), .ref b1, .ref b2, .ref b3, .int (nI bg), .int (nI k), .int (nI sp), .int (nI th), .ref b4, .ref b5, .ref b6, .ref b7, .ref b8, .ref b9, .int (nI isf)])), (b1, .inl (cL, 36, .inl (nA ba))), (b2, .inl (cL, 36, .inl (nA vi))), (b3, .inl (cI, 36, .inl (nA to))), (b4, .inl (cI, 6, .inl (mA rw))), (b5, .inl (cI, 6, .inl (mA li))), (b6, .inl (cI, 36, .inl (nA gi))), (b7, .inl (cI, 36, .inl (nA fl))), (b8, .inl (cI, 36, .inl (nA fo))), (b9, .inl (cI, 36, .inl (nA my)))] H := hP
              have hD : va_D A [(a, .inr (5, [.int (nI w), .int (nI h), .int (nI (w * h)), .int (nI g), .ref b1, .ref b2, .ref b3, .int (nI bg), .int (nI k), .int (nI sp), .int (nI th), .ref b4, .ref b5, .ref b6, .ref b7, .ref b8, .ref b9, .int (nI isf)])), (b1, .inl (cL, 36, .inl (nA ba))), (b2, .inl (cL, 36, .inl (nA vi))), (b3, .inl (cI, 36, .inl (nA to))), (b4, .inl (cI, 6, .inl (mA rw))), (b5, .inl (cI, 6, .inl (mA li))), (b6, .inl (cI, 36, .inl (nA gi))), (b7, .inl (cI, 36, .inl (nA fl))), (b8, .inl (cI, 36, .inl (nA fo))), (b9, .inl (cI, 36, .inl (nA my)))] := hD
              refine lv_iconst (v := nI 0) hx hb d_MD_search_107 (by decide) ?_
              exact rt_i E hP hD hS (by rw [mS] at hq; dsimp only at hq; rw [if_pos (by omega), if_pos ⟨by omega, rfl, by omega⟩] at hq; exact hq) d_MD_search_108
    · have hl : lv_has ls 8 [(0, .ref a), (1, .int (nI p0)), (2, .int (nI cl)), (3, .int (nI most)), (4, .int (nI al)), (5, .int (nI k)), (6, .int (nI tk))] := by
        rw [nI_pred] at hl; exact hl
      refine lv_iload hx hb d_MD_search_58 (lv_at hl 5 rfl) ?_
      refine nr_if_le (tgt := 202) hx hb d_MD_search_60 (by decide) (by omega) (fun h_1 => ?_) (fun h_1 => ?_)
      · refine lv_iconst (v := nI 1) hx hb d_MD_search_202 (by decide) ?_
        exact rt_i E hP hD hS (by rw [mS] at hq; dsimp only at hq; rw [if_neg (by omega)] at hq; exact hq) d_MD_search_203
      · refine lv_iload hx hb d_MD_search_63 (lv_at hl 5 rfl) ?_
        refine lv_iload hx hb d_MD_search_65 (lv_at hl 4 rfl) ?_
        refine nr_icmp_ne (tgt := 109) hx hb d_MD_search_67 (by decide) (by omega) (by omega) (fun h_2 => ?_) (fun h_2 => ?_)
        · refine lv_aload_n hx hb d_MD_search_109 rfl (lv_at hl 0 rfl) ?_
          refine lv_iload_n hx hb d_MD_search_110 rfl (lv_at hl 1 rfl) ?_
          refine lv_aload_n hx hb d_MD_search_111 rfl (lv_at hl 0 rfl) ?_
          refine va_get (D := D) (ci := 5) (v := .ref b3) (C := R_MD) (T := F_MD) (N := 18) hx hb ho j_MD hown hK hP 0 rfl rfl 6 (by decide) (ho _ kf_MD_16) (fun _ h9 => h9) rfl d_MD_search_112 ?_
          refine lv_iload hx hb d_MD_search_115 (lv_at hl 5 rfl) ?_
          refine lv_iconst (v := nI 1) hx hb d_MD_search_117 (by decide) ?_
          refine nr_isub hx hb d_MD_search_118 (by omega) ?_
          refine nr_ialdN hx hb hK hP 3 0 rfl rfl (i := k - 1) (by omega) (by decide) d_MD_search_119 ?_
          refine lv_iload hx hb d_MD_search_120 (lv_at hl 6 rfl) ?_
          refine af_i (wc := [(a, .inr (5, [.int (nI w), .int (nI h), .int (nI (w * h)), .int (nI g), .ref b1, .ref b2, .ref b3, .int (nI bg), .int (nI 0), .int (nI sp), .int (nI th), .ref b4, .ref b5, .ref b6, .ref b7, .ref b8, .ref b9, .int (nI isf)])), (b1, .inl (cL, 36, .inl (nA ba))), (b2, .inl (cL, 36, .inl (nA vi))), (b3, .inl (cI, 36, .inl (nA to))), (b4, .inl (cI, 6, .inl (mA rw))), (b5, .inl (cI, 6, .inl (mA li))), (b6, .inl (cI, 36, .inl (nA gi))), (b7, .inl (cI, 36, .inl (nA fl))), (b8, .inl (cI, 36, .inl (nA fo))), (b9, .inl (cI, 36, .inl (nA my)))]) (wr := []) (rest := []) [0, 1, 2, 3, 4, 5, 6, 7, 8, 9] [] hP hD hS hA rfl rfl (by decide) (by decide) (rn_V E (As := [.int (nI p0), .int (nI (to (k - 1))), .int (nI tk)]) m_MD_nextCell km_MD_83 (c_MD_next_tried l D cI cL a b1 b2 b3 b4 b5 b6 b7 b8 b9 w h g bg 0 sp th isf ba vi to rw li gi fl fo my p0 (to (k - 1)) tk (by omega) hw1 hw6 hh6 hp (by omega) hba hmi.1 _) ⟨rfl, rfl, by dsimp only; omega, by dsimp only; omega⟩ (hP.sub [0, 1, 2, 3, 4, 5, 6, 7, 8, 9] rfl) (hD.sub [0, 1, 2, 3, 4, 5, 6, 7, 8, 9] (by decide) rfl) (q0 := 0) (ci := 5) rfl rfl rfl hl.1 rfl (Nat.le_of_ble_eq_true rfl) ⟨Nat.le_of_ble_eq_true rfl, Nat.le_of_ble_eq_true rfl⟩ d_MD_search_122) (fun r_4 u_3 H locs hw hP hD hS => ?_)
          obtain ⟨rfl, rfl⟩ := hw
          have hP : va_P D classes [(a, .inr (5, [.int (nI w), .int (nI h), .int (nI (w * h)), .int (nI g), .ref b1, .ref b2, .ref b3, .int (nI bg), .int (nI 0), .int (nI sp), .int (nI th), .ref b4, .ref b5, .ref b6, .ref b7, .ref b8, .ref b9, .int (nI isf)])), (b1, .inl (cL, 36, .inl (nA ba))), (b2, .inl (cL, 36, .inl (nA vi))), (b3, .inl (cI, 36, .inl (nA to))), (b4, .inl (cI, 6, .inl (mA rw))), (b5, .inl (cI, 6, .inl (mA li))), (b6, .inl (cI, 36, .inl (nA gi))), (b7, .inl (cI, 36, .inl (nA fl))), (b8, .inl (cI, 36, .inl (nA fo))), (b9, .inl (cI, 36, .inl (nA my)))] H := hP
          have hD : va_D A [(a, .inr (5, [.int (nI w), .int (nI h), .int (nI (w * h)), .int (nI g), .ref b1, .ref b2, .ref b3, .int (nI bg), .int (nI 0), .int (nI sp), .int (nI th), .ref b4, .ref b5, .ref b6, .ref b7, .ref b8, .ref b9, .int (nI isf)])), (b1, .inl (cL, 36, .inl (nA ba))), (b2, .inl (cL, 36, .inl (nA vi))), (b3, .inl (cI, 36, .inl (nA to))), (b4, .inl (cI, 6, .inl (mA rw))), (b5, .inl (cI, 6, .inl (mA li))), (b6, .inl (cI, 36, .inl (nA gi))), (b7, .inl (cI, 36, .inl (nA fl))), (b8, .inl (cI, 36, .inl (nA fo))), (b9, .inl (cI, 36, .inl (nA my)))] := hD
          rcases hjx : mNx w (w * h) p0 ba vi (to (k - 1)) (tk + 1) with _ | kx
          · refine lv_istore (lv' := [(7, .int (nI 0 - 1)), (0, .ref a), (1, .int (nI p0)), (2, .int (nI cl)), (3, .int (nI most)), (4, .int (nI al)), (5, .int (nI k)), (6, .int (nI tk))]) hx hb d_MD_search_125 hl (by decide) rfl (fun ls hl => ?_)
            refine lv_iload hx hb d_MD_search_127 (lv_at hl 0 rfl) ?_
            refine lv_iconst (v := (-1)) hx hb d_MD_search_129 (by decide) ?_
            refine lv_icmp_ne (tgt := 156) hx hb d_MD_search_130 (by decide) (fun h9 => absurd (by decide) h9) (fun _ => ?_)
            refine nr_iincm (lv' := [(5, .int (nI (k - 1))), (7, .int (nI 0 - 1)), (0, .ref a), (1, .int (nI p0)), (2, .int (nI cl)), (3, .int (nI most)), (4, .int (nI al)), (6, .int (nI tk))]) hx hb d_MD_search_133 hl (k := 6) rfl (by omega) (by decide) rfl (fun ls hl => ?_)
            refine lv_aload_n hx hb d_MD_search_136 rfl (lv_at hl 2 rfl) ?_
            refine va_get (D := D) (ci := 5) (v := .ref b3) (C := R_MD) (T := F_MD) (N := 18) hx hb ho j_MD hown hK hP 0 rfl rfl 6 (by decide) (ho _ kf_MD_16) (fun _ h9 => h9) rfl d_MD_search_137 ?_
            refine lv_iload hx hb d_MD_search_140 (lv_at hl 0 rfl) ?_
            refine nr_ialdN hx hb hK hP 3 0 rfl rfl (i := k - 1) (by omega) (by decide) d_MD_search_142 ?_
            refine lv_istore (lv' := [(6, .int (nI (to (k - 1)))), (5, .int (nI (k - 1))), (7, .int (nI 0 - 1)), (0, .ref a), (1, .int (nI p0)), (2, .int (nI cl)), (3, .int (nI most)), (4, .int (nI al))]) hx hb d_MD_search_143 hl (by decide) rfl (fun ls hl => ?_)
            refine lv_aload_n hx hb d_MD_search_145 rfl (lv_at hl 3 rfl) ?_
            refine va_get (D := D) (ci := 5) (v := .ref b2) (C := R_MD) (T := F_MD) (N := 18) hx hb ho j_MD hown hK hP 0 rfl rfl 5 (by decide) (ho _ kf_MD_13) (fun _ h9 => h9) rfl d_MD_search_146 ?_
            refine lv_iload hx hb d_MD_search_149 (lv_at hl 0 rfl) ?_
            refine lv_iconst (v := nI 0) hx hb d_MD_search_151 (by decide) ?_
            refine nr_zast hx hb hK hP hD hS 2 1 rfl rfl (i := to (k - 1)) (x := 0) (by omega) (by decide) (by omega) d_MD_search_152 (fun H locs hP hD hS => ?_)
            have hP : va_P D classes [(a, .inr (5, [.int (nI w), .int (nI h), .int (nI (w * h)), .int (nI g), .ref b1, .ref b2, .ref b3, .int (nI bg), .int (nI 0), .int (nI sp), .int (nI th), .ref b4, .ref b5, .ref b6, .ref b7, .ref b8, .ref b9, .int (nI isf)])), (b1, .inl (cL, 36, .inl (nA ba))), (b2, .inl (cL, 36, .inl (nA (va_up vi (to (k - 1)) 0)))), (b3, .inl (cI, 36, .inl (nA to))), (b4, .inl (cI, 6, .inl (mA rw))), (b5, .inl (cI, 6, .inl (mA li))), (b6, .inl (cI, 36, .inl (nA gi))), (b7, .inl (cI, 36, .inl (nA fl))), (b8, .inl (cI, 36, .inl (nA fo))), (b9, .inl (cI, 36, .inl (nA my)))] H := hP
            have hD : va_D A [(a, .inr (5, [.int (nI w), .int (nI h), .int (nI (w * h)), .int (nI g), .ref b1, .ref b2, .ref b3, .int (nI bg), .int (nI 0), .int (nI sp), .int (nI th), .ref b4, .ref b5, .ref b6, .ref b7, .ref b8, .ref b9, .int (nI isf)])), (b1, .inl (cL, 36, .inl (nA ba))), (b2, .inl (cL, 36, .inl (nA (va_up vi (to (k - 1)) 0)))), (b3, .inl (cI, 36, .inl (nA to))), (b4, .inl (cI, 6, .inl (mA rw))), (b5, .inl (cI, 6, .inl (mA li))), (b6, .inl (cI, 36, .inl (nA gi))), (b7, .inl (cI, 36, .inl (nA fl))), (b8, .inl (cI, 36, .inl (nA fo))), (b9, .inl (cI, 36, .inl (nA my)))] := hD
            refine lv_goto (tgt := 199) hx hb d_MD_search_153 (by decide) ?_
            refine lv_goto (tgt := 58) hx hb d_MD_search_199 (by decide) ?_
            have hl2 : lv_has ls 8 [(0, .ref a), (1, .int (nI p0)), (2, .int (nI cl)), (3, .int (nI most)), (4, .int (nI al)), (5, .int (nI (k - 1))), (6, .int (nI (to (k - 1))))] := lv_sub hl [3, 4, 5, 6, 7, 1, 0] rfl
            have hl2 : lv_has ls 8 [(0, .ref a), (1, .int (nI p0)), (2, .int (nI cl)), (3, .int (nI most)), (4, .int (nI al)), (5, .int (nI (k - 1))), (6, .int (nI (to (k - 1) + 1) - 1))] := by rw [nI_pred]; exact hl2
            exact ih (k - 1) (to (k - 1) + 1) (va_up vi (to (k - 1)) 0) to sp (by omega) (by omega) (by omega) (mi_back (show MPi (w * h) (k - 1 + 1) vi to by rw [Nat.sub_add_cancel (by omega)]; exact hmi)) (by rw [mS] at hq; dsimp only at hq; rw [if_pos (by omega), if_neg (by omega), if_pos (by omega)] at hq; exact hq) _ _ hP hD hS ls hl2
          · rw [nI_pred]
            obtain ⟨hkx, hkb, hkv, -⟩ := mNx_ok hjx
            have hst := mi_step hmi hkx h36 hkv
            refine lv_istore (lv' := [(7, .int (nI kx)), (0, .ref a), (1, .int (nI p0)), (2, .int (nI cl)), (3, .int (nI most)), (4, .int (nI al)), (5, .int (nI k)), (6, .int (nI tk))]) hx hb d_MD_search_125 hl (by decide) rfl (fun ls hl => ?_)
            refine lv_iload hx hb d_MD_search_127 (lv_at hl 0 rfl) ?_
            refine lv_iconst (v := (-1)) hx hb d_MD_search_129 (by decide) ?_
            refine lv_icmp_ne (tgt := 156) hx hb d_MD_search_130 (by decide) (fun _ => ?_) (fun h9 => absurd h9 (nI_m1 (by omega)))
            refine lv_aload_n hx hb d_MD_search_156 rfl (lv_at hl 1 rfl) ?_
            refine va_get (D := D) (ci := 5) (v := .int (nI sp)) (C := R_MD) (T := F_MD) (N := 18) hx hb ho j_MD hown hK hP 0 rfl rfl 9 (by decide) (ho _ kf_MD_87) (fun _ h9 => h9) rfl d_MD_search_157 ?_
            refine lv_iload_n hx hb d_MD_search_160 rfl (lv_at hl 4 rfl) ?_
            have hsp := hsp
            refine nr_icmp_ne (tgt := 166) hx hb d_MD_search_161 (by decide) (by omega) (by omega) (fun h_5 => ?_) (fun h_5 => ?_)
            · refine lv_aload_n hx hb d_MD_search_166 rfl (lv_at hl 1 rfl) ?_
              refine lv_dup hx hb d_MD_search_167 rfl ?_
              refine va_get (D := D) (ci := 5) (v := .int (nI sp)) (C := R_MD) (T := F_MD) (N := 18) hx hb ho j_MD hown hK hP 0 rfl rfl 9 (by decide) (ho _ kf_MD_87) (fun _ h9 => h9) rfl d_MD_search_168 ?_
              refine lv_iconst (v := nI 1) hx hb d_MD_search_171 (by decide) ?_
              refine nr_iadd hx hb d_MD_search_172 ?_
              refine va_put (D := D) (ci := 5) (v := .int (nI (sp + 1))) (ty := .int) (C := R_MD) (T := F_MD) (N := 18) hx hb ho j_MD t_MD t_MD_ok n_MD hown hK hP hD hS 0 rfl rfl 9 (by decide) (ho _ kf_MD_87) (fun _ h9 => h9) rfl (by decide +kernel) rfl rfl (Nat.le_of_ble_eq_true rfl) d_MD_search_173 (fun H locs hP hD hS => ?_)
              have hP : va_P D classes [(a, .inr (5, [.int (nI w), .int (nI h), .int (nI (w * h)), .int (nI g), .ref b1, .ref b2, .ref b3, .int (nI bg), .int (nI 0), .int (nI (sp + 1)), .int (nI th), .ref b4, .ref b5, .ref b6, .ref b7, .ref b8, .ref b9, .int (nI isf)])), (b1, .inl (cL, 36, .inl (nA ba))), (b2, .inl (cL, 36, .inl (nA vi))), (b3, .inl (cI, 36, .inl (nA to))), (b4, .inl (cI, 6, .inl (mA rw))), (b5, .inl (cI, 6, .inl (mA li))), (b6, .inl (cI, 36, .inl (nA gi))), (b7, .inl (cI, 36, .inl (nA fl))), (b8, .inl (cI, 36, .inl (nA fo))), (b9, .inl (cI, 36, .inl (nA my)))] H := hP
              have hD : va_D A [(a, .inr (5, [.int (nI w), .int (nI h), .int (nI (w * h)), .int (nI g), .ref b1, .ref b2, .ref b3, .int (nI bg), .int (nI 0), .int (nI (sp + 1)), .int (nI th), .ref b4, .ref b5, .ref b6, .ref b7, .ref b8, .ref b9, .int (nI isf)])), (b1, .inl (cL, 36, .inl (nA ba))), (b2, .inl (cL, 36, .inl (nA vi))), (b3, .inl (cI, 36, .inl (nA to))), (b4, .inl (cI, 6, .inl (mA rw))), (b5, .inl (cI, 6, .inl (mA li))), (b6, .inl (cI, 36, .inl (nA gi))), (b7, .inl (cI, 36, .inl (nA fl))), (b8, .inl (cI, 36, .inl (nA fo))), (b9, .inl (cI, 36, .inl (nA my)))] := hD
              refine lv_aload_n hx hb d_MD_search_176 rfl (lv_at hl 1 rfl) ?_
              refine va_get (D := D) (ci := 5) (v := .ref b3) (C := R_MD) (T := F_MD) (N := 18) hx hb ho j_MD hown hK hP 0 rfl rfl 6 (by decide) (ho _ kf_MD_16) (fun _ h9 => h9) rfl d_MD_search_177 ?_
              refine lv_iload hx hb d_MD_search_180 (lv_at hl 6 rfl) ?_
              refine lv_iload hx hb d_MD_search_182 (lv_at hl 0 rfl) ?_
              refine nr_iast hx hb hK hP hD hS 3 0 rfl rfl (i := k) (x := kx) (by omega) (by decide) d_MD_search_184 (fun H locs hP hD hS => ?_)
              have hP : va_P D classes [(a, .inr (5, [.int (nI w), .int (nI h), .int (nI (w * h)), .int (nI g), .ref b1, .ref b2, .ref b3, .int (nI bg), .int (nI 0), .int (nI (sp + 1)), .int (nI th), .ref b4, .ref b5, .ref b6, .ref b7, .ref b8, .ref b9, .int (nI isf)])), (b1, .inl (cL, 36, .inl (nA ba))), (b2, .inl (cL, 36, .inl (nA vi))), (b3, .inl (cI, 36, .inl (nA (va_up to k kx)))), (b4, .inl (cI, 6, .inl (mA rw))), (b5, .inl (cI, 6, .inl (mA li))), (b6, .inl (cI, 36, .inl (nA gi))), (b7, .inl (cI, 36, .inl (nA fl))), (b8, .inl (cI, 36, .inl (nA fo))), (b9, .inl (cI, 36, .inl (nA my)))] H := hP
              have hD : va_D A [(a, .inr (5, [.int (nI w), .int (nI h), .int (nI (w * h)), .int (nI g), .ref b1, .ref b2, .ref b3, .int (nI bg), .int (nI 0), .int (nI (sp + 1)), .int (nI th), .ref b4, .ref b5, .ref b6, .ref b7, .ref b8, .ref b9, .int (nI isf)])), (b1, .inl (cL, 36, .inl (nA ba))), (b2, .inl (cL, 36, .inl (nA vi))), (b3, .inl (cI, 36, .inl (nA (va_up to k kx)))), (b4, .inl (cI, 6, .inl (mA rw))), (b5, .inl (cI, 6, .inl (mA li))), (b6, .inl (cI, 36, .inl (nA gi))), (b7, .inl (cI, 36, .inl (nA fl))), (b8, .inl (cI, 36, .inl (nA fo))), (b9, .inl (cI, 36, .inl (nA my)))] := hD
              refine lv_aload_n hx hb d_MD_search_185 rfl (lv_at hl 1 rfl) ?_
              refine va_get (D := D) (ci := 5) (v := .ref b2) (C := R_MD) (T := F_MD) (N := 18) hx hb ho j_MD hown hK hP 0 rfl rfl 5 (by decide) (ho _ kf_MD_13) (fun _ h9 => h9) rfl d_MD_search_186 ?_
              refine lv_iload hx hb d_MD_search_189 (lv_at hl 0 rfl) ?_
              refine lv_iconst (v := nI 1) hx hb d_MD_search_191 (by decide) ?_
              refine nr_zast hx hb hK hP hD hS 2 1 rfl rfl (i := kx) (x := 1) (by omega) (by decide) (by omega) d_MD_search_192 (fun H locs hP hD hS => ?_)
              have hP : va_P D classes [(a, .inr (5, [.int (nI w), .int (nI h), .int (nI (w * h)), .int (nI g), .ref b1, .ref b2, .ref b3, .int (nI bg), .int (nI 0), .int (nI (sp + 1)), .int (nI th), .ref b4, .ref b5, .ref b6, .ref b7, .ref b8, .ref b9, .int (nI isf)])), (b1, .inl (cL, 36, .inl (nA ba))), (b2, .inl (cL, 36, .inl (nA (va_up vi kx 1)))), (b3, .inl (cI, 36, .inl (nA (va_up to k kx)))), (b4, .inl (cI, 6, .inl (mA rw))), (b5, .inl (cI, 6, .inl (mA li))), (b6, .inl (cI, 36, .inl (nA gi))), (b7, .inl (cI, 36, .inl (nA fl))), (b8, .inl (cI, 36, .inl (nA fo))), (b9, .inl (cI, 36, .inl (nA my)))] H := hP
              have hD : va_D A [(a, .inr (5, [.int (nI w), .int (nI h), .int (nI (w * h)), .int (nI g), .ref b1, .ref b2, .ref b3, .int (nI bg), .int (nI 0), .int (nI (sp + 1)), .int (nI th), .ref b4, .ref b5, .ref b6, .ref b7, .ref b8, .ref b9, .int (nI isf)])), (b1, .inl (cL, 36, .inl (nA ba))), (b2, .inl (cL, 36, .inl (nA (va_up vi kx 1)))), (b3, .inl (cI, 36, .inl (nA (va_up to k kx)))), (b4, .inl (cI, 6, .inl (mA rw))), (b5, .inl (cI, 6, .inl (mA li))), (b6, .inl (cI, 36, .inl (nA gi))), (b7, .inl (cI, 36, .inl (nA fl))), (b8, .inl (cI, 36, .inl (nA fo))), (b9, .inl (cI, 36, .inl (nA my)))] := hD
              refine nr_iinc (lv' := [(5, .int (nI (k + 1))), (7, .int (nI kx)), (0, .ref a), (1, .int (nI p0)), (2, .int (nI cl)), (3, .int (nI most)), (4, .int (nI al)), (6, .int (nI tk))]) hx hb d_MD_search_193 hl (k := 6) rfl (by decide) rfl (fun ls hl => ?_)
              refine lv_iconst (v := (-1)) hx hb d_MD_search_196 (by decide) ?_
              refine lv_istore (lv' := [(6, .int (-1)), (5, .int (nI (k + 1))), (7, .int (nI kx)), (0, .ref a), (1, .int (nI p0)), (2, .int (nI cl)), (3, .int (nI most)), (4, .int (nI al))]) hx hb d_MD_search_197 hl (by decide) rfl (fun ls hl => ?_)
              refine lv_goto (tgt := 58) hx hb d_MD_search_199 (by decide) ?_
              have hl2 : lv_has ls 8 [(0, .ref a), (1, .int (nI p0)), (2, .int (nI cl)), (3, .int (nI most)), (4, .int (nI al)), (5, .int (nI (k + 1))), (6, .int (-1))] := lv_sub hl [3, 4, 5, 6, 7, 1, 0] rfl
              have hl2 : lv_has ls 8 [(0, .ref a), (1, .int (nI p0)), (2, .int (nI cl)), (3, .int (nI most)), (4, .int (nI al)), (5, .int (nI (k + 1))), (6, .int (nI 0 - 1))] := by rw [show nI 0 - 1 = (-1 : Int32) by decide]; exact hl2
              exact ih (k + 1) 0 (va_up vi kx 1) (va_up to k kx) (sp + 1) (by omega) (by omega) (by omega) hst.2 (by rw [mS] at hq; dsimp only at hq; rw [if_pos (by omega), if_neg (by omega), if_neg (by omega), if_neg (by omega), show mNx w (w * h) p0 ba vi (to (k - 1)) (tk + 1) - 1 = kx by omega] at hq; exact hq) _ _ hP hD hS ls hl2
            · refine lv_iconst (v := nI 2) hx hb d_MD_search_164 (by decide) ?_
              exact rt_i E hP hD hS (by rw [mS] at hq; dsimp only at hq; rw [if_pos (by omega), if_neg (by omega), if_neg (by omega), if_pos (by omega)] at hq; exact hq) d_MD_search_165
        · refine lv_iload hx hb d_MD_search_70 (lv_at hl 6 rfl) ?_
          refine lv_iconst (v := (-1)) hx hb d_MD_search_72 (by decide) ?_
          refine lv_icmp_ne (tgt := 109) hx hb d_MD_search_73 (by decide) (fun _ => ?_) (fun h9 => absurd h9 (nI_m1 (by omega)))
          refine lv_aload_n hx hb d_MD_search_109 rfl (lv_at hl 0 rfl) ?_
          refine lv_iload_n hx hb d_MD_search_110 rfl (lv_at hl 1 rfl) ?_
          refine lv_aload_n hx hb d_MD_search_111 rfl (lv_at hl 0 rfl) ?_
          refine va_get (D := D) (ci := 5) (v := .ref b3) (C := R_MD) (T := F_MD) (N := 18) hx hb ho j_MD hown hK hP 0 rfl rfl 6 (by decide) (ho _ kf_MD_16) (fun _ h9 => h9) rfl d_MD_search_112 ?_
          refine lv_iload hx hb d_MD_search_115 (lv_at hl 5 rfl) ?_
          refine lv_iconst (v := nI 1) hx hb d_MD_search_117 (by decide) ?_
          refine nr_isub hx hb d_MD_search_118 (by omega) ?_
          refine nr_ialdN hx hb hK hP 3 0 rfl rfl (i := k - 1) (by omega) (by decide) d_MD_search_119 ?_
          refine lv_iload hx hb d_MD_search_120 (lv_at hl 6 rfl) ?_
          refine af_i (wc := [(a, .inr (5, [.int (nI w), .int (nI h), .int (nI (w * h)), .int (nI g), .ref b1, .ref b2, .ref b3, .int (nI bg), .int (nI 0), .int (nI sp), .int (nI th), .ref b4, .ref b5, .ref b6, .ref b7, .ref b8, .ref b9, .int (nI isf)])), (b1, .inl (cL, 36, .inl (nA ba))), (b2, .inl (cL, 36, .inl (nA vi))), (b3, .inl (cI, 36, .inl (nA to))), (b4, .inl (cI, 6, .inl (mA rw))), (b5, .inl (cI, 6, .inl (mA li))), (b6, .inl (cI, 36, .inl (nA gi))), (b7, .inl (cI, 36, .inl (nA fl))), (b8, .inl (cI, 36, .inl (nA fo))), (b9, .inl (cI, 36, .inl (nA my)))]) (wr := []) (rest := []) [0, 1, 2, 3, 4, 5, 6, 7, 8, 9] [] hP hD hS hA rfl rfl (by decide) (by decide) (rn_V E (As := [.int (nI p0), .int (nI (to (k - 1))), .int (nI tk)]) m_MD_nextCell km_MD_83 (c_MD_next_tried l D cI cL a b1 b2 b3 b4 b5 b6 b7 b8 b9 w h g bg 0 sp th isf ba vi to rw li gi fl fo my p0 (to (k - 1)) tk (by omega) hw1 hw6 hh6 hp (by omega) hba hmi.1 _) ⟨rfl, rfl, by dsimp only; omega, by dsimp only; omega⟩ (hP.sub [0, 1, 2, 3, 4, 5, 6, 7, 8, 9] rfl) (hD.sub [0, 1, 2, 3, 4, 5, 6, 7, 8, 9] (by decide) rfl) (q0 := 0) (ci := 5) rfl rfl rfl hl.1 rfl (Nat.le_of_ble_eq_true rfl) ⟨Nat.le_of_ble_eq_true rfl, Nat.le_of_ble_eq_true rfl⟩ d_MD_search_122) (fun r_7 u_6 H locs hw hP hD hS => ?_)
          obtain ⟨rfl, rfl⟩ := hw
          have hP : va_P D classes [(a, .inr (5, [.int (nI w), .int (nI h), .int (nI (w * h)), .int (nI g), .ref b1, .ref b2, .ref b3, .int (nI bg), .int (nI 0), .int (nI sp), .int (nI th), .ref b4, .ref b5, .ref b6, .ref b7, .ref b8, .ref b9, .int (nI isf)])), (b1, .inl (cL, 36, .inl (nA ba))), (b2, .inl (cL, 36, .inl (nA vi))), (b3, .inl (cI, 36, .inl (nA to))), (b4, .inl (cI, 6, .inl (mA rw))), (b5, .inl (cI, 6, .inl (mA li))), (b6, .inl (cI, 36, .inl (nA gi))), (b7, .inl (cI, 36, .inl (nA fl))), (b8, .inl (cI, 36, .inl (nA fo))), (b9, .inl (cI, 36, .inl (nA my)))] H := hP
          have hD : va_D A [(a, .inr (5, [.int (nI w), .int (nI h), .int (nI (w * h)), .int (nI g), .ref b1, .ref b2, .ref b3, .int (nI bg), .int (nI 0), .int (nI sp), .int (nI th), .ref b4, .ref b5, .ref b6, .ref b7, .ref b8, .ref b9, .int (nI isf)])), (b1, .inl (cL, 36, .inl (nA ba))), (b2, .inl (cL, 36, .inl (nA vi))), (b3, .inl (cI, 36, .inl (nA to))), (b4, .inl (cI, 6, .inl (mA rw))), (b5, .inl (cI, 6, .inl (mA li))), (b6, .inl (cI, 36, .inl (nA gi))), (b7, .inl (cI, 36, .inl (nA fl))), (b8, .inl (cI, 36, .inl (nA fo))), (b9, .inl (cI, 36, .inl (nA my)))] := hD
          rcases hjx : mNx w (w * h) p0 ba vi (to (k - 1)) (tk + 1) with _ | kx
          · refine lv_istore (lv' := [(7, .int (nI 0 - 1)), (0, .ref a), (1, .int (nI p0)), (2, .int (nI cl)), (3, .int (nI most)), (4, .int (nI al)), (5, .int (nI k)), (6, .int (nI tk))]) hx hb d_MD_search_125 hl (by decide) rfl (fun ls hl => ?_)
            refine lv_iload hx hb d_MD_search_127 (lv_at hl 0 rfl) ?_
            refine lv_iconst (v := (-1)) hx hb d_MD_search_129 (by decide) ?_
            refine lv_icmp_ne (tgt := 156) hx hb d_MD_search_130 (by decide) (fun h9 => absurd (by decide) h9) (fun _ => ?_)
            refine nr_iincm (lv' := [(5, .int (nI (k - 1))), (7, .int (nI 0 - 1)), (0, .ref a), (1, .int (nI p0)), (2, .int (nI cl)), (3, .int (nI most)), (4, .int (nI al)), (6, .int (nI tk))]) hx hb d_MD_search_133 hl (k := 6) rfl (by omega) (by decide) rfl (fun ls hl => ?_)
            refine lv_aload_n hx hb d_MD_search_136 rfl (lv_at hl 2 rfl) ?_
            refine va_get (D := D) (ci := 5) (v := .ref b3) (C := R_MD) (T := F_MD) (N := 18) hx hb ho j_MD hown hK hP 0 rfl rfl 6 (by decide) (ho _ kf_MD_16) (fun _ h9 => h9) rfl d_MD_search_137 ?_
            refine lv_iload hx hb d_MD_search_140 (lv_at hl 0 rfl) ?_
            refine nr_ialdN hx hb hK hP 3 0 rfl rfl (i := k - 1) (by omega) (by decide) d_MD_search_142 ?_
            refine lv_istore (lv' := [(6, .int (nI (to (k - 1)))), (5, .int (nI (k - 1))), (7, .int (nI 0 - 1)), (0, .ref a), (1, .int (nI p0)), (2, .int (nI cl)), (3, .int (nI most)), (4, .int (nI al))]) hx hb d_MD_search_143 hl (by decide) rfl (fun ls hl => ?_)
            refine lv_aload_n hx hb d_MD_search_145 rfl (lv_at hl 3 rfl) ?_
            refine va_get (D := D) (ci := 5) (v := .ref b2) (C := R_MD) (T := F_MD) (N := 18) hx hb ho j_MD hown hK hP 0 rfl rfl 5 (by decide) (ho _ kf_MD_13) (fun _ h9 => h9) rfl d_MD_search_146 ?_
            refine lv_iload hx hb d_MD_search_149 (lv_at hl 0 rfl) ?_
            refine lv_iconst (v := nI 0) hx hb d_MD_search_151 (by decide) ?_
            refine nr_zast hx hb hK hP hD hS 2 1 rfl rfl (i := to (k - 1)) (x := 0) (by omega) (by decide) (by omega) d_MD_search_152 (fun H locs hP hD hS => ?_)
            have hP : va_P D classes [(a, .inr (5, [.int (nI w), .int (nI h), .int (nI (w * h)), .int (nI g), .ref b1, .ref b2, .ref b3, .int (nI bg), .int (nI 0), .int (nI sp), .int (nI th), .ref b4, .ref b5, .ref b6, .ref b7, .ref b8, .ref b9, .int (nI isf)])), (b1, .inl (cL, 36, .inl (nA ba))), (b2, .inl (cL, 36, .inl (nA (va_up vi (to (k - 1)) 0)))), (b3, .inl (cI, 36, .inl (nA to))), (b4, .inl (cI, 6, .inl (mA rw))), (b5, .inl (cI, 6, .inl (mA li))), (b6, .inl (cI, 36, .inl (nA gi))), (b7, .inl (cI, 36, .inl (nA fl))), (b8, .inl (cI, 36, .inl (nA fo))), (b9, .inl (cI, 36, .inl (nA my)))] H := hP
            have hD : va_D A [(a, .inr (5, [.int (nI w), .int (nI h), .int (nI (w * h)), .int (nI g), .ref b1, .ref b2, .ref b3, .int (nI bg), .int (nI 0), .int (nI sp), .int (nI th), .ref b4, .ref b5, .ref b6, .ref b7, .ref b8, .ref b9, .int (nI isf)])), (b1, .inl (cL, 36, .inl (nA ba))), (b2, .inl (cL, 36, .inl (nA (va_up vi (to (k - 1)) 0)))), (b3, .inl (cI, 36, .inl (nA to))), (b4, .inl (cI, 6, .inl (mA rw))), (b5, .inl (cI, 6, .inl (mA li))), (b6, .inl (cI, 36, .inl (nA gi))), (b7, .inl (cI, 36, .inl (nA fl))), (b8, .inl (cI, 36, .inl (nA fo))), (b9, .inl (cI, 36, .inl (nA my)))] := hD
            refine lv_goto (tgt := 199) hx hb d_MD_search_153 (by decide) ?_
            refine lv_goto (tgt := 58) hx hb d_MD_search_199 (by decide) ?_
            have hl2 : lv_has ls 8 [(0, .ref a), (1, .int (nI p0)), (2, .int (nI cl)), (3, .int (nI most)), (4, .int (nI al)), (5, .int (nI (k - 1))), (6, .int (nI (to (k - 1))))] := lv_sub hl [3, 4, 5, 6, 7, 1, 0] rfl
            have hl2 : lv_has ls 8 [(0, .ref a), (1, .int (nI p0)), (2, .int (nI cl)), (3, .int (nI most)), (4, .int (nI al)), (5, .int (nI (k - 1))), (6, .int (nI (to (k - 1) + 1) - 1))] := by rw [nI_pred]; exact hl2
            exact ih (k - 1) (to (k - 1) + 1) (va_up vi (to (k - 1)) 0) to sp (by omega) (by omega) (by omega) (mi_back (show MPi (w * h) (k - 1 + 1) vi to by rw [Nat.sub_add_cancel (by omega)]; exact hmi)) (by rw [mS] at hq; dsimp only at hq; rw [if_pos (by omega), if_neg (by omega), if_pos (by omega)] at hq; exact hq) _ _ hP hD hS ls hl2
          · rw [nI_pred]
            obtain ⟨hkx, hkb, hkv, -⟩ := mNx_ok hjx
            have hst := mi_step hmi hkx h36 hkv
            refine lv_istore (lv' := [(7, .int (nI kx)), (0, .ref a), (1, .int (nI p0)), (2, .int (nI cl)), (3, .int (nI most)), (4, .int (nI al)), (5, .int (nI k)), (6, .int (nI tk))]) hx hb d_MD_search_125 hl (by decide) rfl (fun ls hl => ?_)
            refine lv_iload hx hb d_MD_search_127 (lv_at hl 0 rfl) ?_
            refine lv_iconst (v := (-1)) hx hb d_MD_search_129 (by decide) ?_
            refine lv_icmp_ne (tgt := 156) hx hb d_MD_search_130 (by decide) (fun _ => ?_) (fun h9 => absurd h9 (nI_m1 (by omega)))
            refine lv_aload_n hx hb d_MD_search_156 rfl (lv_at hl 1 rfl) ?_
            refine va_get (D := D) (ci := 5) (v := .int (nI sp)) (C := R_MD) (T := F_MD) (N := 18) hx hb ho j_MD hown hK hP 0 rfl rfl 9 (by decide) (ho _ kf_MD_87) (fun _ h9 => h9) rfl d_MD_search_157 ?_
            refine lv_iload_n hx hb d_MD_search_160 rfl (lv_at hl 4 rfl) ?_
            have hsp := hsp
            refine nr_icmp_ne (tgt := 166) hx hb d_MD_search_161 (by decide) (by omega) (by omega) (fun h_8 => ?_) (fun h_8 => ?_)
            · refine lv_aload_n hx hb d_MD_search_166 rfl (lv_at hl 1 rfl) ?_
              refine lv_dup hx hb d_MD_search_167 rfl ?_
              refine va_get (D := D) (ci := 5) (v := .int (nI sp)) (C := R_MD) (T := F_MD) (N := 18) hx hb ho j_MD hown hK hP 0 rfl rfl 9 (by decide) (ho _ kf_MD_87) (fun _ h9 => h9) rfl d_MD_search_168 ?_
              refine lv_iconst (v := nI 1) hx hb d_MD_search_171 (by decide) ?_
              refine nr_iadd hx hb d_MD_search_172 ?_
              refine va_put (D := D) (ci := 5) (v := .int (nI (sp + 1))) (ty := .int) (C := R_MD) (T := F_MD) (N := 18) hx hb ho j_MD t_MD t_MD_ok n_MD hown hK hP hD hS 0 rfl rfl 9 (by decide) (ho _ kf_MD_87) (fun _ h9 => h9) rfl (by decide +kernel) rfl rfl (Nat.le_of_ble_eq_true rfl) d_MD_search_173 (fun H locs hP hD hS => ?_)
              have hP : va_P D classes [(a, .inr (5, [.int (nI w), .int (nI h), .int (nI (w * h)), .int (nI g), .ref b1, .ref b2, .ref b3, .int (nI bg), .int (nI 0), .int (nI (sp + 1)), .int (nI th), .ref b4, .ref b5, .ref b6, .ref b7, .ref b8, .ref b9, .int (nI isf)])), (b1, .inl (cL, 36, .inl (nA ba))), (b2, .inl (cL, 36, .inl (nA vi))), (b3, .inl (cI, 36, .inl (nA to))), (b4, .inl (cI, 6, .inl (mA rw))), (b5, .inl (cI, 6, .inl (mA li))), (b6, .inl (cI, 36, .inl (nA gi))), (b7, .inl (cI, 36, .inl (nA fl))), (b8, .inl (cI, 36, .inl (nA fo))), (b9, .inl (cI, 36, .inl (nA my)))] H := hP
              have hD : va_D A [(a, .inr (5, [.int (nI w), .int (nI h), .int (nI (w * h)), .int (nI g), .ref b1, .ref b2, .ref b3, .int (nI bg), .int (nI 0), .int (nI (sp + 1)), .int (nI th), .ref b4, .ref b5, .ref b6, .ref b7, .ref b8, .ref b9, .int (nI isf)])), (b1, .inl (cL, 36, .inl (nA ba))), (b2, .inl (cL, 36, .inl (nA vi))), (b3, .inl (cI, 36, .inl (nA to))), (b4, .inl (cI, 6, .inl (mA rw))), (b5, .inl (cI, 6, .inl (mA li))), (b6, .inl (cI, 36, .inl (nA gi))), (b7, .inl (cI, 36, .inl (nA fl))), (b8, .inl (cI, 36, .inl (nA fo))), (b9, .inl (cI, 36, .inl (nA my)))] := hD
              refine lv_aload_n hx hb d_MD_search_176 rfl (lv_at hl 1 rfl) ?_
              refine va_get (D := D) (ci := 5) (v := .ref b3) (C := R_MD) (T := F_MD) (N := 18) hx hb ho j_MD hown hK hP 0 rfl rfl 6 (by decide) (ho _ kf_MD_16) (fun _ h9 => h9) rfl d_MD_search_177 ?_
              refine lv_iload hx hb d_MD_search_180 (lv_at hl 6 rfl) ?_
              refine lv_iload hx hb d_MD_search_182 (lv_at hl 0 rfl) ?_
              refine nr_iast hx hb hK hP hD hS 3 0 rfl rfl (i := k) (x := kx) (by omega) (by decide) d_MD_search_184 (fun H locs hP hD hS => ?_)
              have hP : va_P D classes [(a, .inr (5, [.int (nI w), .int (nI h), .int (nI (w * h)), .int (nI g), .ref b1, .ref b2, .ref b3, .int (nI bg), .int (nI 0), .int (nI (sp + 1)), .int (nI th), .ref b4, .ref b5, .ref b6, .ref b7, .ref b8, .ref b9, .int (nI isf)])), (b1, .inl (cL, 36, .inl (nA ba))), (b2, .inl (cL, 36, .inl (nA vi))), (b3, .inl (cI, 36, .inl (nA (va_up to k kx)))), (b4, .inl (cI, 6, .inl (mA rw))), (b5, .inl (cI, 6, .inl (mA li))), (b6, .inl (cI, 36, .inl (nA gi))), (b7, .inl (cI, 36, .inl (nA fl))), (b8, .inl (cI, 36, .inl (nA fo))), (b9, .inl (cI, 36, .inl (nA my)))] H := hP
              have hD : va_D A [(a, .inr (5, [.int (nI w), .int (nI h), .int (nI (w * h)), .int (nI g), .ref b1, .ref b2, .ref b3, .int (nI bg), .int (nI 0), .int (nI (sp + 1)), .int (nI th), .ref b4, .ref b5, .ref b6, .ref b7, .ref b8, .ref b9, .int (nI isf)])), (b1, .inl (cL, 36, .inl (nA ba))), (b2, .inl (cL, 36, .inl (nA vi))), (b3, .inl (cI, 36, .inl (nA (va_up to k kx)))), (b4, .inl (cI, 6, .inl (mA rw))), (b5, .inl (cI, 6, .inl (mA li))), (b6, .inl (cI, 36, .inl (nA gi))), (b7, .inl (cI, 36, .inl (nA fl))), (b8, .inl (cI, 36, .inl (nA fo))), (b9, .inl (cI, 36, .inl (nA my)))] := hD
              refine lv_aload_n hx hb d_MD_search_185 rfl (lv_at hl 1 rfl) ?_
              refine va_get (D := D) (ci := 5) (v := .ref b2) (C := R_MD) (T := F_MD) (N := 18) hx hb ho j_MD hown hK hP 0 rfl rfl 5 (by decide) (ho _ kf_MD_13) (fun _ h9 => h9) rfl d_MD_search_186 ?_
              refine lv_iload hx hb d_MD_search_189 (lv_at hl 0 rfl) ?_
              refine lv_iconst (v := nI 1) hx hb d_MD_search_191 (by decide) ?_
              refine nr_zast hx hb hK hP hD hS 2 1 rfl rfl (i := kx) (x := 1) (by omega) (by decide) (by omega) d_MD_search_192 (fun H locs hP hD hS => ?_)
              have hP : va_P D classes [(a, .inr (5, [.int (nI w), .int (nI h), .int (nI (w * h)), .int (nI g), .ref b1, .ref b2, .ref b3, .int (nI bg), .int (nI 0), .int (nI (sp + 1)), .int (nI th), .ref b4, .ref b5, .ref b6, .ref b7, .ref b8, .ref b9, .int (nI isf)])), (b1, .inl (cL, 36, .inl (nA ba))), (b2, .inl (cL, 36, .inl (nA (va_up vi kx 1)))), (b3, .inl (cI, 36, .inl (nA (va_up to k kx)))), (b4, .inl (cI, 6, .inl (mA rw))), (b5, .inl (cI, 6, .inl (mA li))), (b6, .inl (cI, 36, .inl (nA gi))), (b7, .inl (cI, 36, .inl (nA fl))), (b8, .inl (cI, 36, .inl (nA fo))), (b9, .inl (cI, 36, .inl (nA my)))] H := hP
              have hD : va_D A [(a, .inr (5, [.int (nI w), .int (nI h), .int (nI (w * h)), .int (nI g), .ref b1, .ref b2, .ref b3, .int (nI bg), .int (nI 0), .int (nI (sp + 1)), .int (nI th), .ref b4, .ref b5, .ref b6, .ref b7, .ref b8, .ref b9, .int (nI isf)])), (b1, .inl (cL, 36, .inl (nA ba))), (b2, .inl (cL, 36, .inl (nA (va_up vi kx 1)))), (b3, .inl (cI, 36, .inl (nA (va_up to k kx)))), (b4, .inl (cI, 6, .inl (mA rw))), (b5, .inl (cI, 6, .inl (mA li))), (b6, .inl (cI, 36, .inl (nA gi))), (b7, .inl (cI, 36, .inl (nA fl))), (b8, .inl (cI, 36, .inl (nA fo))), (b9, .inl (cI, 36, .inl (nA my)))] := hD
              refine nr_iinc (lv' := [(5, .int (nI (k + 1))), (7, .int (nI kx)), (0, .ref a), (1, .int (nI p0)), (2, .int (nI cl)), (3, .int (nI most)), (4, .int (nI al)), (6, .int (nI tk))]) hx hb d_MD_search_193 hl (k := 6) rfl (by decide) rfl (fun ls hl => ?_)
              refine lv_iconst (v := (-1)) hx hb d_MD_search_196 (by decide) ?_
              refine lv_istore (lv' := [(6, .int (-1)), (5, .int (nI (k + 1))), (7, .int (nI kx)), (0, .ref a), (1, .int (nI p0)), (2, .int (nI cl)), (3, .int (nI most)), (4, .int (nI al))]) hx hb d_MD_search_197 hl (by decide) rfl (fun ls hl => ?_)
              refine lv_goto (tgt := 58) hx hb d_MD_search_199 (by decide) ?_
              have hl2 : lv_has ls 8 [(0, .ref a), (1, .int (nI p0)), (2, .int (nI cl)), (3, .int (nI most)), (4, .int (nI al)), (5, .int (nI (k + 1))), (6, .int (-1))] := lv_sub hl [3, 4, 5, 6, 7, 1, 0] rfl
              have hl2 : lv_has ls 8 [(0, .ref a), (1, .int (nI p0)), (2, .int (nI cl)), (3, .int (nI most)), (4, .int (nI al)), (5, .int (nI (k + 1))), (6, .int (nI 0 - 1))] := by rw [show nI 0 - 1 = (-1 : Int32) by decide]; exact hl2
              exact ih (k + 1) 0 (va_up vi kx 1) (va_up to k kx) (sp + 1) (by omega) (by omega) (by omega) hst.2 (by rw [mS] at hq; dsimp only at hq; rw [if_pos (by omega), if_neg (by omega), if_neg (by omega), if_neg (by omega), show mNx w (w * h) p0 ba vi (to (k - 1)) (tk + 1) - 1 = kx by omega] at hq; exact hq) _ _ hP hD hS ls hl2
            · refine lv_iconst (v := nI 2) hx hb d_MD_search_164 (by decide) ?_
              exact rt_i E hP hD hS (by rw [mS] at hq; dsimp only at hq; rw [if_pos (by omega), if_neg (by omega), if_neg (by omega), if_pos (by omega)] at hq; exact hq) d_MD_search_165
