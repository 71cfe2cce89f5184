/-! the reference: queens -/
theorem nI_s1 {x : Nat} (h : 1 ≤ x) : nI x - 1 = nI (x - 1) := pk_sub (b := 1) h
def mSl (rw : Nat → Nat) (cq rr : Nat) : Nat → Nat → Nat
  | 0, _ => 1
  | m + 1, k => if k < cq then (if rw k - 1 = rr ∨ ds (rw k - 1) rr = cq - k then 0 else mSl rw cq rr m (k + 1)) else 1
theorem mSl_1 (rw : Nat → Nat) (cq rr : Nat) : ∀ m k, mSl rw cq rr m k ≤ 1 := by
  intro m
  induction m with
  | zero => intro k; exact Nat.le_refl 1
  | succ m ih =>
    intro k
    rw [mSl]
    split
    · split
      · omega
      · exact ih _
    · omega
/-- does the queen of column cq stand in row rr -/
def mStd (w : Nat) (ba rw : Nat → Nat) (cq rr : Nat) : Nat := if ba (cq + w * rr) = 0 then mSl rw cq rr 7 0 else 0
theorem mStd_1 (w : Nat) (ba rw : Nat → Nat) (cq rr : Nat) : mStd w ba rw cq rr ≤ 1 := by
  unfold mStd
  split
  · exact mSl_1 _ _ _ _ _
  · omega
set_option maxHeartbeats 1000000 in
set_option maxRecDepth 100000 in
theorem L_MD_stands {p : Program} {l : Launch} {e : Env} {s : State} {m : MethodId} {args : Array Value} {below : List Frame} {meth : Method} {c : Code} {A : Nat → Prop} {D : va_G} {cI cL : ClassId} {c0 : Cond} {post : Int32 → va_W → Prop} (a b1 b2 b3 b4 b5 b6 b7 b8 b9 w h g bg tl sp th isf : Nat) (ba vi to rw li gi fl fo my : Nat → Nat) (cq rr : Nat) (hcq : cq < w) (hr0 : rr < h) (hrr : rw cq = rr + 1) (hw6 : w ≤ 6) (hh6 : h ≤ 6) (hba : ∀ k, ba k ≤ 1) (hrw : ∀ k, k < cq → 1 ≤ rw k) (hrw7 : ∀ k, rw k ≤ 7) (E : En p s m args meth c b_MD_stands 4 (c0 :: Om) R_MD (some .boolean) A D [(cI, .int), (cL, .boolean)]) : ∀ (m1 : Nat) (k : Nat), k ≤ cq → cq < k + m1 → post (nI (mSl rw cq rr m1 k)) [(a, .inr (5, [.int (nI w), .int (nI h), .int (nI (w * h)), .int (nI g), .ref b1, .ref b2, .ref b3, .int (nI bg), .int (nI tl), .int (nI sp), .int (nI th), .ref b4, .ref b5, .ref b6, .ref b7, .ref b8, .ref b9, .int (nI isf)])), (b1, .inl (cL, 36, .inl (nA ba))), (b2, .inl (cL, 36, .inl (nA vi))), (b3, .inl (cI, 36, .inl (nA to))), (b4, .inl (cI, 6, .inl (mA rw))), (b5, .inl (cI, 6, .inl (mA li))), (b6, .inl (cI, 36, .inl (nA gi))), (b7, .inl (cI, 36, .inl (nA fl))), (b8, .inl (cI, 36, .inl (nA fo))), (b9, .inl (cI, 36, .inl (nA my)))] → ∀ (H : Heap) (locs : List Loc), va_P D classes [(a, .inr (5, [.int (nI w), .int (nI h), .int (nI (w * h)), .int (nI g), .ref b1, .ref b2, .ref b3, .int (nI bg), .int (nI tl), .int (nI sp), .int (nI th), .ref b4, .ref b5, .ref b6, .ref b7, .ref b8, .ref b9, .int (nI isf)])), (b1, .inl (cL, 36, .inl (nA ba))), (b2, .inl (cL, 36, .inl (nA vi))), (b3, .inl (cI, 36, .inl (nA to))), (b4, .inl (cI, 6, .inl (mA rw))), (b5, .inl (cI, 6, .inl (mA li))), (b6, .inl (cI, 36, .inl (nA gi))), (b7, .inl (cI, 36, .inl (nA fl))), (b8, .inl (cI, 36, .inl (nA fo))), (b9, .inl (cI, 36, .inl (nA my)))] H → va_D A [(a, .inr (5, [.int (nI w), .int (nI h), .int (nI (w * h)), .int (nI g), .ref b1, .ref b2, .ref b3, .int (nI bg), .int (nI tl), .int (nI sp), .int (nI th), .ref b4, .ref b5, .ref b6, .ref b7, .ref b8, .ref b9, .int (nI isf)])), (b1, .inl (cL, 36, .inl (nA ba))), (b2, .inl (cL, 36, .inl (nA vi))), (b3, .inl (cI, 36, .inl (nA to))), (b4, .inl (cI, 6, .inl (mA rw))), (b5, .inl (cI, 6, .inl (mA li))), (b6, .inl (cI, 36, .inl (nA gi))), (b7, .inl (cI, 36, .inl (nA fl))), (b8, .inl (cI, 36, .inl (nA fo))), (b9, .inl (cI, 36, .inl (nA my)))] → va_S A s.heap H locs → ∀ ls : Array Slot, lv_has ls 4 [(0, .ref a), (1, .int (nI cq)), (2, .int (nI rr)), (3, .int (nI k))] → W p l e { frames := 1, cells := 0, slots := 0, locals := 21 } s m args below meth c H locs 0 0 (MQ below (qI D [(cI, .int), (cL, .boolean)] post A) args s 0 0 A) (F0 m 27 ls []) := by
  obtain ⟨hx, hb, hml, hown, hts, hr, hlk, hA, hK, hN⟩ := id E
  have ho : ∀ q ∈ Om, q.before _ s = true := fun q h => hts q (List.mem_cons_of_mem _ h)
  intro m1
  induction m1 with
  | zero =>
    intro k h1 h2 hq
    exact absurd h2 (by omega)
  | succ m1 ih =>
    intro k h1 h2 hq H locs hP hD hS ls hl
    refine lv_iload_n hx hb d_MD_stands_27 rfl (lv_at hl 3 rfl) ?_
    refine lv_iload_n hx hb d_MD_stands_28 rfl (lv_at hl 1 rfl) ?_
    refine nr_icmp_ge (tgt := 66) hx hb d_MD_stands_29 (by decide) (by omega) (by omega) (fun h_1 => ?_) (fun h_1 => ?_)
    · refine lv_iconst (v := nI 1) hx hb d_MD_stands_66 (by decide) ?_
      exact rt_z E hP hD hS (by decide) (by rw [mSl, if_neg (by omega)] at hq; exact hq) d_MD_stands_67
    · refine lv_aload_n hx hb d_MD_stands_32 rfl (lv_at hl 0 rfl) ?_
      have hk7 := hrw7 k
      have hdl := ds_le (rw k - 1) rr
      refine va_get (D := D) (ci := 5) (v := .ref b4) (C := R_MD) (T := F_MD) (N := 18) hx hb ho j_MD hown hK hP 0 rfl rfl 11 (by decide) (ho _ kf_MD_20) (fun _ h9 => h9) rfl d_MD_stands_33 ?_
      refine lv_iload_n hx hb d_MD_stands_36 rfl (lv_at hl 3 rfl) ?_
      refine nr_mald hx hb hK hP 4 0 rfl rfl (i := k) (by omega) (by decide) d_MD_stands_37 ?_
      rw [nI_s1 (hrw k (by omega))]
      refine lv_iload_n hx hb d_MD_stands_38 rfl (lv_at hl 2 rfl) ?_
      refine nr_icmp_eq (tgt := 58) hx hb d_MD_stands_39 (by decide) (by omega) (by omega) (fun h_2 => ?_) (fun h_2 => ?_)
      · refine lv_iconst (v := nI 0) hx hb d_MD_stands_58 (by decide) ?_
        exact rt_z E hP hD hS (by decide) (by rw [mSl, if_pos (by omega), if_pos (by omega)] at hq; exact hq) d_MD_stands_59
      · refine lv_aload_n hx hb d_MD_stands_42 rfl (lv_at hl 0 rfl) ?_
        refine va_get (D := D) (ci := 5) (v := .ref b4) (C := R_MD) (T := F_MD) (N := 18) hx hb ho j_MD hown hK hP 0 rfl rfl 11 (by decide) (ho _ kf_MD_20) (fun _ h9 => h9) rfl d_MD_stands_43 ?_
        refine lv_iload_n hx hb d_MD_stands_46 rfl (lv_at hl 3 rfl) ?_
        refine nr_mald hx hb hK hP 4 0 rfl rfl (i := k) (by omega) (by decide) d_MD_stands_47 ?_
        rw [nI_s1 (hrw k (by omega))]
        refine lv_iload_n hx hb d_MD_stands_48 rfl (lv_at hl 2 rfl) ?_
        refine af_i (wc := []) (wr := [(a, .inr (5, [.int (nI w), .int (nI h), .int (nI (w * h)), .int (nI g), .ref b1, .ref b2, .ref b3, .int (nI bg), .int (nI tl), .int (nI sp), .int (nI th), .ref b4, .ref b5, .ref b6, .ref b7, .ref b8, .ref b9, .int (nI isf)])), (b1, .inl (cL, 36, .inl (nA ba))), (b2, .inl (cL, 36, .inl (nA vi))), (b3, .inl (cI, 36, .inl (nA to))), (b4, .inl (cI, 6, .inl (mA rw))), (b5, .inl (cI, 6, .inl (mA li))), (b6, .inl (cI, 36, .inl (nA gi))), (b7, .inl (cI, 36, .inl (nA fl))), (b8, .inl (cI, 36, .inl (nA fo))), (b9, .inl (cI, 36, .inl (nA my)))]) (rest := []) [] [0, 1, 2, 3, 4, 5, 6, 7, 8, 9] hP hD hS hA rfl rfl (by decide) (by decide) (rn_S E (As := [.int (nI (rw k - 1)), .int (nI rr)]) m_MD_apart km_MD_68 (c_MD_apart l D cI cL (rw k - 1) rr (by omega) (by omega) _) ⟨rfl, rfl, by dsimp only; omega, by dsimp only; omega⟩ (hP.sub [] rfl) (hD.sub [] (by decide) rfl) rfl hl.1 rfl (Nat.le_of_ble_eq_true rfl) ⟨Nat.le_of_ble_eq_true rfl, Nat.le_of_ble_eq_true rfl⟩ d_MD_stands_49) (fun r_4 u_3 H locs hw hP hD hS => ?_)
        obtain ⟨rfl, rfl⟩ := hw
        have hP : va_P D classes [(a, .inr (5, [.int (nI w), .int (nI h), .int (nI (w * h)), .int (nI g), .ref b1, .ref b2, .ref b3, .int (nI bg), .int (nI tl), .int (nI sp), .int (nI th), .ref b4, .ref b5, .ref b6, .ref b7, .ref b8, .ref b9, .int (nI isf)])), (b1, .inl (cL, 36, .inl (nA ba))), (b2, .inl (cL, 36, .inl (nA vi))), (b3, .inl (cI, 36, .inl (nA to))), (b4, .inl (cI, 6, .inl (mA rw))), (b5, .inl (cI, 6, .inl (mA li))), (b6, .inl (cI, 36, .inl (nA gi))), (b7, .inl (cI, 36, .inl (nA fl))), (b8, .inl (cI, 36, .inl (nA fo))), (b9, .inl (cI, 36, .inl (nA my)))] H := hP
        have hD : va_D A [(a, .inr (5, [.int (nI w), .int (nI h), .int (nI (w * h)), .int (nI g), .ref b1, .ref b2, .ref b3, .int (nI bg), .int (nI tl), .int (nI sp), .int (nI th), .ref b4, .ref b5, .ref b6, .ref b7, .ref b8, .ref b9, .int (nI isf)])), (b1, .inl (cL, 36, .inl (nA ba))), (b2, .inl (cL, 36, .inl (nA vi))), (b3, .inl (cI, 36, .inl (nA to))), (b4, .inl (cI, 6, .inl (mA rw))), (b5, .inl (cI, 6, .inl (mA li))), (b6, .inl (cI, 36, .inl (nA gi))), (b7, .inl (cI, 36, .inl (nA fl))), (b8, .inl (cI, 36, .inl (nA fo))), (b9, .inl (cI, 36, .inl (nA my)))] := hD
        refine lv_iload_n hx hb d_MD_stands_52 rfl (lv_at hl 1 rfl) ?_
        refine lv_iload_n hx hb d_MD_stands_53 rfl (lv_at hl 3 rfl) ?_
        refine nr_isub hx hb d_MD_stands_54 (by omega) ?_
        refine nr_icmp_ne (tgt := 60) hx hb d_MD_stands_55 (by decide) (by omega) (by omega) (fun h_5 => ?_) (fun h_5 => ?_)
        · refine nr_iinc (lv' := [(3, .int (nI (k + 1))), (0, .ref a), (1, .int (nI cq)), (2, .int (nI rr))]) hx hb d_MD_stands_60 hl (k := 3) rfl (by decide) rfl (fun ls hl => ?_)
          refine lv_goto (tgt := 27) hx hb d_MD_stands_63 (by decide) ?_
          exact ih (k + 1) (by omega) (by omega) (by rw [mSl, if_pos (by omega), if_neg (by omega)] at hq; exact hq) _ _ hP hD hS ls (lv_sub hl [1, 2, 3, 0] rfl)
        · refine lv_iconst (v := nI 0) hx hb d_MD_stands_58 (by decide) ?_
          exact rt_z E hP hD hS (by decide) (by rw [mSl, if_pos (by omega), if_pos (by omega)] at hq; exact hq) d_MD_stands_59
set_option maxHeartbeats 1000000 in
set_option maxRecDepth 100000 in
theorem c_MD_stands (l : Launch) (D : va_G) (cI cL : ClassId) (a b1 b2 b3 b4 b5 b6 b7 b8 b9 w h g bg tl sp th isf : Nat) (ba vi to rw li gi fl fo my : Nat → Nat) (cq rr : Nat) (hcq : cq < w) (hr0 : rr < h) (hrr : rw cq = rr + 1) (hw6 : w ≤ 6) (hh6 : h ≤ 6) (hba : ∀ k, ba k ≤ 1) (hrw : ∀ k, k < cq → 1 ≤ rw k) (hrw7 : ∀ k, rw k ≤ 7) : CI l y_MD_stands (.code y_MD_stands b_MD_stands 4 (some .boolean) :: Om) { frames := 1, cells := 0, slots := 0, locals := 21 } D [(a, .inr (5, [.int (nI w), .int (nI h), .int (nI (w * h)), .int (nI g), .ref b1, .ref b2, .ref b3, .int (nI bg), .int (nI tl), .int (nI sp), .int (nI th), .ref b4, .ref b5, .ref b6, .ref b7, .ref b8, .ref b9, .int (nI isf)])), (b1, .inl (cL, 36, .inl (nA ba))), (b2, .inl (cL, 36, .inl (nA vi))), (b3, .inl (cI, 36, .inl (nA to))), (b4, .inl (cI, 6, .inl (mA rw))), (b5, .inl (cI, 6, .inl (mA li))), (b6, .inl (cI, 36, .inl (nA gi))), (b7, .inl (cI, 36, .inl (nA fl))), (b8, .inl (cI, 36, .inl (nA fo))), (b9, .inl (cI, 36, .inl (nA my)))] [(cI, .int), (cL, .boolean)] [.ref a, .int (nI cq)] (fun r u => r = nI (mStd w ba rw cq rr) ∧ u = [(a, .inr (5, [.int (nI w), .int (nI h), .int (nI (w * h)), .int (nI g), .ref b1, .ref b2, .ref b3, .int (nI bg), .int (nI tl), .int (nI sp), .int (nI th), .ref b4, .ref b5, .ref b6, .ref b7, .ref b8, .ref b9, .int (nI isf)])), (b1, .inl (cL, 36, .inl (nA ba))), (b2, .inl (cL, 36, .inl (nA vi))), (b3, .inl (cI, 36, .inl (nA to))), (b4, .inl (cI, 6, .inl (mA rw))), (b5, .inl (cI, 6, .inl (mA li))), (b6, .inl (cI, 36, .inl (nA gi))), (b7, .inl (cI, 36, .inl (nA fl))), (b8, .inl (cI, 36, .inl (nA fo))), (b9, .inl (cI, 36, .inl (nA my)))]) := by
  refine en_of (cc := b_MD_stands) (Qc := qI D [(cI, .int), (cL, .boolean)] (fun r u => r = nI (mStd w ba rw cq rr) ∧ u = [(a, .inr (5, [.int (nI w), .int (nI h), .int (nI (w * h)), .int (nI g), .ref b1, .ref b2, .ref b3, .int (nI bg), .int (nI tl), .int (nI sp), .int (nI th), .ref b4, .ref b5, .ref b6, .ref b7, .ref b8, .ref b9, .int (nI isf)])), (b1, .inl (cL, 36, .inl (nA ba))), (b2, .inl (cL, 36, .inl (nA vi))), (b3, .inl (cI, 36, .inl (nA to))), (b4, .inl (cI, 6, .inl (mA rw))), (b5, .inl (cI, 6, .inl (mA li))), (b6, .inl (cI, 36, .inl (nA gi))), (b7, .inl (cI, 36, .inl (nA fl))), (b8, .inl (cI, 36, .inl (nA fo))), (b9, .inl (cI, 36, .inl (nA my)))])) (by decide) rfl (Nat.le_of_ble_eq_true rfl) ?_
  intro p e s m below meth c A E hnm hP hD hS ls hl
  have hl : lv_has ls 4 [(0, .ref a), (1, .int (nI cq))] := hl
  obtain ⟨hx, hb, hml, hown, hts, hr, hlk, hA, hK, hN⟩ := id E
  have ho : ∀ q ∈ Om, q.before _ s = true := fun q h => hts q (List.mem_cons_of_mem _ h)
  have hce := ce_lt hcq hr0 hw6 hh6
  have hb9 := hba (cq + w * rr)
  refine lv_aload_n hx hb d_MD_stands_0 rfl (lv_at hl 0 rfl) ?_
  refine va_get (D := D) (ci := 5) (v := .ref b4) (C := R_MD) (T := F_MD) (N := 18) hx hb ho j_MD hown hK hP 0 rfl rfl 11 (by decide) (ho _ kf_MD_20) (fun _ h9 => h9) rfl d_MD_stands_1 ?_
  refine lv_iload_n hx hb d_MD_stands_4 rfl (lv_at hl 1 rfl) ?_
  refine nr_mald hx hb hK hP 4 0 rfl rfl (i := cq) (by omega) (by decide) d_MD_stands_5 ?_
  rw [hrr, nI_pred]
  refine lv_istore_n (lv' := [(2, .int (nI rr)), (0, .ref a), (1, .int (nI cq))]) hx hb d_MD_stands_6 rfl hl (by decide) rfl (fun ls hl => ?_)
  refine lv_aload_n hx hb d_MD_stands_7 rfl (lv_at hl 1 rfl) ?_
  refine va_get (D := D) (ci := 5) (v := .ref b1) (C := R_MD) (T := F_MD) (N := 18) hx hb ho j_MD hown hK hP 0 rfl rfl 4 (by decide) (ho _ kf_MD_7) (fun _ h9 => h9) rfl d_MD_stands_8 ?_
  refine lv_iload_n hx hb d_MD_stands_11 rfl (lv_at hl 2 rfl) ?_
  refine lv_aload_n hx hb d_MD_stands_12 rfl (lv_at hl 1 rfl) ?_
  refine va_get (D := D) (ci := 5) (v := .int (nI w)) (C := R_MD) (T := F_MD) (N := 18) hx hb ho j_MD hown hK hP 0 rfl rfl 0 (by decide) (ho _ kf_MD_42) (fun _ h9 => h9) rfl d_MD_stands_13 ?_
  refine lv_iload_n hx hb d_MD_stands_16 rfl (lv_at hl 0 rfl) ?_
  refine nr_imul hx hb d_MD_stands_17 ?_
  refine nr_iadd hx hb d_MD_stands_18 ?_
  refine nr_zald hx hb hK hP 1 1 rfl rfl (i := cq + (w * rr)) (by omega) (by decide) d_MD_stands_19 ?_
  refine nr_if_eq (tgt := 25) hx hb d_MD_stands_20 (by decide) (by omega) (fun h_1 => ?_) (fun h_1 => ?_)
  · refine lv_iconst (v := nI 0) hx hb d_MD_stands_25 (by decide) ?_
    refine lv_istore_n (lv' := [(3, .int (nI 0)), (2, .int (nI rr)), (0, .ref a), (1, .int (nI cq))]) hx hb d_MD_stands_26 rfl hl (by decide) rfl (fun ls hl => ?_)
    exact L_MD_stands a b1 b2 b3 b4 b5 b6 b7 b8 b9 w h g bg tl sp th isf ba vi to rw li gi fl fo my cq rr hcq hr0 hrr hw6 hh6 hba hrw hrw7 E 7 0 (by omega) (by omega) ⟨by unfold mStd; rw [if_pos (by omega)], rfl⟩ _ _ hP hD hS ls (lv_sub hl [2, 3, 1, 0] rfl)
  · refine lv_iconst (v := nI 0) hx hb d_MD_stands_23 (by decide) ?_
    exact rt_z E hP hD hS (by decide) ⟨by unfold mStd; rw [if_neg (by omega)], rfl⟩ d_MD_stands_24
abbrev GS : Type := (Nat → Nat) × (Nat → Nat) × Nat
def mCp (w : Nat) (rw : Nat → Nat) : Nat → Nat → (Nat → Nat) → Nat → Nat
  | 0, _, li => li
  | m + 1, k, li => if k < w then mCp w rw m (k + 1) (va_up li k (rw k)) else li
/-- one column from the row behind x on; go: the columns behind it -/
def gI (w h : Nat) (ba : Nat → Nat) (go : GS → Nat × GS) (c : Nat) : Nat → Nat → GS → Nat × GS
  | 0, _, st => (0, st)
  | m + 1, x, st => if x = h then (0, (va_up st.1 c (x + 1), st.2.1, st.2.2))
      else if mStd w ba (va_up st.1 c (x + 1)) c x = 0 then gI w h ba go c m (x + 1) (va_up st.1 c (x + 1), st.2.1, st.2.2)
      else if (go (va_up st.1 c (x + 1), st.2.1, st.2.2)).1 = 0 then gI w h ba go c m (x + 1) (go (va_up st.1 c (x + 1), st.2.1, st.2.2)).2
      else go (va_up st.1 c (x + 1), st.2.1, st.2.2)
/-- d columns are behind this one, in which a queen stands -/
def gP (w h : Nat) (ba : Nat → Nat) (up : Int32) : Nat → GS → Nat × GS
  | 0, st => (if nI (st.2.2 + 1) = up + 1 then 1 else 0, (st.1, if nI st.2.2 = up then mCp w st.1 (w + 1) 0 st.2.1 else st.2.1, st.2.2 + 1))
  | d + 1, st => gI w h ba (gP w h ba up d) (w - 1 - d) (h + 1) 0 (va_up st.1 (w - 1 - d) 0, st.2.1, st.2.2)
theorem gI_keeps {w h : Nat} {ba : Nat → Nat} {go : GS → Nat × GS} {c : Nat} (hg : ∀ st k, k ≤ c → (go st).2.1 k = st.1 k) : ∀ m x st k, k < c → (gI w h ba go c m x st).2.1 k = st.1 k := by
  intro m
  induction m with
  | zero => intro x st k _; rfl
  | succ m ih =>
    intro x st k hk
    have u : (va_up st.1 c (x + 1)) k = st.1 k := va_up_ne st.1 _ (by omega)
    rw [gI]
    split
    · exact u
    · split
      · rw [ih _ _ _ hk]; exact u
      · split
        · rw [ih _ _ _ hk, hg _ _ (by omega)]; exact u
        · rw [hg _ _ (by omega)]; exact u
theorem gP_keeps {w h : Nat} {ba : Nat → Nat} {up : Int32} : ∀ d st k, k + d < w → (gP w h ba up d st).2.1 k = st.1 k := by
  intro d
  induction d with
  | zero => intro st k _; rfl
  | succ d ih =>
    intro st k hk
    rw [gP, gI_keeps (fun st k hk2 => ih st k (by omega)) _ _ _ _ (by omega)]
    exact va_up_ne st.1 _ (by omega)
theorem gI_le {w h : Nat} {ba : Nat → Nat} {go : GS → Nat × GS} {c : Nat} (hh : h ≤ 6) (hg : ∀ st, (∀ k, st.1 k ≤ 7) → ∀ k, (go st).2.1 k ≤ 7) : ∀ m x st, x ≤ h → (∀ k, st.1 k ≤ 7) → ∀ k, (gI w h ba go c m x st).2.1 k ≤ 7 := by
  intro m
  induction m with
  | zero => intro x st _ h; exact h
  | succ m ih =>
    intro x st hx hs
    have u : ∀ k, (va_up st.1 c (x + 1)) k ≤ 7 := up_le hs (by omega)
    rw [gI]
    split
    · exact u
    · split
      · exact ih _ _ (by omega) u
      · split
        · exact ih _ _ (by omega) (hg _ u)
        · exact hg _ u
theorem gP_le {w h : Nat} {ba : Nat → Nat} {up : Int32} (hh : h ≤ 6) : ∀ d st, (∀ k, st.1 k ≤ 7) → ∀ k, (gP w h ba up d st).2.1 k ≤ 7 := by
  intro d
  induction d with
  | zero => intro st hs; exact hs
  | succ d ih =>
    intro st hs
    rw [gP]
    exact gI_le hh ih _ _ _ (Nat.zero_le _) (up_le hs (by omega))
