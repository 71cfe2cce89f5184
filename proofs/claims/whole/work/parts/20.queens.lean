/-! QueenSearch -/
def qsL (rows : Nat → Nat) (col row : Nat) : Nat → Nat → Nat
  | 0, _ => 1
  | n + 1, o => if o < col ∧ o < 6 then (if rows o - row + (row - rows o) = 0 ∨ rows o - row + (row - rows o) = col - o then 0 else qsL rows col row n (o + 1)) else 1
theorem qsL_1 (rows : Nat → Nat) (col row : Nat) : ∀ n o, qsL rows col row n o ≤ 1 := by
  intro n
  induction n with
  | zero => intro o; exact Nat.le_refl 1
  | succ n ih =>
    intro o
    rw [qsL]
    split
    · split
      · omega
      · exact ih _
    · omega
/-- may a queen stand at (col, row), the queens of the columns before standing in rows -/
def qsC (w f : Nat) (rows : Nat → Nat) (col row : Nat) : Nat := if f / 2 ^ (col + w * row) % 2 = 0 then 0 else qsL rows col row 7 0
theorem qsC_1 (w f : Nat) (rows : Nat → Nat) (col row : Nat) : qsC w f rows col row ≤ 1 := by
  unfold qsC
  split
  · omega
  · exact qsL_1 _ _ _ _ _
abbrev qSt : Type := (Nat → Nat) × Nat
/-- the rows of one column, gone through from 'row' on; go: the columns behind it -/
def qsI (w h f : Nat) (go : qSt → Nat × qSt) (col : Nat) : Nat → Nat → qSt → Nat × qSt
  | 0, _, st => (0, st)
  | n + 1, row, st => if row < h then (if qsC w f st.1 col row = 0 then qsI w h f go col n (row + 1) st else (if (go (va_up st.1 col row, st.2)).1 = 0 then qsI w h f go col n (row + 1) (go (va_up st.1 col row, st.2)).2 else (1, (go (va_up st.1 col row, st.2)).2))) else (0, st)
/-- d columns are left -/
def qsP (w h f : Nat) (way : Int32) : Nat → qSt → Nat × qSt
  | 0, st => (if nI st.2 = way then 1 else 0, (st.1, st.2 + 1))
  | d + 1, st => qsI w h f (qsP w h f way d) (w - (d + 1)) 7 0 st
set_option maxHeartbeats 1000000 in
set_option maxRecDepth 100000 in
theorem L_QS_canStand {p : Program} {l : Launch} {e : Env} {s : State} {m : MethodId} {args : Array Value} {below : List Frame} {meth : Method} {c : Code} {A : Nat → Prop} {D : va_G} {cI cL : ClassId} {c0 : Cond} {post : Int32 → va_W → Prop} (a q w h f sn col row : Nat) (rows : Nat → Nat) (hc : col < w) (hr0 : row < h) (hw : w ≤ 6) (hh : h ≤ 6) (hf : f < 2 ^ 36) (hrow : ∀ k, rows k < 6) (E : En p s m args meth c b_QS_canStand 5 (c0 :: Om) R_QS (some .boolean) A D [(cI, .int), (cL, .long)]) : ∀ (n : Nat) (o : Nat), o ≤ col → col < o + n → post (nI (qsL rows col row n o)) [(a, .inr (1, [.int (nI w), .int (nI h), .ref q, .long (lN f), .int (nI sn)])), (q, .inl (cI, 6, .inl (nA rows)))] → ∀ (H : Heap) (locs : List Loc), va_P D classes [(a, .inr (1, [.int (nI w), .int (nI h), .ref q, .long (lN f), .int (nI sn)])), (q, .inl (cI, 6, .inl (nA rows)))] H → va_D A [(a, .inr (1, [.int (nI w), .int (nI h), .ref q, .long (lN f), .int (nI sn)])), (q, .inl (cI, 6, .inl (nA rows)))] → va_S A s.heap H locs → ∀ ls : Array Slot, lv_has ls 5 [(0, .ref a), (1, .int (nI col)), (2, .int (nI row)), (3, .int (nI o))] → W p l e { frames := 1, cells := 0, slots := 0, locals := 21 } s m args below meth c H locs 0 0 (MQ below (qI D [(cI, .int), (cL, .long)] post A) args s 0 0 A) (F0 m 24 ls []) := by
  obtain ⟨hx, hb, hml, hown, hts, hr, hlk, hA, hK, hN⟩ := id E
  have ho : ∀ q ∈ Om, q.before _ s = true := fun q h => hts q (List.mem_cons_of_mem _ h)
  intro n
  induction n with
  | zero =>
    intro o h1 h2 hq
    exact absurd h2 (by omega)
  | succ n ih =>
    intro o h1 h2 hq H locs hP hD hS ls hl
    refine lv_iload_n hx hb d_QS_canStand_24 rfl (lv_at hl 3 rfl) ?_
    refine lv_iload_n hx hb d_QS_canStand_25 rfl (lv_at hl 1 rfl) ?_
    refine nr_icmp_ge (tgt := 69) hx hb d_QS_canStand_26 (by decide) (by omega) (by omega) (fun h_1 => ?_) (fun h_1 => ?_)
    · refine lv_iconst (v := nI 1) hx hb d_QS_canStand_69 (by decide) ?_
      exact rt_z E hP hD hS (by decide) (by rw [qsL, if_neg (by omega)] at hq; exact hq) d_QS_canStand_70
    · refine lv_iload_n hx hb d_QS_canStand_29 rfl (lv_at hl 3 rfl) ?_
      refine lv_bipush (v := nI 6) hx hb d_QS_canStand_30 (by decide) ?_
      refine nr_icmp_ge (tgt := 69) hx hb d_QS_canStand_32 (by decide) (by omega) (by omega) (fun h9 => absurd h9 (by omega)) (fun _ => ?_)
      refine lv_aload_n hx hb d_QS_canStand_35 rfl (lv_at hl 0 rfl) ?_
      refine va_get (D := D) (ci := 1) (v := .ref q) (C := R_QS) (T := F_QS) (N := 5) hx hb ho j_QS hown hK hP 0 rfl rfl 2 (by decide) (ho _ kf_QS_9) (fun _ h9 => h9) rfl d_QS_canStand_36 ?_
      refine lv_iload_n hx hb d_QS_canStand_39 rfl (lv_at hl 3 rfl) ?_
      have hro := hrow o
      refine nr_ialdN hx hb hK hP 1 0 rfl rfl (i := o) (by omega) (by decide) d_QS_canStand_40 ?_
      refine lv_iload_n hx hb d_QS_canStand_41 rfl (lv_at hl 2 rfl) ?_
      refine lv_isub hx hb d_QS_canStand_42 ?_
      refine va_mabs hx hb (hml.trans hl.1.symm) hown (ho _ km_QS_45) (ho _ kq_abs.1) (ho _ kz_MT) (ho _ kq_abs.2) (Nat.le_of_ble_eq_true rfl) (Nat.le_of_ble_eq_true rfl) (Nat.zero_le _) (Nat.zero_le _) d_QS_canStand_43 ?_
      rw [nr_abs0 (a := (rows o)) (b := row) (by omega) (by omega)]
      refine lv_istore (lv' := [(4, .int (nI ((rows o) - row + (row - (rows o))))), (0, .ref a), (1, .int (nI col)), (2, .int (nI row)), (3, .int (nI o))]) hx hb d_QS_canStand_46 hl (by decide) rfl (fun ls hl => ?_)
      refine lv_iload hx hb d_QS_canStand_48 (lv_at hl 0 rfl) ?_
      refine nr_if_eq (tgt := 61) hx hb d_QS_canStand_50 (by decide) (by omega) (fun h_2 => ?_) (fun h_2 => ?_)
      · refine lv_iconst (v := nI 0) hx hb d_QS_canStand_61 (by decide) ?_
        exact rt_z E hP hD hS (by decide) (by rw [qsL, if_pos ⟨by omega, by omega⟩, if_pos (by omega)] at hq; exact hq) d_QS_canStand_62
      · refine lv_iload hx hb d_QS_canStand_53 (lv_at hl 0 rfl) ?_
        refine lv_iload_n hx hb d_QS_canStand_55 rfl (lv_at hl 2 rfl) ?_
        refine lv_iload_n hx hb d_QS_canStand_56 rfl (lv_at hl 4 rfl) ?_
        refine nr_isub hx hb d_QS_canStand_57 (by omega) ?_
        refine nr_icmp_ne (tgt := 63) hx hb d_QS_canStand_58 (by decide) (by omega) (by omega) (fun h_3 => ?_) (fun h_3 => ?_)
        · refine nr_iinc (lv' := [(3, .int (nI (o + 1))), (4, .int (nI ((rows o) - row + (row - (rows o))))), (0, .ref a), (1, .int (nI col)), (2, .int (nI row))]) hx hb d_QS_canStand_63 hl (k := 4) rfl (by decide) rfl (fun ls hl => ?_)
          refine lv_goto (tgt := 24) hx hb d_QS_canStand_66 (by decide) ?_
          exact ih (o + 1) (by omega) (by omega) (by rw [qsL, if_pos ⟨by omega, by omega⟩, if_neg (by omega)] at hq; exact hq) _ _ hP hD hS ls (lv_sub hl [2, 3, 4, 0] rfl)
        · refine lv_iconst (v := nI 0) hx hb d_QS_canStand_61 (by decide) ?_
          exact rt_z E hP hD hS (by decide) (by rw [qsL, if_pos ⟨by omega, by omega⟩, if_pos (by omega)] at hq; exact hq) d_QS_canStand_62
set_option maxHeartbeats 1000000 in
set_option maxRecDepth 100000 in
theorem c_QS_canStand (l : Launch) (D : va_G) (cI cL : ClassId) (a q w h f sn col row : Nat) (rows : Nat → Nat) (hc : col < w) (hr0 : row < h) (hw : w ≤ 6) (hh : h ≤ 6) (hf : f < 2 ^ 36) (hrow : ∀ k, rows k < 6) : CI l y_QS_canStand (.code y_QS_canStand b_QS_canStand 5 (some .boolean) :: Om) { frames := 1, cells := 0, slots := 0, locals := 21 } D [(a, .inr (1, [.int (nI w), .int (nI h), .ref q, .long (lN f), .int (nI sn)])), (q, .inl (cI, 6, .inl (nA rows)))] [(cI, .int), (cL, .long)] [.ref a, .int (nI col), .int (nI row)] (fun r u => r = nI (qsC w f rows col row) ∧ u = [(a, .inr (1, [.int (nI w), .int (nI h), .ref q, .long (lN f), .int (nI sn)])), (q, .inl (cI, 6, .inl (nA rows)))]) := by
  refine en_of (cc := b_QS_canStand) (Qc := qI D [(cI, .int), (cL, .long)] (fun r u => r = nI (qsC w f rows col row) ∧ u = [(a, .inr (1, [.int (nI w), .int (nI h), .ref q, .long (lN f), .int (nI sn)])), (q, .inl (cI, 6, .inl (nA rows)))])) (by decide) rfl (Nat.le_of_ble_eq_true rfl) ?_
  intro p e s m below meth c A E hnm hP hD hS ls hl
  have hl : lv_has ls 5 [(0, .ref a), (1, .int (nI col)), (2, .int (nI row))] := hl
  obtain ⟨hx, hb, hml, hown, hts, hr, hlk, hA, hK, hN⟩ := id E
  have ho : ∀ q ∈ Om, q.before _ s = true := fun q h => hts q (List.mem_cons_of_mem _ h)
  have hk := ce_lt hc hr0 hw hh
  refine lv_aload_n hx hb d_QS_canStand_0 rfl (lv_at hl 0 rfl) ?_
  refine va_get (D := D) (ci := 1) (v := .long (lN f)) (C := R_QS) (T := F_QS) (N := 5) hx hb ho j_QS hown hK hP 0 rfl rfl 3 (by decide) (ho _ kf_QS_28) (fun _ h9 => h9) rfl d_QS_canStand_1 ?_
  refine lv_iload_n hx hb d_QS_canStand_4 rfl (lv_at hl 1 rfl) ?_
  refine lv_aload_n hx hb d_QS_canStand_5 rfl (lv_at hl 0 rfl) ?_
  refine va_get (D := D) (ci := 1) (v := .int (nI w)) (C := R_QS) (T := F_QS) (N := 5) hx hb ho j_QS hown hK hP 0 rfl rfl 0 (by decide) (ho _ kf_QS_21) (fun _ h9 => h9) rfl d_QS_canStand_6 ?_
  refine lv_iload_n hx hb d_QS_canStand_9 rfl (lv_at hl 2 rfl) ?_
  refine nr_imul hx hb d_QS_canStand_10 ?_
  refine nr_iadd hx hb d_QS_canStand_11 ?_
  refine nr_lushr hx hb d_QS_canStand_12 (by omega) (by omega) ?_
  refine lv_lconst (v := lN 1) hx hb d_QS_canStand_13 rfl ?_
  refine nr_land1 hx hb d_QS_canStand_14 ?_
  refine lv_lconst (v := lN 0) hx hb d_QS_canStand_15 rfl ?_
  refine nr_lcmp_ne (tgt := 22) hx hb d_QS_canStand_16 d_QS_canStand_17 (by decide) (by omega) (by omega) (fun h_1 => ?_) (fun h_1 => ?_)
  · refine lv_iconst (v := nI 0) hx hb d_QS_canStand_22 (by decide) ?_
    refine lv_istore_n (lv' := [(3, .int (nI 0)), (0, .ref a), (1, .int (nI col)), (2, .int (nI row))]) hx hb d_QS_canStand_23 rfl hl (by decide) rfl (fun ls hl => ?_)
    exact L_QS_canStand a q w h f sn col row rows hc hr0 hw hh hf hrow E 7 0 (by omega) (by omega) ⟨by unfold qsC; rw [if_neg (by omega)], rfl⟩ _ _ hP hD hS ls (lv_sub hl [1, 2, 3, 0] rfl)
  · refine lv_iconst (v := nI 0) hx hb d_QS_canStand_20 (by decide) ?_
    exact rt_z E hP hD hS (by decide) ⟨by unfold qsC; rw [if_pos (by omega)], rfl⟩ d_QS_canStand_21
theorem qsI_1 {w h f : Nat} {go : qSt → Nat × qSt} {col : Nat} (hg : ∀ st, (∀ k, st.1 k < 6) → (go st).1 ≤ 1 ∧ ∀ k, (go st).2.1 k < 6) (hh : h ≤ 6) : ∀ n row st, (∀ k, st.1 k < 6) → (qsI w h f go col n row st).1 ≤ 1 ∧ ∀ k, (qsI w h f go col n row st).2.1 k < 6 := by
  intro n
  induction n with
  | zero => intro row st hs; exact ⟨Nat.zero_le 1, hs⟩
  | succ n ih =>
    intro row st hs
    have hu : row < h → ∀ k, (va_up st.1 col row) k < 6 := fun hr k => by
      unfold va_up
      split
      · omega
      · exact hs k
    rw [qsI]
    split
    · split
      · exact ih _ _ hs
      · split
        · exact ih _ _ (hg _ (hu (by assumption))).2
        · exact ⟨Nat.le_refl 1, (hg _ (hu (by assumption))).2⟩
    · exact ⟨Nat.zero_le 1, hs⟩
theorem qsP_1 {w h f : Nat} {way : Int32} (hh : h ≤ 6) : ∀ d st, (∀ k, st.1 k < 6) → (qsP w h f way d st).1 ≤ 1 ∧ ∀ k, (qsP w h f way d st).2.1 k < 6 := by
  intro d
  induction d with
  | zero =>
    intro st hs
    refine ⟨?_, hs⟩
    rw [qsP]
    dsimp only
    split <;> omega
  | succ d ih =>
    intro st hs
    rw [qsP]
    exact qsI_1 ih hh _ _ _ hs
set_option maxHeartbeats 1000000 in
set_option maxRecDepth 100000 in
theorem L_QS_placeIn {p : Program} {l : Launch} {e : Env} {s : State} {m : MethodId} {args : Array Value} {below : List Frame} {meth : Method} {c : Code} {A : Nat → Prop} {D : va_G} {cI cL : ClassId} {c0 : Cond} {post : Int32 → va_W → Prop} (a q w h f d : Nat) (way : Int32) (hd : d + 1 ≤ w) (hw : w ≤ 6) (hh : h ≤ 6) (hf : f < 2 ^ 36) (hF : ∀ (rows : Nat → Nat) (sn : Nat), (∀ k, rows k < 6) → CI l y_QS_placeFrom (.code y_QS_placeFrom b_QS_placeFrom 3 (some .boolean) :: Om) { frames := 2 * d + 1, cells := 0, slots := 0, locals := 50 * d + 50 } D [(a, .inr (1, [.int (nI w), .int (nI h), .ref q, .long (lN f), .int (nI sn)])), (q, .inl (cI, 6, .inl (nA rows)))] [(cI, .int), (cL, .long)] [.ref a, .int (nI (w - d)), .int way] (fun r u => r = nI (qsP w h f way d (rows, sn)).1 ∧ u = [(a, .inr (1, [.int (nI w), .int (nI h), .ref q, .long (lN f), .int (nI ((qsP w h f way d (rows, sn)).2.2))])), (q, .inl (cI, 6, .inl (nA ((qsP w h f way d (rows, sn)).2.1))))])) (E : En p s m args meth c b_QS_placeIn 4 (c0 :: Om) R_QS (some .boolean) A D [(cI, .int), (cL, .long)]) : ∀ (n : Nat) (rows : Nat → Nat) (sn : Nat) (row : Nat), (∀ k, rows k < 6) → row ≤ h → h < row + n → post (nI (qsI w h f (qsP w h f way d) (w - (d + 1)) n row (rows, sn)).1) [(a, .inr (1, [.int (nI w), .int (nI h), .ref q, .long (lN f), .int (nI ((qsI w h f (qsP w h f way d) (w - (d + 1)) n row (rows, sn)).2.2))])), (q, .inl (cI, 6, .inl (nA ((qsI w h f (qsP w h f way d) (w - (d + 1)) n row (rows, sn)).2.1))))] → ∀ (H : Heap) (locs : List Loc), va_P D classes [(a, .inr (1, [.int (nI w), .int (nI h), .ref q, .long (lN f), .int (nI sn)])), (q, .inl (cI, 6, .inl (nA rows)))] H → va_D A [(a, .inr (1, [.int (nI w), .int (nI h), .ref q, .long (lN f), .int (nI sn)])), (q, .inl (cI, 6, .inl (nA rows)))] → va_S A s.heap H locs → ∀ ls : Array Slot, lv_has ls 4 [(0, .ref a), (1, .int (nI (w - (d + 1)))), (2, .int way), (3, .int (nI row))] → W p l e { frames := 2 * (d + 1), cells := 0, slots := 0, locals := 50 * (d + 1) + 22 } s m args below meth c H locs 0 0 (MQ below (qI D [(cI, .int), (cL, .long)] post A) args s 0 0 A) (F0 m 16 ls []) := by
  obtain ⟨hx, hb, hml, hown, hts, hr, hlk, hA, hK, hN⟩ := id E
  have ho : ∀ q ∈ Om, q.before _ s = true := fun q h => hts q (List.mem_cons_of_mem _ h)
  intro n
  induction n with
  | zero =>
    intro rows sn row hrow h1 h2 hq
    exact absurd h2 (by omega)
  | succ n ih =>
    intro rows sn row hrow h1 h2 hq H locs hP hD hS ls hl
    refine lv_iload_n hx hb d_QS_placeIn_16 rfl (lv_at hl 3 rfl) ?_
    refine lv_aload_n hx hb d_QS_placeIn_17 rfl (lv_at hl 0 rfl) ?_
    refine va_get (D := D) (ci := 1) (v := .int (nI h)) (C := R_QS) (T := F_QS) (N := 5) hx hb ho j_QS hown hK hP 0 rfl rfl 1 (by decide) (ho _ kf_QS_25) (fun _ h9 => h9) rfl d_QS_placeIn_18 ?_
    refine nr_icmp_ge (tgt := 59) hx hb d_QS_placeIn_21 (by decide) (by omega) (by omega) (fun h_1 => ?_) (fun h_1 => ?_)
    · refine lv_iconst (v := nI 0) hx hb d_QS_placeIn_59 (by decide) ?_
      exact rt_z E hP hD hS (by decide) (by rw [qsI, if_neg (by omega)] at hq; exact hq) d_QS_placeIn_60
    · have hq1 := qsC_1 w f rows (w - (d + 1)) row
      refine lv_aload_n hx hb d_QS_placeIn_24 rfl (lv_at hl 0 rfl) ?_
      refine lv_iload_n hx hb d_QS_placeIn_25 rfl (lv_at hl 1 rfl) ?_
      refine lv_iload_n hx hb d_QS_placeIn_26 rfl (lv_at hl 3 rfl) ?_
      refine af_i (wc := [(a, .inr (1, [.int (nI w), .int (nI h), .ref q, .long (lN f), .int (nI sn)])), (q, .inl (cI, 6, .inl (nA rows)))]) (wr := []) (rest := []) [0, 1] [] hP hD hS hA rfl rfl (by decide) (by decide) (rn_V E (As := [.int (nI (w - (d + 1))), .int (nI row)]) m_QS_canStand km_QS_42 (c_QS_canStand l D cI cL a q w h f sn (w - (d + 1)) row rows (by omega) (by omega) hw hh hf hrow _) ⟨rfl, rfl, by dsimp only; omega, by dsimp only; omega⟩ (hP.sub [0, 1] rfl) (hD.sub [0, 1] (by decide) rfl) (q0 := 0) (ci := 1) rfl rfl rfl hl.1 rfl (Nat.le_of_ble_eq_true rfl) ⟨Nat.le_of_ble_eq_true rfl, Nat.le_of_ble_eq_true rfl⟩ d_QS_placeIn_27) (fun r_3 u_2 H locs hw hP hD hS => ?_)
      obtain ⟨rfl, rfl⟩ := hw
      have hP : va_P D classes [(a, .inr (1, [.int (nI w), .int (nI h), .ref q, .long (lN f), .int (nI sn)])), (q, .inl (cI, 6, .inl (nA rows)))] H := hP
      have hD : va_D A [(a, .inr (1, [.int (nI w), .int (nI h), .ref q, .long (lN f), .int (nI sn)])), (q, .inl (cI, 6, .inl (nA rows)))] := hD
      refine nr_if_eq (tgt := 53) hx hb d_QS_placeIn_30 (by decide) (by omega) (fun h_4 => ?_) (fun h_4 => ?_)
      · refine nr_iinc (lv' := [(3, .int (nI (row + 1))), (0, .ref a), (1, .int (nI (w - (d + 1)))), (2, .int way)]) hx hb d_QS_placeIn_53 hl (k := 3) rfl (by decide) rfl (fun ls hl => ?_)
        refine lv_goto (tgt := 16) hx hb d_QS_placeIn_56 (by decide) ?_
        exact ih rows sn (row + 1) hrow (by omega) (by omega) (by rw [qsI, if_pos (by omega), if_pos (by omega)] at hq; exact hq) _ _ hP hD hS ls (lv_sub hl [1, 2, 3, 0] rfl)
      · refine lv_aload_n hx hb d_QS_placeIn_33 rfl (lv_at hl 0 rfl) ?_
        refine va_get (D := D) (ci := 1) (v := .ref q) (C := R_QS) (T := F_QS) (N := 5) hx hb ho j_QS hown hK hP 0 rfl rfl 2 (by decide) (ho _ kf_QS_9) (fun _ h9 => h9) rfl d_QS_placeIn_34 ?_
        refine lv_iload_n hx hb d_QS_placeIn_37 rfl (lv_at hl 1 rfl) ?_
        refine lv_iload_n hx hb d_QS_placeIn_38 rfl (lv_at hl 3 rfl) ?_
        refine nr_iast hx hb hK hP hD hS 1 0 rfl rfl (i := w - (d + 1)) (x := row) (by omega) (by decide) d_QS_placeIn_39 (fun H locs hP hD hS => ?_)
        have hP : va_P D classes [(a, .inr (1, [.int (nI w), .int (nI h), .ref q, .long (lN f), .int (nI sn)])), (q, .inl (cI, 6, .inl (nA (va_up rows (w - (d + 1)) row))))] H := hP
        have hD : va_D A [(a, .inr (1, [.int (nI w), .int (nI h), .ref q, .long (lN f), .int (nI sn)])), (q, .inl (cI, 6, .inl (nA (va_up rows (w - (d + 1)) row))))] := hD
        refine lv_aload_n hx hb d_QS_placeIn_40 rfl (lv_at hl 0 rfl) ?_
        refine lv_iload_n hx hb d_QS_placeIn_41 rfl (lv_at hl 1 rfl) ?_
        refine lv_iconst (v := nI 1) hx hb d_QS_placeIn_42 (by decide) ?_
        refine nr_iadd hx hb d_QS_placeIn_43 ?_
        refine lv_iload_n hx hb d_QS_placeIn_44 rfl (lv_at hl 2 rfl) ?_
        have hup : ∀ k, (va_up rows (w - (d + 1)) row) k < 6 := fun k => by unfold va_up; split; (first | omega | exact hrow k); (first | omega | exact hrow k)
        have hr1 := qsP_1 (w := w) (f := f) (way := way) hh d (va_up rows (w - (d + 1)) row, sn) hup
        rw [show w - (d + 1) + 1 = w - d by omega]
        refine af_i (wc := [(a, .inr (1, [.int (nI w), .int (nI h), .ref q, .long (lN f), .int (nI sn)])), (q, .inl (cI, 6, .inl (nA (va_up rows (w - (d + 1)) row))))]) (wr := []) (rest := []) [0, 1] [] hP hD hS hA rfl rfl (by decide) (by decide) (rn_V E (As := [.int (nI (w - d)), .int way]) m_QS_placeFrom km_QS_35 (hF (va_up rows (w - (d + 1)) row) sn hup _) ⟨rfl, rfl, by dsimp only; omega, by dsimp only; omega⟩ (hP.sub [0, 1] rfl) (hD.sub [0, 1] (by decide) rfl) (q0 := 0) (ci := 1) rfl rfl rfl hl.1 rfl (Nat.le_of_ble_eq_true rfl) ⟨Nat.le_of_ble_eq_true rfl, Nat.le_of_ble_eq_true rfl⟩ d_QS_placeIn_45) (fun r_6 u_5 H locs hw hP hD hS => ?_)
        obtain ⟨rfl, rfl⟩ := hw
        have hP : va_P D classes [(a, .inr (1, [.int (nI w), .int (nI h), .ref q, .long (lN f), .int (nI ((qsP w h f way d (va_up rows (w - (d + 1)) row, sn)).2.2))])), (q, .inl (cI, 6, .inl (nA ((qsP w h f way d (va_up rows (w - (d + 1)) row, sn)).2.1))))] H := hP
        have hD : va_D A [(a, .inr (1, [.int (nI w), .int (nI h), .ref q, .long (lN f), .int (nI ((qsP w h f way d (va_up rows (w - (d + 1)) row, sn)).2.2))])), (q, .inl (cI, 6, .inl (nA ((qsP w h f way d (va_up rows (w - (d + 1)) row, sn)).2.1))))] := hD
        refine nr_if_eq (tgt := 53) hx hb d_QS_placeIn_48 (by decide) (by omega) (fun h_7 => ?_) (fun h_7 => ?_)
        · refine nr_iinc (lv' := [(3, .int (nI (row + 1))), (0, .ref a), (1, .int (nI (w - (d + 1)))), (2, .int way)]) hx hb d_QS_placeIn_53 hl (k := 3) rfl (by decide) rfl (fun ls hl => ?_)
          refine lv_goto (tgt := 16) hx hb d_QS_placeIn_56 (by decide) ?_
          exact ih ((qsP w h f way d (va_up rows (w - (d + 1)) row, sn)).2.1) ((qsP w h f way d (va_up rows (w - (d + 1)) row, sn)).2.2) (row + 1) hr1.2 (by omega) (by omega) (by rw [qsI] at hq; dsimp only at hq; rw [if_pos (by omega), if_neg (by omega), if_pos (by omega)] at hq; exact hq) _ _ hP hD hS ls (lv_sub hl [1, 2, 3, 0] rfl)
        · refine lv_iconst (v := nI 1) hx hb d_QS_placeIn_51 (by decide) ?_
          exact rt_z E hP hD hS (by decide) (by rw [qsI] at hq; dsimp only at hq; rw [if_pos (by omega), if_neg (by omega), if_neg (by omega)] at hq; exact hq) d_QS_placeIn_52
set_option maxHeartbeats 1000000 in
set_option maxRecDepth 100000 in
theorem c_QS_placeIn (l : Launch) (D : va_G) (cI cL : ClassId) (a q w h f d : Nat) (way : Int32) (hd : d + 1 ≤ w) (hw : w ≤ 6) (hh : h ≤ 6) (hf : f < 2 ^ 36) (hF : ∀ (rows : Nat → Nat) (sn : Nat), (∀ k, rows k < 6) → CI l y_QS_placeFrom (.code y_QS_placeFrom b_QS_placeFrom 3 (some .boolean) :: Om) { frames := 2 * d + 1, cells := 0, slots := 0, locals := 50 * d + 50 } D [(a, .inr (1, [.int (nI w), .int (nI h), .ref q, .long (lN f), .int (nI sn)])), (q, .inl (cI, 6, .inl (nA rows)))] [(cI, .int), (cL, .long)] [.ref a, .int (nI (w - d)), .int way] (fun r u => r = nI (qsP w h f way d (rows, sn)).1 ∧ u = [(a, .inr (1, [.int (nI w), .int (nI h), .ref q, .long (lN f), .int (nI ((qsP w h f way d (rows, sn)).2.2))])), (q, .inl (cI, 6, .inl (nA ((qsP w h f way d (rows, sn)).2.1))))])) (rows : Nat → Nat) (sn : Nat) (hrow : ∀ k, rows k < 6) : CI l y_QS_placeIn (.code y_QS_placeIn b_QS_placeIn 4 (some .boolean) :: Om) { frames := 2 * (d + 1), cells := 0, slots := 0, locals := 50 * (d + 1) + 22 } D [(a, .inr (1, [.int (nI w), .int (nI h), .ref q, .long (lN f), .int (nI sn)])), (q, .inl (cI, 6, .inl (nA rows)))] [(cI, .int), (cL, .long)] [.ref a, .int (nI (w - (d + 1))), .int way] (fun r u => r = nI (qsP w h f way (d + 1) (rows, sn)).1 ∧ u = [(a, .inr (1, [.int (nI w), .int (nI h), .ref q, .long (lN f), .int (nI ((qsP w h f way (d + 1) (rows, sn)).2.2))])), (q, .inl (cI, 6, .inl (nA ((qsP w h f way (d + 1) (rows, sn)).2.1))))]) := by
  refine en_of (cc := b_QS_placeIn) (Qc := qI D [(cI, .int), (cL, .long)] (fun r u => r = nI (qsP w h f way (d + 1) (rows, sn)).1 ∧ u = [(a, .inr (1, [.int (nI w), .int (nI h), .ref q, .long (lN f), .int (nI ((qsP w h f way (d + 1) (rows, sn)).2.2))])), (q, .inl (cI, 6, .inl (nA ((qsP w h f way (d + 1) (rows, sn)).2.1))))])) (by decide) rfl (Nat.le_of_ble_eq_true rfl) ?_
  intro p e s m below meth c A E hnm hP hD hS ls hl
  have hl : lv_has ls 4 [(0, .ref a), (1, .int (nI (w - (d + 1)))), (2, .int way)] := hl
  obtain ⟨hx, hb, hml, hown, hts, hr, hlk, hA, hK, hN⟩ := id E
  have ho : ∀ q ∈ Om, q.before _ s = true := fun q h => hts q (List.mem_cons_of_mem _ h)
  refine lv_iload_n hx hb d_QS_placeIn_0 rfl (lv_at hl 1 rfl) ?_
  refine nr_if_lt (tgt := 12) hx hb d_QS_placeIn_1 (by decide) (by omega) ?_
  refine lv_iload_n hx hb d_QS_placeIn_4 rfl (lv_at hl 1 rfl) ?_
  refine lv_aload_n hx hb d_QS_placeIn_5 rfl (lv_at hl 0 rfl) ?_
  refine va_get (D := D) (ci := 1) (v := .int (nI w)) (C := R_QS) (T := F_QS) (N := 5) hx hb ho j_QS hown hK hP 0 rfl rfl 0 (by decide) (ho _ kf_QS_21) (fun _ h9 => h9) rfl d_QS_placeIn_6 ?_
  refine nr_icmp_lt (tgt := 14) hx hb d_QS_placeIn_9 (by decide) (by omega) (by omega) (fun _ => ?_) (fun h9 => absurd h9 (by omega))
  refine lv_iconst (v := nI 0) hx hb d_QS_placeIn_14 (by decide) ?_
  refine lv_istore_n (lv' := [(3, .int (nI 0)), (0, .ref a), (1, .int (nI (w - (d + 1)))), (2, .int way)]) hx hb d_QS_placeIn_15 rfl hl (by decide) rfl (fun ls hl => ?_)
  exact L_QS_placeIn a q w h f d way hd hw hh hf hF E 7 rows sn 0 hrow (by omega) (by omega) ⟨rfl, rfl⟩ _ _ hP hD hS ls (lv_sub hl [1, 2, 3, 0] rfl)
set_option maxHeartbeats 1000000 in
set_option maxRecDepth 100000 in
theorem c_QS_place0 (l : Launch) (D : va_G) (cI cL : ClassId) (a q w h f : Nat) (way : Int32) (hw : w ≤ 6) (hh : h ≤ 6) (hf : f < 2 ^ 36) (rows : Nat → Nat) (sn : Nat) : CI l y_QS_placeFrom (.code y_QS_placeFrom b_QS_placeFrom 3 (some .boolean) :: Om) { frames := 2 * 0 + 1, cells := 0, slots := 0, locals := 50 * 0 + 50 } D [(a, .inr (1, [.int (nI w), .int (nI h), .ref q, .long (lN f), .int (nI sn)])), (q, .inl (cI, 6, .inl (nA rows)))] [(cI, .int), (cL, .long)] [.ref a, .int (nI (w - 0)), .int way] (fun r u => r = nI (qsP w h f way 0 (rows, sn)).1 ∧ u = [(a, .inr (1, [.int (nI w), .int (nI h), .ref q, .long (lN f), .int (nI ((qsP w h f way 0 (rows, sn)).2.2))])), (q, .inl (cI, 6, .inl (nA ((qsP w h f way 0 (rows, sn)).2.1))))]) := by
  refine en_of (cc := b_QS_placeFrom) (Qc := qI D [(cI, .int), (cL, .long)] (fun r u => r = nI (qsP w h f way 0 (rows, sn)).1 ∧ u = [(a, .inr (1, [.int (nI w), .int (nI h), .ref q, .long (lN f), .int (nI ((qsP w h f way 0 (rows, sn)).2.2))])), (q, .inl (cI, 6, .inl (nA ((qsP w h f way 0 (rows, sn)).2.1))))])) (by decide) rfl (Nat.le_of_ble_eq_true rfl) ?_
  intro p e s m below meth c A E hnm hP hD hS ls hl
  have hl : lv_has ls 3 [(0, .ref a), (1, .int (nI (w - 0))), (2, .int way)] := hl
  obtain ⟨hx, hb, hml, hown, hts, hr, hlk, hA, hK, hN⟩ := id E
  have ho : ∀ q ∈ Om, q.before _ s = true := fun q h => hts q (List.mem_cons_of_mem _ h)
  refine lv_iload_n hx hb d_QS_placeFrom_0 rfl (lv_at hl 1 rfl) ?_
  refine lv_aload_n hx hb d_QS_placeFrom_1 rfl (lv_at hl 0 rfl) ?_
  refine va_get (D := D) (ci := 1) (v := .int (nI w)) (C := R_QS) (T := F_QS) (N := 5) hx hb ho j_QS hown hK hP 0 rfl rfl 0 (by decide) (ho _ kf_QS_21) (fun _ h9 => h9) rfl d_QS_placeFrom_2 ?_
  refine nr_icmp_ge (tgt := 15) hx hb d_QS_placeFrom_5 (by decide) (by omega) (by omega) (fun _ => ?_) (fun h9 => absurd h9 (by omega))
  refine lv_aload_n hx hb d_QS_placeFrom_15 rfl (lv_at hl 0 rfl) ?_
  refine lv_dup hx hb d_QS_placeFrom_16 rfl ?_
  refine va_get (D := D) (ci := 1) (v := .int (nI sn)) (C := R_QS) (T := F_QS) (N := 5) hx hb ho j_QS hown hK hP 0 rfl rfl 4 (by decide) (ho _ kf_QS_32) (fun _ h9 => h9) rfl d_QS_placeFrom_17 ?_
  refine lv_iconst (v := nI 1) hx hb d_QS_placeFrom_20 (by decide) ?_
  refine nr_iadd hx hb d_QS_placeFrom_21 ?_
  refine va_put (D := D) (ci := 1) (v := .int (nI (sn + 1))) (ty := .int) (C := R_QS) (T := F_QS) (N := 5) hx hb ho j_QS t_QS t_QS_ok n_QS hown hK hP hD hS 0 rfl rfl 4 (by decide) (ho _ kf_QS_32) (fun _ h9 => h9) rfl (by decide +kernel) rfl rfl (Nat.le_of_ble_eq_true rfl) d_QS_placeFrom_22 (fun H locs hP hD hS => ?_)
  have hP : va_P D classes [(a, .inr (1, [.int (nI w), .int (nI h), .ref q, .long (lN f), .int (nI (sn + 1))])), (q, .inl (cI, 6, .inl (nA rows)))] H := hP
  have hD : va_D A [(a, .inr (1, [.int (nI w), .int (nI h), .ref q, .long (lN f), .int (nI (sn + 1))])), (q, .inl (cI, 6, .inl (nA rows)))] := hD
  refine lv_aload_n hx hb d_QS_placeFrom_25 rfl (lv_at hl 0 rfl) ?_
  refine va_get (D := D) (ci := 1) (v := .int (nI (sn + 1))) (C := R_QS) (T := F_QS) (N := 5) hx hb ho j_QS hown hK hP 0 rfl rfl 4 (by decide) (ho _ kf_QS_32) (fun _ h9 => h9) rfl d_QS_placeFrom_26 ?_
  refine lv_iconst (v := nI 1) hx hb d_QS_placeFrom_29 (by decide) ?_
  refine nr_isub hx hb d_QS_placeFrom_30 (by omega) ?_
  refine lv_iload_n hx hb d_QS_placeFrom_31 rfl (lv_at hl 2 rfl) ?_
  refine lv_icmp_ne (tgt := 39) hx hb d_QS_placeFrom_32 (by decide) (fun h_1 => ?_) (fun h_1 => ?_)
  · refine lv_iconst (v := nI 0) hx hb d_QS_placeFrom_39 (by decide) ?_
    exact rt_z E hP hD hS (by decide) ⟨by rw [qsP]; rw [Nat.add_sub_cancel] at h_1; simp [h_1], rfl⟩ d_QS_placeFrom_40
  · refine lv_iconst (v := nI 1) hx hb d_QS_placeFrom_35 (by decide) ?_
    refine lv_goto (tgt := 40) hx hb d_QS_placeFrom_36 (by decide) ?_
    exact rt_z E hP hD hS (by decide) ⟨by rw [qsP]; rw [Nat.add_sub_cancel] at h_1; simp [h_1], rfl⟩ d_QS_placeFrom_40
set_option maxHeartbeats 1000000 in
set_option maxRecDepth 100000 in
theorem c_QS_placeS (l : Launch) (D : va_G) (cI cL : ClassId) (a q w h f d : Nat) (way : Int32) (hd : d + 1 ≤ w) (hw : w ≤ 6) (hh : h ≤ 6) (hf : f < 2 ^ 36) (hF : ∀ (rows : Nat → Nat) (sn : Nat), (∀ k, rows k < 6) → CI l y_QS_placeFrom (.code y_QS_placeFrom b_QS_placeFrom 3 (some .boolean) :: Om) { frames := 2 * d + 1, cells := 0, slots := 0, locals := 50 * d + 50 } D [(a, .inr (1, [.int (nI w), .int (nI h), .ref q, .long (lN f), .int (nI sn)])), (q, .inl (cI, 6, .inl (nA rows)))] [(cI, .int), (cL, .long)] [.ref a, .int (nI (w - d)), .int way] (fun r u => r = nI (qsP w h f way d (rows, sn)).1 ∧ u = [(a, .inr (1, [.int (nI w), .int (nI h), .ref q, .long (lN f), .int (nI ((qsP w h f way d (rows, sn)).2.2))])), (q, .inl (cI, 6, .inl (nA ((qsP w h f way d (rows, sn)).2.1))))])) (rows : Nat → Nat) (sn : Nat) (hrow : ∀ k, rows k < 6) : CI l y_QS_placeFrom (.code y_QS_placeFrom b_QS_placeFrom 3 (some .boolean) :: Om) { frames := 2 * (d + 1) + 1, cells := 0, slots := 0, locals := 50 * (d + 1) + 50 } D [(a, .inr (1, [.int (nI w), .int (nI h), .ref q, .long (lN f), .int (nI sn)])), (q, .inl (cI, 6, .inl (nA rows)))] [(cI, .int), (cL, .long)] [.ref a, .int (nI (w - (d + 1))), .int way] (fun r u => r = nI (qsP w h f way (d + 1) (rows, sn)).1 ∧ u = [(a, .inr (1, [.int (nI w), .int (nI h), .ref q, .long (lN f), .int (nI ((qsP w h f way (d + 1) (rows, sn)).2.2))])), (q, .inl (cI, 6, .inl (nA ((qsP w h f way (d + 1) (rows, sn)).2.1))))]) := by
  refine en_of (cc := b_QS_placeFrom) (Qc := qI D [(cI, .int), (cL, .long)] (fun r u => r = nI (qsP w h f way (d + 1) (rows, sn)).1 ∧ u = [(a, .inr (1, [.int (nI w), .int (nI h), .ref q, .long (lN f), .int (nI ((qsP w h f way (d + 1) (rows, sn)).2.2))])), (q, .inl (cI, 6, .inl (nA ((qsP w h f way (d + 1) (rows, sn)).2.1))))])) (by decide) rfl (Nat.le_of_ble_eq_true rfl) ?_
  intro p e s m below meth c A E hnm hP hD hS ls hl
  have hl : lv_has ls 3 [(0, .ref a), (1, .int (nI (w - (d + 1)))), (2, .int way)] := hl
  obtain ⟨hx, hb, hml, hown, hts, hr, hlk, hA, hK, hN⟩ := id E
  have ho : ∀ q ∈ Om, q.before _ s = true := fun q h => hts q (List.mem_cons_of_mem _ h)
  have hr1 := qsP_1 (w := w) (f := f) (way := way) hh (d + 1) (rows, sn) hrow
  refine lv_iload_n hx hb d_QS_placeFrom_0 rfl (lv_at hl 1 rfl) ?_
  refine lv_aload_n hx hb d_QS_placeFrom_1 rfl (lv_at hl 0 rfl) ?_
  refine va_get (D := D) (ci := 1) (v := .int (nI w)) (C := R_QS) (T := F_QS) (N := 5) hx hb ho j_QS hown hK hP 0 rfl rfl 0 (by decide) (ho _ kf_QS_21) (fun _ h9 => h9) rfl d_QS_placeFrom_2 ?_
  refine nr_icmp_ge (tgt := 15) hx hb d_QS_placeFrom_5 (by decide) (by omega) (by omega) (fun h9 => absurd h9 (by omega)) (fun _ => ?_)
  refine lv_aload_n hx hb d_QS_placeFrom_8 rfl (lv_at hl 0 rfl) ?_
  refine lv_iload_n hx hb d_QS_placeFrom_9 rfl (lv_at hl 1 rfl) ?_
  refine lv_iload_n hx hb d_QS_placeFrom_10 rfl (lv_at hl 2 rfl) ?_
  refine af_i (wc := [(a, .inr (1, [.int (nI w), .int (nI h), .ref q, .long (lN f), .int (nI sn)])), (q, .inl (cI, 6, .inl (nA rows)))]) (wr := []) (rest := []) [0, 1] [] hP hD hS hA rfl rfl (by decide) (by decide) (rn_V E (As := [.int (nI (w - (d + 1))), .int way]) m_QS_placeIn km_QS_39 (c_QS_placeIn l D cI cL a q w h f d way hd hw hh hf hF rows sn hrow _) ⟨rfl, rfl, by dsimp only; omega, by dsimp only; omega⟩ (hP.sub [0, 1] rfl) (hD.sub [0, 1] (by decide) rfl) (q0 := 0) (ci := 1) rfl rfl rfl hl.1 rfl (Nat.le_of_ble_eq_true rfl) ⟨Nat.le_of_ble_eq_true rfl, Nat.le_of_ble_eq_true rfl⟩ d_QS_placeFrom_11) (fun r_2 u_1 H locs hw hP hD hS => ?_)
  obtain ⟨rfl, rfl⟩ := hw
  have hP : va_P D classes [(a, .inr (1, [.int (nI w), .int (nI h), .ref q, .long (lN f), .int (nI ((qsP w h f way (d + 1) (rows, sn)).2.2))])), (q, .inl (cI, 6, .inl (nA ((qsP w h f way (d + 1) (rows, sn)).2.1))))] H := hP
  have hD : va_D A [(a, .inr (1, [.int (nI w), .int (nI h), .ref q, .long (lN f), .int (nI ((qsP w h f way (d + 1) (rows, sn)).2.2))])), (q, .inl (cI, 6, .inl (nA ((qsP w h f way (d + 1) (rows, sn)).2.1))))] := hD
  exact rt_z E hP hD hS (bz01 hr1.1) ⟨rfl, rfl⟩ d_QS_placeFrom_14
theorem c_QS_placeFrom (l : Launch) (D : va_G) (cI cL : ClassId) (a q w h f : Nat) (way : Int32) (hw : w ≤ 6) (hh : h ≤ 6) (hf : f < 2 ^ 36) : ∀ d, d ≤ w → ∀ (rows : Nat → Nat) (sn : Nat), (∀ k, rows k < 6) → CI l y_QS_placeFrom (.code y_QS_placeFrom b_QS_placeFrom 3 (some .boolean) :: Om) { frames := 2 * d + 1, cells := 0, slots := 0, locals := 50 * d + 50 } D [(a, .inr (1, [.int (nI w), .int (nI h), .ref q, .long (lN f), .int (nI sn)])), (q, .inl (cI, 6, .inl (nA rows)))] [(cI, .int), (cL, .long)] [.ref a, .int (nI (w - d)), .int way] (fun r u => r = nI (qsP w h f way d (rows, sn)).1 ∧ u = [(a, .inr (1, [.int (nI w), .int (nI h), .ref q, .long (lN f), .int (nI ((qsP w h f way d (rows, sn)).2.2))])), (q, .inl (cI, 6, .inl (nA ((qsP w h f way d (rows, sn)).2.1))))]) := by
  intro d
  induction d with
  | zero => intro _ rows sn _; exact c_QS_place0 l D cI cL a q w h f way hw hh hf rows sn
  | succ d ih => intro hd rows sn hrow; exact c_QS_placeS l D cI cL a q w h f d way hd hw hh hf (ih (by omega)) rows sn hrow
set_option maxHeartbeats 1000000 in
set_option maxRecDepth 100000 in
theorem c_QS_countWays (l : Launch) (D : va_G) (cI cL : ClassId) (a q w h f sn g : Nat) (rows : Nat → Nat) (hw : w ≤ 6) (hh : h ≤ 6) (hg : g < 2 ^ 36) (hrow : ∀ k, rows k < 6) : CI l y_QS_countWays (.code y_QS_countWays b_QS_countWays 3 (some .int) :: Om) { frames := 14, cells := 0, slots := 0, locals := 400 } D [(a, .inr (1, [.int (nI w), .int (nI h), .ref q, .long (lN f), .int (nI sn)])), (q, .inl (cI, 6, .inl (nA rows)))] [(cI, .int), (cL, .long)] [.ref a, .long (lN g)] (fun r u => r = nI (qsP w h g (-1) w (rows, 0)).2.2 ∧ u = [(a, .inr (1, [.int (nI w), .int (nI h), .ref q, .long (lN g), .int (nI ((qsP w h g (-1) w (rows, 0)).2.2))])), (q, .inl (cI, 6, .inl (nA ((qsP w h g (-1) w (rows, 0)).2.1))))]) := by
  refine en_of (cc := b_QS_countWays) (Qc := qI D [(cI, .int), (cL, .long)] (fun r u => r = nI (qsP w h g (-1) w (rows, 0)).2.2 ∧ u = [(a, .inr (1, [.int (nI w), .int (nI h), .ref q, .long (lN g), .int (nI ((qsP w h g (-1) w (rows, 0)).2.2))])), (q, .inl (cI, 6, .inl (nA ((qsP w h g (-1) w (rows, 0)).2.1))))])) (by decide) rfl (Nat.le_of_ble_eq_true rfl) ?_
  intro p e s m below meth c A E hnm hP hD hS ls hl
  have hl : lv_has ls 3 [(0, .ref a), (1, .long (lN g))] := hl
  obtain ⟨hx, hb, hml, hown, hts, hr, hlk, hA, hK, hN⟩ := id E
  have ho : ∀ q ∈ Om, q.before _ s = true := fun q h => hts q (List.mem_cons_of_mem _ h)
  refine lv_aload_n hx hb d_QS_countWays_0 rfl (lv_at hl 0 rfl) ?_
  refine lv_lload_n hx hb d_QS_countWays_1 rfl (lv_at hl 1 rfl) ?_
  refine va_put (D := D) (ci := 1) (v := .long (lN g)) (ty := .long) (C := R_QS) (T := F_QS) (N := 5) hx hb ho j_QS t_QS t_QS_ok n_QS hown hK hP hD hS 0 rfl rfl 3 (by decide) (ho _ kf_QS_28) (fun _ h9 => h9) rfl (by decide +kernel) rfl rfl (Nat.le_of_ble_eq_true rfl) d_QS_countWays_2 (fun H locs hP hD hS => ?_)
  have hP : va_P D classes [(a, .inr (1, [.int (nI w), .int (nI h), .ref q, .long (lN g), .int (nI sn)])), (q, .inl (cI, 6, .inl (nA rows)))] H := hP
  have hD : va_D A [(a, .inr (1, [.int (nI w), .int (nI h), .ref q, .long (lN g), .int (nI sn)])), (q, .inl (cI, 6, .inl (nA rows)))] := hD
  refine lv_aload_n hx hb d_QS_countWays_5 rfl (lv_at hl 0 rfl) ?_
  refine lv_iconst (v := nI 0) hx hb d_QS_countWays_6 (by decide) ?_
  refine va_put (D := D) (ci := 1) (v := .int (nI 0)) (ty := .int) (C := R_QS) (T := F_QS) (N := 5) hx hb ho j_QS t_QS t_QS_ok n_QS hown hK hP hD hS 0 rfl rfl 4 (by decide) (ho _ kf_QS_32) (fun _ h9 => h9) rfl (by decide +kernel) rfl rfl (Nat.le_of_ble_eq_true rfl) d_QS_countWays_7 (fun H locs hP hD hS => ?_)
  have hP : va_P D classes [(a, .inr (1, [.int (nI w), .int (nI h), .ref q, .long (lN g), .int (nI 0)])), (q, .inl (cI, 6, .inl (nA rows)))] H := hP
  have hD : va_D A [(a, .inr (1, [.int (nI w), .int (nI h), .ref q, .long (lN g), .int (nI 0)])), (q, .inl (cI, 6, .inl (nA rows)))] := hD
  refine lv_aload_n hx hb d_QS_countWays_10 rfl (lv_at hl 0 rfl) ?_
  refine lv_iconst (v := nI 0) hx hb d_QS_countWays_11 (by decide) ?_
  refine lv_iconst (v := (-1)) hx hb d_QS_countWays_12 (by decide) ?_
  have hr1 := qsP_1 (w := w) (f := g) (way := (-1)) hh w (rows, 0) hrow
  rw [show nI 0 = nI (w - w) by rw [Nat.sub_self]]
  refine af_i (wc := [(a, .inr (1, [.int (nI w), .int (nI h), .ref q, .long (lN g), .int (nI 0)])), (q, .inl (cI, 6, .inl (nA rows)))]) (wr := []) (rest := []) [0, 1] [] hP hD hS hA rfl rfl (by decide) (by decide) (rn_V E (As := [.int (nI (w - w)), .int (-1)]) m_QS_placeFrom km_QS_35 (c_QS_placeFrom l D cI cL a q w h g (-1) hw hh hg w (Nat.le_refl w) rows 0 hrow _) ⟨rfl, rfl, by dsimp only; omega, by dsimp only; omega⟩ (hP.sub [0, 1] rfl) (hD.sub [0, 1] (by decide) rfl) (q0 := 0) (ci := 1) rfl rfl rfl hl.1 rfl (Nat.le_of_ble_eq_true rfl) ⟨Nat.le_of_ble_eq_true rfl, Nat.le_of_ble_eq_true rfl⟩ d_QS_countWays_13) (fun r_2 u_1 H locs hw hP hD hS => ?_)
  obtain ⟨rfl, rfl⟩ := hw
  have hP : va_P D classes [(a, .inr (1, [.int (nI w), .int (nI h), .ref q, .long (lN g), .int (nI ((qsP w h g (-1) w (rows, 0)).2.2))])), (q, .inl (cI, 6, .inl (nA ((qsP w h g (-1) w (rows, 0)).2.1))))] H := hP
  have hD : va_D A [(a, .inr (1, [.int (nI w), .int (nI h), .ref q, .long (lN g), .int (nI ((qsP w h g (-1) w (rows, 0)).2.2))])), (q, .inl (cI, 6, .inl (nA ((qsP w h g (-1) w (rows, 0)).2.1))))] := hD
  refine lv_pop hx hb d_QS_countWays_16 rfl ?_
  refine lv_aload_n hx hb d_QS_countWays_17 rfl (lv_at hl 0 rfl) ?_
  refine va_get (D := D) (ci := 1) (v := .int (nI ((qsP w h g (-1) w (rows, 0)).2.2))) (C := R_QS) (T := F_QS) (N := 5) hx hb ho j_QS hown hK hP 0 rfl rfl 4 (by decide) (ho _ kf_QS_32) (fun _ h9 => h9) rfl d_QS_countWays_18 ?_
  exact rt_i E hP hD hS ⟨rfl, rfl⟩ d_QS_countWays_21
set_option maxHeartbeats 1000000 in
set_option maxRecDepth 100000 in
theorem c_QS_rowOut (l : Launch) (D : va_G) (cI cL : ClassId) (a q w h f sn g : Nat) (rows : Nat → Nat) (k cl : Int32) (hout : k < 0 ∨ cl < 0 ∨ ¬ cl < nI w) : CI l y_QS_rowInWay (.code y_QS_rowInWay b_QS_rowInWay 5 (some .int) :: Om) { frames := 14, cells := 0, slots := 0, locals := 400 } D [(a, .inr (1, [.int (nI w), .int (nI h), .ref q, .long (lN f), .int (nI sn)])), (q, .inl (cI, 6, .inl (nA rows)))] [(cI, .int), (cL, .long)] [.ref a, .long (lN g), .int k, .int cl] (fun r u => r = -1 ∧ u = [(a, .inr (1, [.int (nI w), .int (nI h), .ref q, .long (lN f), .int (nI sn)])), (q, .inl (cI, 6, .inl (nA rows)))]) := by
  refine en_of (cc := b_QS_rowInWay) (Qc := qI D [(cI, .int), (cL, .long)] (fun r u => r = -1 ∧ u = [(a, .inr (1, [.int (nI w), .int (nI h), .ref q, .long (lN f), .int (nI sn)])), (q, .inl (cI, 6, .inl (nA rows)))])) (by decide) rfl (Nat.le_of_ble_eq_true rfl) ?_
  intro p e s m below meth c A E hnm hP hD hS ls hl
  have hl : lv_has ls 5 [(0, .ref a), (1, .long (lN g)), (3, .int k), (4, .int cl)] := hl
  obtain ⟨hx, hb, hml, hown, hts, hr, hlk, hA, hK, hN⟩ := id E
  have ho : ∀ q ∈ Om, q.before _ s = true := fun q h => hts q (List.mem_cons_of_mem _ h)
  refine lv_iload_n hx hb d_QS_rowInWay_0 rfl (lv_at hl 2 rfl) ?_
  refine lv_if_lt (tgt := 18) hx hb d_QS_rowInWay_1 (by decide) (fun h_1 => ?_) (fun h_1 => ?_)
  · refine lv_iconst (v := (-1)) hx hb d_QS_rowInWay_18 (by decide) ?_
    exact rt_i E hP hD hS ⟨rfl, rfl⟩ d_QS_rowInWay_19
  · refine lv_iload hx hb d_QS_rowInWay_4 (lv_at hl 3 rfl) ?_
    refine lv_if_lt (tgt := 18) hx hb d_QS_rowInWay_6 (by decide) (fun h_2 => ?_) (fun h_2 => ?_)
    · refine lv_iconst (v := (-1)) hx hb d_QS_rowInWay_18 (by decide) ?_
      exact rt_i E hP hD hS ⟨rfl, rfl⟩ d_QS_rowInWay_19
    · refine lv_iload hx hb d_QS_rowInWay_9 (lv_at hl 3 rfl) ?_
      refine lv_aload_n hx hb d_QS_rowInWay_11 rfl (lv_at hl 0 rfl) ?_
      refine va_get (D := D) (ci := 1) (v := .int (nI w)) (C := R_QS) (T := F_QS) (N := 5) hx hb ho j_QS hown hK hP 0 rfl rfl 0 (by decide) (ho _ kf_QS_21) (fun _ h9 => h9) rfl d_QS_rowInWay_12 ?_
      refine lv_icmp_lt (tgt := 20) hx hb d_QS_rowInWay_15 (by decide) (fun h_3 => ?_) (fun h_3 => ?_)
      · exact absurd hout (by rintro (q | q | q) <;> contradiction)
      · refine lv_iconst (v := (-1)) hx hb d_QS_rowInWay_18 (by decide) ?_
        exact rt_i E hP hD hS ⟨rfl, rfl⟩ d_QS_rowInWay_19
set_option maxHeartbeats 1000000 in
set_option maxRecDepth 100000 in
theorem c_QS_rowIn (l : Launch) (D : va_G) (cI cL : ClassId) (a q w h f sn g cl : Nat) (rows : Nat → Nat) (k : Int32) (hk : ¬ k < 0) (hcl : cl < w) (hw : w ≤ 6) (hh : h ≤ 6) (hg : g < 2 ^ 36) (hrow : ∀ k, rows k < 6) : CI l y_QS_rowInWay (.code y_QS_rowInWay b_QS_rowInWay 5 (some .int) :: Om) { frames := 14, cells := 0, slots := 0, locals := 400 } D [(a, .inr (1, [.int (nI w), .int (nI h), .ref q, .long (lN f), .int (nI sn)])), (q, .inl (cI, 6, .inl (nA rows)))] [(cI, .int), (cL, .long)] [.ref a, .long (lN g), .int k, .int (nI cl)] (fun r u => r = (if (qsP w h g k w (rows, 0)).1 = 0 then -1 else nI ((qsP w h g k w (rows, 0)).2.1 cl)) ∧ u = [(a, .inr (1, [.int (nI w), .int (nI h), .ref q, .long (lN g), .int (nI ((qsP w h g k w (rows, 0)).2.2))])), (q, .inl (cI, 6, .inl (nA ((qsP w h g k w (rows, 0)).2.1))))]) := by
  refine en_of (cc := b_QS_rowInWay) (Qc := qI D [(cI, .int), (cL, .long)] (fun r u => r = (if (qsP w h g k w (rows, 0)).1 = 0 then -1 else nI ((qsP w h g k w (rows, 0)).2.1 cl)) ∧ u = [(a, .inr (1, [.int (nI w), .int (nI h), .ref q, .long (lN g), .int (nI ((qsP w h g k w (rows, 0)).2.2))])), (q, .inl (cI, 6, .inl (nA ((qsP w h g k w (rows, 0)).2.1))))])) (by decide) rfl (Nat.le_of_ble_eq_true rfl) ?_
  intro p e s m below meth c A E hnm hP hD hS ls hl
  have hl : lv_has ls 5 [(0, .ref a), (1, .long (lN g)), (3, .int k), (4, .int (nI cl))] := hl
  obtain ⟨hx, hb, hml, hown, hts, hr, hlk, hA, hK, hN⟩ := id E
  have ho : ∀ q ∈ Om, q.before _ s = true := fun q h => hts q (List.mem_cons_of_mem _ h)
  refine lv_iload_n hx hb d_QS_rowInWay_0 rfl (lv_at hl 2 rfl) ?_
  refine lv_if_lt (tgt := 18) hx hb d_QS_rowInWay_1 (by decide) (fun h9 => absurd h9 hk) (fun _ => ?_)
  refine lv_iload hx hb d_QS_rowInWay_4 (lv_at hl 3 rfl) ?_
  refine nr_if_lt (tgt := 18) hx hb d_QS_rowInWay_6 (by decide) (by omega) ?_
  refine lv_iload hx hb d_QS_rowInWay_9 (lv_at hl 3 rfl) ?_
  refine lv_aload_n hx hb d_QS_rowInWay_11 rfl (lv_at hl 0 rfl) ?_
  refine va_get (D := D) (ci := 1) (v := .int (nI w)) (C := R_QS) (T := F_QS) (N := 5) hx hb ho j_QS hown hK hP 0 rfl rfl 0 (by decide) (ho _ kf_QS_21) (fun _ h9 => h9) rfl d_QS_rowInWay_12 ?_
  refine nr_icmp_lt (tgt := 20) hx hb d_QS_rowInWay_15 (by decide) (by omega) (by omega) (fun _ => ?_) (fun h9 => absurd h9 (by omega))
  refine lv_aload_n hx hb d_QS_rowInWay_20 rfl (lv_at hl 0 rfl) ?_
  refine lv_lload_n hx hb d_QS_rowInWay_21 rfl (lv_at hl 1 rfl) ?_
  refine va_put (D := D) (ci := 1) (v := .long (lN g)) (ty := .long) (C := R_QS) (T := F_QS) (N := 5) hx hb ho j_QS t_QS t_QS_ok n_QS hown hK hP hD hS 0 rfl rfl 3 (by decide) (ho _ kf_QS_28) (fun _ h9 => h9) rfl (by decide +kernel) rfl rfl (Nat.le_of_ble_eq_true rfl) d_QS_rowInWay_22 (fun H locs hP hD hS => ?_)
  have hP : va_P D classes [(a, .inr (1, [.int (nI w), .int (nI h), .ref q, .long (lN g), .int (nI sn)])), (q, .inl (cI, 6, .inl (nA rows)))] H := hP
  have hD : va_D A [(a, .inr (1, [.int (nI w), .int (nI h), .ref q, .long (lN g), .int (nI sn)])), (q, .inl (cI, 6, .inl (nA rows)))] := hD
  refine lv_aload_n hx hb d_QS_rowInWay_25 rfl (lv_at hl 0 rfl) ?_
  refine lv_iconst (v := nI 0) hx hb d_QS_rowInWay_26 (by decide) ?_
  refine va_put (D := D) (ci := 1) (v := .int (nI 0)) (ty := .int) (C := R_QS) (T := F_QS) (N := 5) hx hb ho j_QS t_QS t_QS_ok n_QS hown hK hP hD hS 0 rfl rfl 4 (by decide) (ho _ kf_QS_32) (fun _ h9 => h9) rfl (by decide +kernel) rfl rfl (Nat.le_of_ble_eq_true rfl) d_QS_rowInWay_27 (fun H locs hP hD hS => ?_)
  have hP : va_P D classes [(a, .inr (1, [.int (nI w), .int (nI h), .ref q, .long (lN g), .int (nI 0)])), (q, .inl (cI, 6, .inl (nA rows)))] H := hP
  have hD : va_D A [(a, .inr (1, [.int (nI w), .int (nI h), .ref q, .long (lN g), .int (nI 0)])), (q, .inl (cI, 6, .inl (nA rows)))] := hD
  refine lv_aload_n hx hb d_QS_rowInWay_30 rfl (lv_at hl 0 rfl) ?_
  refine lv_iconst (v := nI 0) hx hb d_QS_rowInWay_31 (by decide) ?_
  refine lv_iload_n hx hb d_QS_rowInWay_32 rfl (lv_at hl 2 rfl) ?_
  have hr1 := qsP_1 (w := w) (f := g) (way := k) hh w (rows, 0) hrow
  rw [show nI 0 = nI (w - w) by rw [Nat.sub_self]]
  refine af_i (wc := [(a, .inr (1, [.int (nI w), .int (nI h), .ref q, .long (lN g), .int (nI 0)])), (q, .inl (cI, 6, .inl (nA rows)))]) (wr := []) (rest := []) [0, 1] [] hP hD hS hA rfl rfl (by decide) (by decide) (rn_V E (As := [.int (nI (w - w)), .int k]) m_QS_placeFrom km_QS_35 (c_QS_placeFrom l D cI cL a q w h g k hw hh hg w (Nat.le_refl w) rows 0 hrow _) ⟨rfl, rfl, by dsimp only; omega, by dsimp only; omega⟩ (hP.sub [0, 1] rfl) (hD.sub [0, 1] (by decide) rfl) (q0 := 0) (ci := 1) rfl rfl rfl hl.1 rfl (Nat.le_of_ble_eq_true rfl) ⟨Nat.le_of_ble_eq_true rfl, Nat.le_of_ble_eq_true rfl⟩ d_QS_rowInWay_33) (fun r_2 u_1 H locs hw hP hD hS => ?_)
  obtain ⟨rfl, rfl⟩ := hw
  have hP : va_P D classes [(a, .inr (1, [.int (nI w), .int (nI h), .ref q, .long (lN g), .int (nI ((qsP w h g k w (rows, 0)).2.2))])), (q, .inl (cI, 6, .inl (nA ((qsP w h g k w (rows, 0)).2.1))))] H := hP
  have hD : va_D A [(a, .inr (1, [.int (nI w), .int (nI h), .ref q, .long (lN g), .int (nI ((qsP w h g k w (rows, 0)).2.2))])), (q, .inl (cI, 6, .inl (nA ((qsP w h g k w (rows, 0)).2.1))))] := hD
  refine nr_if_eq (tgt := 49) hx hb d_QS_rowInWay_36 (by decide) (by omega) (fun h_3 => ?_) (fun h_3 => ?_)
  · refine lv_iconst (v := (-1)) hx hb d_QS_rowInWay_49 (by decide) ?_
    exact rt_i E hP hD hS ⟨by first | rw [if_pos (by omega)] | rw [if_neg (by omega)], rfl⟩ d_QS_rowInWay_50
  · refine lv_aload_n hx hb d_QS_rowInWay_39 rfl (lv_at hl 0 rfl) ?_
    refine va_get (D := D) (ci := 1) (v := .ref q) (C := R_QS) (T := F_QS) (N := 5) hx hb ho j_QS hown hK hP 0 rfl rfl 2 (by decide) (ho _ kf_QS_9) (fun _ h9 => h9) rfl d_QS_rowInWay_40 ?_
    refine lv_iload hx hb d_QS_rowInWay_43 (lv_at hl 3 rfl) ?_
    refine nr_ialdN hx hb hK hP 1 0 rfl rfl (i := cl) (by omega) (by decide) d_QS_rowInWay_45 ?_
    refine lv_goto (tgt := 50) hx hb d_QS_rowInWay_46 (by decide) ?_
    exact rt_i E hP hD hS ⟨by first | rw [if_pos (by omega)] | rw [if_neg (by omega)], rfl⟩ d_QS_rowInWay_50
