/-! Board -/
def cA (w h : Nat) (x y : Int32) : Int32 := if x < 0 ∨ nI w ≤ x ∨ y < 0 ∨ ¬ y < nI h then -1 else x + nI w * y
def hC (n : Nat) (x : Int32) : Nat := if x < 0 ∨ nI n ≤ x then 0 else 1
theorem hC_1 (n : Nat) (x : Int32) : hC n x ≤ 1 := by unfold hC; split <;> omega
theorem bz01 {b : Nat} (h : b ≤ 1) : nI b = 0 ∨ nI b = 1 := by
  rcases (show b = 0 ∨ b = 1 by omega) with rfl | rfl <;> decide
theorem ce_lt {c r w h : Nat} (hc : c < w) (hr : r < h) (hw : w ≤ 6) (hh : h ≤ 6) : c + w * r < 36 := by
  have h1 : w * r ≤ w * 5 := Nat.mul_le_mul_left w (by omega)
  omega
theorem ce_in {c r w h : Nat} (hc : c < w) (hr : r < h) : c + w * r < w * h := by
  have h1 : w * (r + 1) ≤ w * h := Nat.mul_le_mul_left w hr
  rw [Nat.mul_add, Nat.mul_one] at h1
  omega
set_option maxHeartbeats 1000000 in
set_option maxRecDepth 100000 in
theorem c_BD_cellAt (l : Launch) (D : va_G) (cI cL : ClassId) (a w h f : Nat) (x y : Int32) : CI l y_BD_cellAt (.code y_BD_cellAt b_BD_cellAt 3 (some .int) :: Om) { frames := 0, cells := 0, slots := 0, locals := 0 } D [(a, .inr (0, [.int (nI w), .int (nI h), .int (nI (w * h)), .long (lN f)]))] [(cI, .int), (cL, .long)] [.ref a, .int x, .int y] (fun r u => r = cA w h x y ∧ u = [(a, .inr (0, [.int (nI w), .int (nI h), .int (nI (w * h)), .long (lN f)]))]) := by
  refine en_of (cc := b_BD_cellAt) (Qc := qI D [(cI, .int), (cL, .long)] (fun r u => r = cA w h x y ∧ u = [(a, .inr (0, [.int (nI w), .int (nI h), .int (nI (w * h)), .long (lN f)]))])) (by decide) rfl (Nat.le_of_ble_eq_true rfl) ?_
  intro p e s m below meth c A E hnm hP hD hS ls hl
  have hl : lv_has ls 3 [(0, .ref a), (1, .int x), (2, .int y)] := hl
  obtain ⟨hx, hb, hml, hown, hts, hr, hlk, hA, hK, hN⟩ := id E
  have ho : ∀ q ∈ Om, q.before _ s = true := fun q h => hts q (List.mem_cons_of_mem _ h)
  refine lv_iload_n hx hb d_BD_cellAt_0 rfl (lv_at hl 1 rfl) ?_
  refine lv_if_lt (tgt := 24) hx hb d_BD_cellAt_1 (by decide) (fun h_1 => ?_) (fun h_1 => ?_)
  · refine lv_iconst (v := (-1)) hx hb d_BD_cellAt_24 (by decide) ?_
    refine lv_goto (tgt := 36) hx hb d_BD_cellAt_25 (by decide) ?_
    exact rt_i E hP hD hS ⟨by unfold cA; simp [h_1], rfl⟩ d_BD_cellAt_36
  · refine lv_iload_n hx hb d_BD_cellAt_4 rfl (lv_at hl 1 rfl) ?_
    refine lv_aload_n hx hb d_BD_cellAt_5 rfl (lv_at hl 0 rfl) ?_
    refine va_get (D := D) (ci := 0) (v := .int (nI w)) (C := R_BD) (T := F_BD) (N := 4) hx hb ho j_BD hown hK hP 0 rfl rfl 0 (by decide) (ho _ kf_BD_7) (fun _ h9 => h9) rfl d_BD_cellAt_6 ?_
    refine lv_icmp_ge (tgt := 24) hx hb d_BD_cellAt_9 (by decide) (fun h_2 => ?_) (fun h_2 => ?_)
    · refine lv_iconst (v := (-1)) hx hb d_BD_cellAt_24 (by decide) ?_
      refine lv_goto (tgt := 36) hx hb d_BD_cellAt_25 (by decide) ?_
      exact rt_i E hP hD hS ⟨by unfold cA; simp [h_1, h_2], rfl⟩ d_BD_cellAt_36
    · refine lv_iload_n hx hb d_BD_cellAt_12 rfl (lv_at hl 2 rfl) ?_
      refine lv_if_lt (tgt := 24) hx hb d_BD_cellAt_13 (by decide) (fun h_3 => ?_) (fun h_3 => ?_)
      · refine lv_iconst (v := (-1)) hx hb d_BD_cellAt_24 (by decide) ?_
        refine lv_goto (tgt := 36) hx hb d_BD_cellAt_25 (by decide) ?_
        exact rt_i E hP hD hS ⟨by unfold cA; simp [h_1, h_2, h_3], rfl⟩ d_BD_cellAt_36
      · refine lv_iload_n hx hb d_BD_cellAt_16 rfl (lv_at hl 2 rfl) ?_
        refine lv_aload_n hx hb d_BD_cellAt_17 rfl (lv_at hl 0 rfl) ?_
        refine va_get (D := D) (ci := 0) (v := .int (nI h)) (C := R_BD) (T := F_BD) (N := 4) hx hb ho j_BD hown hK hP 0 rfl rfl 1 (by decide) (ho _ kf_BD_13) (fun _ h9 => h9) rfl d_BD_cellAt_18 ?_
        refine lv_icmp_lt (tgt := 28) hx hb d_BD_cellAt_21 (by decide) (fun h_4 => ?_) (fun h_4 => ?_)
        · refine lv_iload_n hx hb d_BD_cellAt_28 rfl (lv_at hl 1 rfl) ?_
          refine lv_aload_n hx hb d_BD_cellAt_29 rfl (lv_at hl 0 rfl) ?_
          refine va_get (D := D) (ci := 0) (v := .int (nI w)) (C := R_BD) (T := F_BD) (N := 4) hx hb ho j_BD hown hK hP 0 rfl rfl 0 (by decide) (ho _ kf_BD_7) (fun _ h9 => h9) rfl d_BD_cellAt_30 ?_
          refine lv_iload_n hx hb d_BD_cellAt_33 rfl (lv_at hl 2 rfl) ?_
          refine lv_imul hx hb d_BD_cellAt_34 ?_
          refine lv_iadd hx hb d_BD_cellAt_35 ?_
          exact rt_i E hP hD hS ⟨by unfold cA; simp [h_1, h_2, h_3, h_4], rfl⟩ d_BD_cellAt_36
        · refine lv_iconst (v := (-1)) hx hb d_BD_cellAt_24 (by decide) ?_
          refine lv_goto (tgt := 36) hx hb d_BD_cellAt_25 (by decide) ?_
          exact rt_i E hP hD hS ⟨by unfold cA; simp [h_1, h_2, h_3, h_4], rfl⟩ d_BD_cellAt_36
set_option maxHeartbeats 1000000 in
set_option maxRecDepth 100000 in
theorem c_BD_hasCell (l : Launch) (D : va_G) (cI cL : ClassId) (a w h f : Nat) (x : Int32) : CI l y_BD_hasCell (.code y_BD_hasCell b_BD_hasCell 2 (some .boolean) :: Om) { frames := 0, cells := 0, slots := 0, locals := 0 } D [(a, .inr (0, [.int (nI w), .int (nI h), .int (nI (w * h)), .long (lN f)]))] [(cI, .int), (cL, .long)] [.ref a, .int x] (fun r u => r = nI (hC (w * h) x) ∧ u = [(a, .inr (0, [.int (nI w), .int (nI h), .int (nI (w * h)), .long (lN f)]))]) := by
  refine en_of (cc := b_BD_hasCell) (Qc := qI D [(cI, .int), (cL, .long)] (fun r u => r = nI (hC (w * h) x) ∧ u = [(a, .inr (0, [.int (nI w), .int (nI h), .int (nI (w * h)), .long (lN f)]))])) (by decide) rfl (Nat.le_of_ble_eq_true rfl) ?_
  intro p e s m below meth c A E hnm hP hD hS ls hl
  have hl : lv_has ls 2 [(0, .ref a), (1, .int x)] := hl
  obtain ⟨hx, hb, hml, hown, hts, hr, hlk, hA, hK, hN⟩ := id E
  have ho : ∀ q ∈ Om, q.before _ s = true := fun q h => hts q (List.mem_cons_of_mem _ h)
  refine lv_iload_n hx hb d_BD_hasCell_0 rfl (lv_at hl 1 rfl) ?_
  refine lv_if_lt (tgt := 16) hx hb d_BD_hasCell_1 (by decide) (fun h_1 => ?_) (fun h_1 => ?_)
  · refine lv_iconst (v := nI 0) hx hb d_BD_hasCell_16 (by decide) ?_
    exact rt_z E hP hD hS (by decide) ⟨by unfold hC; simp [h_1], rfl⟩ d_BD_hasCell_17
  · refine lv_iload_n hx hb d_BD_hasCell_4 rfl (lv_at hl 1 rfl) ?_
    refine lv_aload_n hx hb d_BD_hasCell_5 rfl (lv_at hl 0 rfl) ?_
    refine va_get (D := D) (ci := 0) (v := .int (nI (w * h))) (C := R_BD) (T := F_BD) (N := 4) hx hb ho j_BD hown hK hP 0 rfl rfl 2 (by decide) (ho _ kf_BD_16) (fun _ h9 => h9) rfl d_BD_hasCell_6 ?_
    refine lv_icmp_ge (tgt := 16) hx hb d_BD_hasCell_9 (by decide) (fun h_2 => ?_) (fun h_2 => ?_)
    · refine lv_iconst (v := nI 0) hx hb d_BD_hasCell_16 (by decide) ?_
      exact rt_z E hP hD hS (by decide) ⟨by unfold hC; simp [h_1, h_2], rfl⟩ d_BD_hasCell_17
    · refine lv_iconst (v := nI 1) hx hb d_BD_hasCell_12 (by decide) ?_
      refine lv_goto (tgt := 17) hx hb d_BD_hasCell_13 (by decide) ?_
      exact rt_z E hP hD hS (by decide) ⟨by unfold hC; simp [h_1, h_2], rfl⟩ d_BD_hasCell_17
set_option maxHeartbeats 1000000 in
set_option maxRecDepth 100000 in
theorem c_BD_freeCells (l : Launch) (D : va_G) (cI cL : ClassId) (a w h f : Nat) : CL l y_BD_freeCells (.code y_BD_freeCells b_BD_freeCells 1 (some .long) :: Om) { frames := 0, cells := 0, slots := 0, locals := 0 } D [(a, .inr (0, [.int (nI w), .int (nI h), .int (nI (w * h)), .long (lN f)]))] [(cI, .int), (cL, .long)] [.ref a] (fun r u => r = lN f ∧ u = [(a, .inr (0, [.int (nI w), .int (nI h), .int (nI (w * h)), .long (lN f)]))]) := by
  refine en_of (cc := b_BD_freeCells) (Qc := qL D [(cI, .int), (cL, .long)] (fun r u => r = lN f ∧ u = [(a, .inr (0, [.int (nI w), .int (nI h), .int (nI (w * h)), .long (lN f)]))])) (by decide) rfl (Nat.le_of_ble_eq_true rfl) ?_
  intro p e s m below meth c A E hnm hP hD hS ls hl
  have hl : lv_has ls 1 [(0, .ref a)] := hl
  obtain ⟨hx, hb, hml, hown, hts, hr, hlk, hA, hK, hN⟩ := id E
  have ho : ∀ q ∈ Om, q.before _ s = true := fun q h => hts q (List.mem_cons_of_mem _ h)
  refine lv_aload_n hx hb d_BD_freeCells_0 rfl (lv_at hl 0 rfl) ?_
  refine va_get (D := D) (ci := 0) (v := .long (lN f)) (C := R_BD) (T := F_BD) (N := 4) hx hb ho j_BD hown hK hP 0 rfl rfl 3 (by decide) (ho _ kf_BD_19) (fun _ h9 => h9) rfl d_BD_freeCells_1 ?_
  exact rt_l E hP hD hS ⟨rfl, rfl⟩ d_BD_freeCells_4
theorem hC_in {n k : Nat} (h : k < n) (hn : n < 2 ^ 31) : hC n (nI k) = 1 := by
  unfold hC
  rw [if_neg]
  rintro (q | q)
  · exact nI_pos (by omega) q
  · exact absurd ((nI_leI hn (by omega)).mp q) (by omega)
theorem c_BD_hasIn (l : Launch) (D : va_G) (cI cL : ClassId) (a w h f k : Nat) (hk : k < w * h) (hc : w * h ≤ 36) : CI l y_BD_hasCell (.code y_BD_hasCell b_BD_hasCell 2 (some .boolean) :: Om) { frames := 0, cells := 0, slots := 0, locals := 0 } D [(a, .inr (0, [.int (nI w), .int (nI h), .int (nI (w * h)), .long (lN f)]))] [(cI, .int), (cL, .long)] [.ref a, .int (nI k)] (fun r u => r = nI 1 ∧ u = [(a, .inr (0, [.int (nI w), .int (nI h), .int (nI (w * h)), .long (lN f)]))]) := by
  have := c_BD_hasCell l D cI cL a w h f (nI k)
  rw [hC_in hk (by omega)] at this
  exact this
set_option maxHeartbeats 1000000 in
set_option maxRecDepth 100000 in
theorem c_BD_isFree (l : Launch) (D : va_G) (cI cL : ClassId) (a w h f : Nat) (k : Nat) (hk : k < w * h) (hc : w * h ≤ 36) (hf : f < 2 ^ 36) : CI l y_BD_isFree (.code y_BD_isFree b_BD_isFree 2 (some .boolean) :: Om) { frames := 1, cells := 0, slots := 0, locals := 21 } D [(a, .inr (0, [.int (nI w), .int (nI h), .int (nI (w * h)), .long (lN f)]))] [(cI, .int), (cL, .long)] [.ref a, .int (nI k)] (fun r u => r = nI (f / 2 ^ k % 2) ∧ u = [(a, .inr (0, [.int (nI w), .int (nI h), .int (nI (w * h)), .long (lN f)]))]) := by
  refine en_of (cc := b_BD_isFree) (Qc := qI D [(cI, .int), (cL, .long)] (fun r u => r = nI (f / 2 ^ k % 2) ∧ u = [(a, .inr (0, [.int (nI w), .int (nI h), .int (nI (w * h)), .long (lN f)]))])) (by decide) rfl (Nat.le_of_ble_eq_true rfl) ?_
  intro p e s m below meth c A E hnm hP hD hS ls hl
  have hl : lv_has ls 2 [(0, .ref a), (1, .int (nI k))] := hl
  obtain ⟨hx, hb, hml, hown, hts, hr, hlk, hA, hK, hN⟩ := id E
  have ho : ∀ q ∈ Om, q.before _ s = true := fun q h => hts q (List.mem_cons_of_mem _ h)
  refine lv_aload_n hx hb d_BD_isFree_0 rfl (lv_at hl 0 rfl) ?_
  refine lv_iload_n hx hb d_BD_isFree_1 rfl (lv_at hl 1 rfl) ?_
  refine af_i (wc := [(a, .inr (0, [.int (nI w), .int (nI h), .int (nI (w * h)), .long (lN f)]))]) (wr := []) (rest := []) [0] [] hP hD hS hA rfl rfl (by decide) (by decide) (rn_V E (As := [.int (nI k)]) m_BD_hasCell km_BD_23 (c_BD_hasIn l D cI cL a w h f k (by omega) (by omega) _) ⟨rfl, rfl, Nat.le_of_ble_eq_true rfl, Nat.le_of_ble_eq_true rfl⟩ (hP.sub [0] rfl) (hD.sub [0] (by decide) rfl) (q0 := 0) (ci := 0) rfl rfl rfl hl.1 rfl (Nat.le_of_ble_eq_true rfl) ⟨Nat.le_of_ble_eq_true rfl, Nat.le_of_ble_eq_true rfl⟩ d_BD_isFree_2) (fun r_2 u_1 H locs hw hP hD hS => ?_)
  obtain ⟨rfl, rfl⟩ := hw
  have hP : va_P D classes [(a, .inr (0, [.int (nI w), .int (nI h), .int (nI (w * h)), .long (lN f)]))] H := hP
  have hD : va_D A [(a, .inr (0, [.int (nI w), .int (nI h), .int (nI (w * h)), .long (lN f)]))] := hD
  refine nr_if_eq (tgt := 25) hx hb d_BD_isFree_5 (by decide) (by decide) (fun h9 => absurd h9 (by decide)) (fun _ => ?_)
  refine lv_aload_n hx hb d_BD_isFree_8 rfl (lv_at hl 0 rfl) ?_
  refine va_get (D := D) (ci := 0) (v := .long (lN f)) (C := R_BD) (T := F_BD) (N := 4) hx hb ho j_BD hown hK hP 0 rfl rfl 3 (by decide) (ho _ kf_BD_19) (fun _ h9 => h9) rfl d_BD_isFree_9 ?_
  refine lv_iload_n hx hb d_BD_isFree_12 rfl (lv_at hl 1 rfl) ?_
  refine nr_lushr hx hb d_BD_isFree_13 (by omega) (by omega) ?_
  refine lv_lconst (v := lN 1) hx hb d_BD_isFree_14 rfl ?_
  refine nr_land1 hx hb d_BD_isFree_15 ?_
  refine lv_lconst (v := lN 0) hx hb d_BD_isFree_16 rfl ?_
  refine nr_lcmp_eq (tgt := 25) hx hb d_BD_isFree_17 d_BD_isFree_18 (by decide) (by omega) (by omega) (fun h_3 => ?_) (fun h_3 => ?_)
  · refine lv_iconst (v := nI 0) hx hb d_BD_isFree_25 (by decide) ?_
    exact rt_z E hP hD hS (by decide) ⟨by congr 1; omega, rfl⟩ d_BD_isFree_26
  · refine lv_iconst (v := nI 1) hx hb d_BD_isFree_21 (by decide) ?_
    refine lv_goto (tgt := 26) hx hb d_BD_isFree_22 (by decide) ?_
    exact rt_z E hP hD hS (by decide) ⟨by congr 1; omega, rfl⟩ d_BD_isFree_26
set_option maxHeartbeats 1000000 in
set_option maxRecDepth 100000 in
theorem c_BD_turnBar (l : Launch) (D : va_G) (cI cL : ClassId) (a w h f : Nat) (k : Nat) (hk : k < w * h) (hc : w * h ≤ 36) (hf : f < 2 ^ 36) : CV l y_BD_turnBar (.code y_BD_turnBar b_BD_turnBar 2 none :: Om) { frames := 1, cells := 0, slots := 0, locals := 21 } D [(a, .inr (0, [.int (nI w), .int (nI h), .int (nI (w * h)), .long (lN f)]))] [(cI, .int), (cL, .long)] [.ref a, .int (nI k)] (fun u => u = [(a, .inr (0, [.int (nI w), .int (nI h), .int (nI (w * h)), .long (lN (f ^^^ 2 ^ k))]))]) := by
  refine en_of (cc := b_BD_turnBar) (Qc := qV D [(cI, .int), (cL, .long)] (fun u => u = [(a, .inr (0, [.int (nI w), .int (nI h), .int (nI (w * h)), .long (lN (f ^^^ 2 ^ k))]))])) (by decide) rfl (Nat.le_of_ble_eq_true rfl) ?_
  intro p e s m below meth c A E hnm hP hD hS ls hl
  have hl : lv_has ls 2 [(0, .ref a), (1, .int (nI k))] := hl
  obtain ⟨hx, hb, hml, hown, hts, hr, hlk, hA, hK, hN⟩ := id E
  have ho : ∀ q ∈ Om, q.before _ s = true := fun q h => hts q (List.mem_cons_of_mem _ h)
  refine lv_aload_n hx hb d_BD_turnBar_0 rfl (lv_at hl 0 rfl) ?_
  refine lv_iload_n hx hb d_BD_turnBar_1 rfl (lv_at hl 1 rfl) ?_
  refine af_i (wc := [(a, .inr (0, [.int (nI w), .int (nI h), .int (nI (w * h)), .long (lN f)]))]) (wr := []) (rest := []) [0] [] hP hD hS hA rfl rfl (by decide) (by decide) (rn_V E (As := [.int (nI k)]) m_BD_hasCell km_BD_23 (c_BD_hasIn l D cI cL a w h f k (by omega) (by omega) _) ⟨rfl, rfl, Nat.le_of_ble_eq_true rfl, Nat.le_of_ble_eq_true rfl⟩ (hP.sub [0] rfl) (hD.sub [0] (by decide) rfl) (q0 := 0) (ci := 0) rfl rfl rfl hl.1 rfl (Nat.le_of_ble_eq_true rfl) ⟨Nat.le_of_ble_eq_true rfl, Nat.le_of_ble_eq_true rfl⟩ d_BD_turnBar_2) (fun r_2 u_1 H locs hw hP hD hS => ?_)
  obtain ⟨rfl, rfl⟩ := hw
  have hP : va_P D classes [(a, .inr (0, [.int (nI w), .int (nI h), .int (nI (w * h)), .long (lN f)]))] H := hP
  have hD : va_D A [(a, .inr (0, [.int (nI w), .int (nI h), .int (nI (w * h)), .long (lN f)]))] := hD
  refine nr_if_eq (tgt := 20) hx hb d_BD_turnBar_5 (by decide) (by decide) (fun h9 => absurd h9 (by decide)) (fun _ => ?_)
  refine lv_aload_n hx hb d_BD_turnBar_8 rfl (lv_at hl 0 rfl) ?_
  refine lv_dup hx hb d_BD_turnBar_9 rfl ?_
  refine va_get (D := D) (ci := 0) (v := .long (lN f)) (C := R_BD) (T := F_BD) (N := 4) hx hb ho j_BD hown hK hP 0 rfl rfl 3 (by decide) (ho _ kf_BD_19) (fun _ h9 => h9) rfl d_BD_turnBar_10 ?_
  refine lv_lconst (v := lN 1) hx hb d_BD_turnBar_13 rfl ?_
  refine lv_iload_n hx hb d_BD_turnBar_14 rfl (lv_at hl 1 rfl) ?_
  refine nr_lshl1 hx hb d_BD_turnBar_15 (by omega) ?_
  refine nr_lxor hx hb d_BD_turnBar_16 ?_
  refine va_put (D := D) (ci := 0) (v := .long (lN (f ^^^ (2 ^ k)))) (ty := .long) (C := R_BD) (T := F_BD) (N := 4) hx hb ho j_BD t_BD t_BD_ok n_BD hown hK hP hD hS 0 rfl rfl 3 (by decide) (ho _ kf_BD_19) (fun _ h9 => h9) rfl (by decide +kernel) rfl rfl (Nat.le_of_ble_eq_true rfl) d_BD_turnBar_17 (fun H locs hP hD hS => ?_)
  have hP : va_P D classes [(a, .inr (0, [.int (nI w), .int (nI h), .int (nI (w * h)), .long (lN (f ^^^ (2 ^ k)))]))] H := hP
  have hD : va_D A [(a, .inr (0, [.int (nI w), .int (nI h), .int (nI (w * h)), .long (lN (f ^^^ (2 ^ k)))]))] := hD
  exact rt_v E hP hD hS rfl d_BD_turnBar_20
