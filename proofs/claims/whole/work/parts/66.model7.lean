/-! the reference: queens(), queen(); what a cell may hold, the look ahead -/
theorem up_ok {k : Int32} (h : ¬ k < 0) : ¬ nI 0 = k + 1 := by
  obtain ⟨j, hj, rfl⟩ := nI_of h
  rw [nI_1]
  intro e
  have := congrArg (fun z : Int32 => z.toBitVec.toNat) e
  rw [pk_tn (by omega), pk_tn (by omega)] at this
  omega
set_option maxHeartbeats 1000000 in
set_option maxRecDepth 100000 in
theorem c_MD_queens (l : Launch) (D : va_G) (cI cL : ClassId) (a b1 b2 b3 b4 b5 b6 b7 b8 b9 w h g bg tl sp th isf : Nat) (ba vi to rw li gi fl fo my : Nat → Nat) (hw1 : 1 ≤ w) (hw6 : w ≤ 6) (hh6 : h ≤ 6) (hba : ∀ k, ba k ≤ 1) (hrw7 : ∀ k, rw k ≤ 7) : CI l y_MD_queens (.code y_MD_queens b_MD_queens 1 (some .int) :: Om) { frames := 3, cells := 0, slots := 0, locals := 68 } D [(a, .inr (5, [.int (nI w), .int (nI h), .int (nI (w * h)), .int (nI g), .ref b1, .ref b2, .ref b3, .int (nI bg), .int (nI tl), .int (nI sp), .int (nI th), .ref b4, .ref b5, .ref b6, .ref b7, .ref b8, .ref b9, .int (nI isf)])), (b1, .inl (cL, 36, .inl (nA ba))), (b2, .inl (cL, 36, .inl (nA vi))), (b3, .inl (cI, 36, .inl (nA to))), (b4, .inl (cI, 6, .inl (mA rw))), (b5, .inl (cI, 6, .inl (mA li))), (b6, .inl (cI, 36, .inl (nA gi))), (b7, .inl (cI, 36, .inl (nA fl))), (b8, .inl (cI, 36, .inl (nA fo))), (b9, .inl (cI, 36, .inl (nA my)))] [(cI, .int), (cL, .boolean)] [.ref a] (fun r u => r = nI (gT w h ba (-2) rw li).2.2.2 ∧ u = [(a, .inr (5, [.int (nI w), .int (nI h), .int (nI (w * h)), .int (nI g), .ref b1, .ref b2, .ref b3, .int (nI bg), .int (nI tl), .int (nI sp), .int (nI 0), .ref b4, .ref b5, .ref b6, .ref b7, .ref b8, .ref b9, .int (nI isf)])), (b1, .inl (cL, 36, .inl (nA ba))), (b2, .inl (cL, 36, .inl (nA vi))), (b3, .inl (cI, 36, .inl (nA to))), (b4, .inl (cI, 6, .inl (mA ((gT w h ba (-2) rw li).2.1)))), (b5, .inl (cI, 6, .inl (mA ((gT w h ba (-2) rw li).2.2.1)))), (b6, .inl (cI, 36, .inl (nA gi))), (b7, .inl (cI, 36, .inl (nA fl))), (b8, .inl (cI, 36, .inl (nA fo))), (b9, .inl (cI, 36, .inl (nA my)))]) := by
  refine en_of (cc := b_MD_queens) (Qc := qI D [(cI, .int), (cL, .boolean)] (fun r u => r = nI (gT w h ba (-2) rw li).2.2.2 ∧ u = [(a, .inr (5, [.int (nI w), .int (nI h), .int (nI (w * h)), .int (nI g), .ref b1, .ref b2, .ref b3, .int (nI bg), .int (nI tl), .int (nI sp), .int (nI 0), .ref b4, .ref b5, .ref b6, .ref b7, .ref b8, .ref b9, .int (nI isf)])), (b1, .inl (cL, 36, .inl (nA ba))), (b2, .inl (cL, 36, .inl (nA vi))), (b3, .inl (cI, 36, .inl (nA to))), (b4, .inl (cI, 6, .inl (mA ((gT w h ba (-2) rw li).2.1)))), (b5, .inl (cI, 6, .inl (mA ((gT w h ba (-2) rw li).2.2.1)))), (b6, .inl (cI, 36, .inl (nA gi))), (b7, .inl (cI, 36, .inl (nA fl))), (b8, .inl (cI, 36, .inl (nA fo))), (b9, .inl (cI, 36, .inl (nA my)))])) (by decide) rfl (Nat.le_of_ble_eq_true rfl) ?_
  intro p e s m below meth c A E hnm hP hD hS ls hl
  have hl : lv_has ls 1 [(0, .ref a)] := hl
  obtain ⟨hx, hb, hml, hown, hts, hr, hlk, hA, hK, hN⟩ := id E
  have ho : ∀ q ∈ Om, q.before _ s = true := fun q h => hts q (List.mem_cons_of_mem _ h)
  refine lv_aload_n hx hb d_MD_queens_0 rfl (lv_at hl 0 rfl) ?_
  refine lv_iconst (v := nI 0) hx hb d_MD_queens_1 (by decide) ?_
  refine va_put (D := D) (ci := 5) (v := .int (nI 0)) (ty := .int) (C := R_MD) (T := F_MD) (N := 18) hx hb ho j_MD t_MD t_MD_ok n_MD hown hK hP hD hS 0 rfl rfl 10 (by decide) (ho _ kf_MD_55) (fun _ h9 => h9) rfl (by decide +kernel) rfl rfl (Nat.le_of_ble_eq_true rfl) d_MD_queens_2 (fun H locs hP hD hS => ?_)
  have hP : va_P D classes [(a, .inr (5, [.int (nI w), .int (nI h), .int (nI (w * h)), .int (nI g), .ref b1, .ref b2, .ref b3, .int (nI bg), .int (nI tl), .int (nI sp), .int (nI 0), .ref b4, .ref b5, .ref b6, .ref b7, .ref b8, .ref b9, .int (nI isf)])), (b1, .inl (cL, 36, .inl (nA ba))), (b2, .inl (cL, 36, .inl (nA vi))), (b3, .inl (cI, 36, .inl (nA to))), (b4, .inl (cI, 6, .inl (mA rw))), (b5, .inl (cI, 6, .inl (mA li))), (b6, .inl (cI, 36, .inl (nA gi))), (b7, .inl (cI, 36, .inl (nA fl))), (b8, .inl (cI, 36, .inl (nA fo))), (b9, .inl (cI, 36, .inl (nA my)))] H := hP
  have hD : va_D A [(a, .inr (5, [.int (nI w), .int (nI h), .int (nI (w * h)), .int (nI g), .ref b1, .ref b2, .ref b3, .int (nI bg), .int (nI tl), .int (nI sp), .int (nI 0), .ref b4, .ref b5, .ref b6, .ref b7, .ref b8, .ref b9, .int (nI isf)])), (b1, .inl (cL, 36, .inl (nA ba))), (b2, .inl (cL, 36, .inl (nA vi))), (b3, .inl (cI, 36, .inl (nA to))), (b4, .inl (cI, 6, .inl (mA rw))), (b5, .inl (cI, 6, .inl (mA li))), (b6, .inl (cI, 36, .inl (nA gi))), (b7, .inl (cI, 36, .inl (nA fl))), (b8, .inl (cI, 36, .inl (nA fo))), (b9, .inl (cI, 36, .inl (nA my)))] := hD
  refine lv_aload_n hx hb d_MD_queens_5 rfl (lv_at hl 0 rfl) ?_
  refine lv_bipush (v := (-2)) hx hb d_MD_queens_6 (by decide) ?_
  refine af_i (wc := [(a, .inr (5, [.int (nI w), .int (nI h), .int (nI (w * h)), .int (nI g), .ref b1, .ref b2, .ref b3, .int (nI bg), .int (nI tl), .int (nI sp), .int (nI 0), .ref b4, .ref b5, .ref b6, .ref b7, .ref b8, .ref b9, .int (nI isf)])), (b1, .inl (cL, 36, .inl (nA ba))), (b2, .inl (cL, 36, .inl (nA vi))), (b3, .inl (cI, 36, .inl (nA to))), (b4, .inl (cI, 6, .inl (mA rw))), (b5, .inl (cI, 6, .inl (mA li))), (b6, .inl (cI, 36, .inl (nA gi))), (b7, .inl (cI, 36, .inl (nA fl))), (b8, .inl (cI, 36, .inl (nA fo))), (b9, .inl (cI, 36, .inl (nA my)))]) (wr := []) (rest := []) [0, 1, 2, 3, 4, 5, 6, 7, 8, 9] [] hP hD hS hA rfl rfl (by decide) (by decide) (rn_V E (As := [.int (-2)]) m_MD_goThrough km_MD_99 (c_MD_goThrough l D cI cL a b1 b2 b3 b4 b5 b6 b7 b8 b9 w h g bg tl sp 0 isf ba vi to rw li gi fl fo my (-2) hw1 hw6 hh6 hba (by decide) hrw7 _) ⟨rfl, rfl, by dsimp only; omega, by dsimp only; omega⟩ (hP.sub [0, 1, 2, 3, 4, 5, 6, 7, 8, 9] rfl) (hD.sub [0, 1, 2, 3, 4, 5, 6, 7, 8, 9] (by decide) rfl) (q0 := 0) (ci := 5) rfl rfl rfl hl.1 rfl (Nat.le_of_ble_eq_true rfl) ⟨Nat.le_of_ble_eq_true rfl, Nat.le_of_ble_eq_true rfl⟩ d_MD_queens_8) (fun r_2 u_1 H locs hw hP hD hS => ?_)
  obtain ⟨rfl, rfl⟩ := hw
  have hP : va_P D classes [(a, .inr (5, [.int (nI w), .int (nI h), .int (nI (w * h)), .int (nI g), .ref b1, .ref b2, .ref b3, .int (nI bg), .int (nI tl), .int (nI sp), .int (nI 0), .ref b4, .ref b5, .ref b6, .ref b7, .ref b8, .ref b9, .int (nI isf)])), (b1, .inl (cL, 36, .inl (nA ba))), (b2, .inl (cL, 36, .inl (nA vi))), (b3, .inl (cI, 36, .inl (nA to))), (b4, .inl (cI, 6, .inl (mA ((gT w h ba (-2) rw li).2.1)))), (b5, .inl (cI, 6, .inl (mA ((gT w h ba (-2) rw li).2.2.1)))), (b6, .inl (cI, 36, .inl (nA gi))), (b7, .inl (cI, 36, .inl (nA fl))), (b8, .inl (cI, 36, .inl (nA fo))), (b9, .inl (cI, 36, .inl (nA my)))] H := hP
  have hD : va_D A [(a, .inr (5, [.int (nI w), .int (nI h), .int (nI (w * h)), .int (nI g), .ref b1, .ref b2, .ref b3, .int (nI bg), .int (nI tl), .int (nI sp), .int (nI 0), .ref b4, .ref b5, .ref b6, .ref b7, .ref b8, .ref b9, .int (nI isf)])), (b1, .inl (cL, 36, .inl (nA ba))), (b2, .inl (cL, 36, .inl (nA vi))), (b3, .inl (cI, 36, .inl (nA to))), (b4, .inl (cI, 6, .inl (mA ((gT w h ba (-2) rw li).2.1)))), (b5, .inl (cI, 6, .inl (mA ((gT w h ba (-2) rw li).2.2.1)))), (b6, .inl (cI, 36, .inl (nA gi))), (b7, .inl (cI, 36, .inl (nA fl))), (b8, .inl (cI, 36, .inl (nA fo))), (b9, .inl (cI, 36, .inl (nA my)))] := hD
  exact rt_i E hP hD hS ⟨rfl, rfl⟩ d_MD_queens_11
set_option maxHeartbeats 1000000 in
set_option maxRecDepth 100000 in
theorem c_MD_queenOut (l : Launch) (D : va_G) (cI cL : ClassId) (a b1 b2 b3 b4 b5 b6 b7 b8 b9 w h g bg tl sp th isf : Nat) (ba vi to rw li gi fl fo my : Nat → Nat) (k cl : Int32) (hout : k < 0 ∨ cl < 0 ∨ ¬ cl < nI w) : CI l y_MD_queen (.code y_MD_queen b_MD_queen 3 (some .int) :: Om) { frames := 3, cells := 0, slots := 0, locals := 68 } D [(a, .inr (5, [.int (nI w), .int (nI h), .int (nI (w * h)), .int (nI g), .ref b1, .ref b2, .ref b3, .int (nI bg), .int (nI tl), .int (nI sp), .int (nI th), .ref b4, .ref b5, .ref b6, .ref b7, .ref b8, .ref b9, .int (nI isf)])), (b1, .inl (cL, 36, .inl (nA ba))), (b2, .inl (cL, 36, .inl (nA vi))), (b3, .inl (cI, 36, .inl (nA to))), (b4, .inl (cI, 6, .inl (mA rw))), (b5, .inl (cI, 6, .inl (mA li))), (b6, .inl (cI, 36, .inl (nA gi))), (b7, .inl (cI, 36, .inl (nA fl))), (b8, .inl (cI, 36, .inl (nA fo))), (b9, .inl (cI, 36, .inl (nA my)))] [(cI, .int), (cL, .boolean)] [.ref a, .int k, .int cl] (fun r u => r = -1 ∧ u = [(a, .inr (5, [.int (nI w), .int (nI h), .int (nI (w * h)), .int (nI g), .ref b1, .ref b2, .ref b3, .int (nI bg), .int (nI tl), .int (nI sp), .int (nI 0), .ref b4, .ref b5, .ref b6, .ref b7, .ref b8, .ref b9, .int (nI isf)])), (b1, .inl (cL, 36, .inl (nA ba))), (b2, .inl (cL, 36, .inl (nA vi))), (b3, .inl (cI, 36, .inl (nA to))), (b4, .inl (cI, 6, .inl (mA rw))), (b5, .inl (cI, 6, .inl (mA li))), (b6, .inl (cI, 36, .inl (nA gi))), (b7, .inl (cI, 36, .inl (nA fl))), (b8, .inl (cI, 36, .inl (nA fo))), (b9, .inl (cI, 36, .inl (nA my)))]) := by
  refine en_of (cc := b_MD_queen) (Qc := qI D [(cI, .int), (cL, .boolean)] (fun r u => r = -1 ∧ u = [(a, .inr (5, [.int (nI w), .int (nI h), .int (nI (w * h)), .int (nI g), .ref b1, .ref b2, .ref b3, .int (nI bg), .int (nI tl), .int (nI sp), .int (nI 0), .ref b4, .ref b5, .ref b6, .ref b7, .ref b8, .ref b9, .int (nI isf)])), (b1, .inl (cL, 36, .inl (nA ba))), (b2, .inl (cL, 36, .inl (nA vi))), (b3, .inl (cI, 36, .inl (nA to))), (b4, .inl (cI, 6, .inl (mA rw))), (b5, .inl (cI, 6, .inl (mA li))), (b6, .inl (cI, 36, .inl (nA gi))), (b7, .inl (cI, 36, .inl (nA fl))), (b8, .inl (cI, 36, .inl (nA fo))), (b9, .inl (cI, 36, .inl (nA my)))])) (by decide) rfl (Nat.le_of_ble_eq_true rfl) ?_
  intro p e s m below meth c A E hnm hP hD hS ls hl
  have hl : lv_has ls 3 [(0, .ref a), (1, .int k), (2, .int cl)] := hl
  obtain ⟨hx, hb, hml, hown, hts, hr, hlk, hA, hK, hN⟩ := id E
  have ho : ∀ q ∈ Om, q.before _ s = true := fun q h => hts q (List.mem_cons_of_mem _ h)
  refine lv_aload_n hx hb d_MD_queen_0 rfl (lv_at hl 0 rfl) ?_
  refine lv_iconst (v := nI 0) hx hb d_MD_queen_1 (by decide) ?_
  refine va_put (D := D) (ci := 5) (v := .int (nI 0)) (ty := .int) (C := R_MD) (T := F_MD) (N := 18) hx hb ho j_MD t_MD t_MD_ok n_MD hown hK hP hD hS 0 rfl rfl 10 (by decide) (ho _ kf_MD_55) (fun _ h9 => h9) rfl (by decide +kernel) rfl rfl (Nat.le_of_ble_eq_true rfl) d_MD_queen_2 (fun H locs hP hD hS => ?_)
  have hP : va_P D classes [(a, .inr (5, [.int (nI w), .int (nI h), .int (nI (w * h)), .int (nI g), .ref b1, .ref b2, .ref b3, .int (nI bg), .int (nI tl), .int (nI sp), .int (nI 0), .ref b4, .ref b5, .ref b6, .ref b7, .ref b8, .ref b9, .int (nI isf)])), (b1, .inl (cL, 36, .inl (nA ba))), (b2, .inl (cL, 36, .inl (nA vi))), (b3, .inl (cI, 36, .inl (nA to))), (b4, .inl (cI, 6, .inl (mA rw))), (b5, .inl (cI, 6, .inl (mA li))), (b6, .inl (cI, 36, .inl (nA gi))), (b7, .inl (cI, 36, .inl (nA fl))), (b8, .inl (cI, 36, .inl (nA fo))), (b9, .inl (cI, 36, .inl (nA my)))] H := hP
  have hD : va_D A [(a, .inr (5, [.int (nI w), .int (nI h), .int (nI (w * h)), .int (nI g), .ref b1, .ref b2, .ref b3, .int (nI bg), .int (nI tl), .int (nI sp), .int (nI 0), .ref b4, .ref b5, .ref b6, .ref b7, .ref b8, .ref b9, .int (nI isf)])), (b1, .inl (cL, 36, .inl (nA ba))), (b2, .inl (cL, 36, .inl (nA vi))), (b3, .inl (cI, 36, .inl (nA to))), (b4, .inl (cI, 6, .inl (mA rw))), (b5, .inl (cI, 6, .inl (mA li))), (b6, .inl (cI, 36, .inl (nA gi))), (b7, .inl (cI, 36, .inl (nA fl))), (b8, .inl (cI, 36, .inl (nA fo))), (b9, .inl (cI, 36, .inl (nA my)))] := hD
  refine lv_iload_n hx hb d_MD_queen_5 rfl (lv_at hl 1 rfl) ?_
  refine lv_if_lt (tgt := 21) hx hb d_MD_queen_6 (by decide) (fun h_1 => ?_) (fun h_1 => ?_)
  · refine lv_iconst (v := (-1)) hx hb d_MD_queen_21 (by decide) ?_
    exact rt_i E hP hD hS ⟨rfl, rfl⟩ d_MD_queen_22
  · refine lv_iload_n hx hb d_MD_queen_9 rfl (lv_at hl 2 rfl) ?_
    refine lv_if_lt (tgt := 21) hx hb d_MD_queen_10 (by decide) (fun h_2 => ?_) (fun h_2 => ?_)
    · refine lv_iconst (v := (-1)) hx hb d_MD_queen_21 (by decide) ?_
      exact rt_i E hP hD hS ⟨rfl, rfl⟩ d_MD_queen_22
    · refine lv_iload_n hx hb d_MD_queen_13 rfl (lv_at hl 2 rfl) ?_
      refine lv_aload_n hx hb d_MD_queen_14 rfl (lv_at hl 0 rfl) ?_
      refine va_get (D := D) (ci := 5) (v := .int (nI w)) (C := R_MD) (T := F_MD) (N := 18) hx hb ho j_MD hown hK hP 0 rfl rfl 0 (by decide) (ho _ kf_MD_42) (fun _ h9 => h9) rfl d_MD_queen_15 ?_
      refine lv_icmp_lt (tgt := 23) hx hb d_MD_queen_18 (by decide) (fun h_3 => ?_) (fun h_3 => ?_)
      · exact absurd hout (by rintro (q | q | q) <;> contradiction)
      · refine lv_iconst (v := (-1)) hx hb d_MD_queen_21 (by decide) ?_
        exact rt_i E hP hD hS ⟨rfl, rfl⟩ d_MD_queen_22
set_option maxHeartbeats 1000000 in
set_option maxRecDepth 100000 in
theorem c_MD_queenIn (l : Launch) (D : va_G) (cI cL : ClassId) (a b1 b2 b3 b4 b5 b6 b7 b8 b9 w h g bg tl sp th isf : Nat) (ba vi to rw li gi fl fo my : Nat → Nat) (k : Int32) (cl : Nat) (hk : ¬ k < 0) (hcl : cl < w) (hw1 : 1 ≤ w) (hw6 : w ≤ 6) (hh6 : h ≤ 6) (hba : ∀ k, ba k ≤ 1) (hrw7 : ∀ k, rw k ≤ 7) : CI l y_MD_queen (.code y_MD_queen b_MD_queen 3 (some .int) :: Om) { frames := 3, cells := 0, slots := 0, locals := 68 } D [(a, .inr (5, [.int (nI w), .int (nI h), .int (nI (w * h)), .int (nI g), .ref b1, .ref b2, .ref b3, .int (nI bg), .int (nI tl), .int (nI sp), .int (nI th), .ref b4, .ref b5, .ref b6, .ref b7, .ref b8, .ref b9, .int (nI isf)])), (b1, .inl (cL, 36, .inl (nA ba))), (b2, .inl (cL, 36, .inl (nA vi))), (b3, .inl (cI, 36, .inl (nA to))), (b4, .inl (cI, 6, .inl (mA rw))), (b5, .inl (cI, 6, .inl (mA li))), (b6, .inl (cI, 36, .inl (nA gi))), (b7, .inl (cI, 36, .inl (nA fl))), (b8, .inl (cI, 36, .inl (nA fo))), (b9, .inl (cI, 36, .inl (nA my)))] [(cI, .int), (cL, .boolean)] [.ref a, .int k, .int (nI cl)] (fun r u => r = (if nI (gT w h ba k rw li).2.2.2 = k + 1 then nI ((gT w h ba k rw li).2.2.1 cl) - 1 else -1) ∧ u = [(a, .inr (5, [.int (nI w), .int (nI h), .int (nI (w * h)), .int (nI g), .ref b1, .ref b2, .ref b3, .int (nI bg), .int (nI tl), .int (nI sp), .int (nI 0), .ref b4, .ref b5, .ref b6, .ref b7, .ref b8, .ref b9, .int (nI isf)])), (b1, .inl (cL, 36, .inl (nA ba))), (b2, .inl (cL, 36, .inl (nA vi))), (b3, .inl (cI, 36, .inl (nA to))), (b4, .inl (cI, 6, .inl (mA ((gT w h ba k rw li).2.1)))), (b5, .inl (cI, 6, .inl (mA ((gT w h ba k rw li).2.2.1)))), (b6, .inl (cI, 36, .inl (nA gi))), (b7, .inl (cI, 36, .inl (nA fl))), (b8, .inl (cI, 36, .inl (nA fo))), (b9, .inl (cI, 36, .inl (nA my)))]) := by
  refine en_of (cc := b_MD_queen) (Qc := qI D [(cI, .int), (cL, .boolean)] (fun r u => r = (if nI (gT w h ba k rw li).2.2.2 = k + 1 then nI ((gT w h ba k rw li).2.2.1 cl) - 1 else -1) ∧ u = [(a, .inr (5, [.int (nI w), .int (nI h), .int (nI (w * h)), .int (nI g), .ref b1, .ref b2, .ref b3, .int (nI bg), .int (nI tl), .int (nI sp), .int (nI 0), .ref b4, .ref b5, .ref b6, .ref b7, .ref b8, .ref b9, .int (nI isf)])), (b1, .inl (cL, 36, .inl (nA ba))), (b2, .inl (cL, 36, .inl (nA vi))), (b3, .inl (cI, 36, .inl (nA to))), (b4, .inl (cI, 6, .inl (mA ((gT w h ba k rw li).2.1)))), (b5, .inl (cI, 6, .inl (mA ((gT w h ba k rw li).2.2.1)))), (b6, .inl (cI, 36, .inl (nA gi))), (b7, .inl (cI, 36, .inl (nA fl))), (b8, .inl (cI, 36, .inl (nA fo))), (b9, .inl (cI, 36, .inl (nA my)))])) (by decide) rfl (Nat.le_of_ble_eq_true rfl) ?_
  intro p e s m below meth c A E hnm hP hD hS ls hl
  have hl : lv_has ls 3 [(0, .ref a), (1, .int k), (2, .int (nI cl))] := hl
  obtain ⟨hx, hb, hml, hown, hts, hr, hlk, hA, hK, hN⟩ := id E
  have ho : ∀ q ∈ Om, q.before _ s = true := fun q h => hts q (List.mem_cons_of_mem _ h)
  refine lv_aload_n hx hb d_MD_queen_0 rfl (lv_at hl 0 rfl) ?_
  refine lv_iconst (v := nI 0) hx hb d_MD_queen_1 (by decide) ?_
  refine va_put (D := D) (ci := 5) (v := .int (nI 0)) (ty := .int) (C := R_MD) (T := F_MD) (N := 18) hx hb ho j_MD t_MD t_MD_ok n_MD hown hK hP hD hS 0 rfl rfl 10 (by decide) (ho _ kf_MD_55) (fun _ h9 => h9) rfl (by decide +kernel) rfl rfl (Nat.le_of_ble_eq_true rfl) d_MD_queen_2 (fun H locs hP hD hS => ?_)
  have hP : va_P D classes [(a, .inr (5, [.int (nI w), .int (nI h), .int (nI (w * h)), .int (nI g), .ref b1, .ref b2, .ref b3, .int (nI bg), .int (nI tl), .int (nI sp), .int (nI 0), .ref b4, .ref b5, .ref b6, .ref b7, .ref b8, .ref b9, .int (nI isf)])), (b1, .inl (cL, 36, .inl (nA ba))), (b2, .inl (cL, 36, .inl (nA vi))), (b3, .inl (cI, 36, .inl (nA to))), (b4, .inl (cI, 6, .inl (mA rw))), (b5, .inl (cI, 6, .inl (mA li))), (b6, .inl (cI, 36, .inl (nA gi))), (b7, .inl (cI, 36, .inl (nA fl))), (b8, .inl (cI, 36, .inl (nA fo))), (b9, .inl (cI, 36, .inl (nA my)))] H := hP
  have hD : va_D A [(a, .inr (5, [.int (nI w), .int (nI h), .int (nI (w * h)), .int (nI g), .ref b1, .ref b2, .ref b3, .int (nI bg), .int (nI tl), .int (nI sp), .int (nI 0), .ref b4, .ref b5, .ref b6, .ref b7, .ref b8, .ref b9, .int (nI isf)])), (b1, .inl (cL, 36, .inl (nA ba))), (b2, .inl (cL, 36, .inl (nA vi))), (b3, .inl (cI, 36, .inl (nA to))), (b4, .inl (cI, 6, .inl (mA rw))), (b5, .inl (cI, 6, .inl (mA li))), (b6, .inl (cI, 36, .inl (nA gi))), (b7, .inl (cI, 36, .inl (nA fl))), (b8, .inl (cI, 36, .inl (nA fo))), (b9, .inl (cI, 36, .inl (nA my)))] := hD
  refine lv_iload_n hx hb d_MD_queen_5 rfl (lv_at hl 1 rfl) ?_
  refine lv_if_lt (tgt := 21) hx hb d_MD_queen_6 (by decide) (fun h9 => absurd h9 hk) (fun _ => ?_)
  refine lv_iload_n hx hb d_MD_queen_9 rfl (lv_at hl 2 rfl) ?_
  refine nr_if_lt (tgt := 21) hx hb d_MD_queen_10 (by decide) (by omega) ?_
  refine lv_iload_n hx hb d_MD_queen_13 rfl (lv_at hl 2 rfl) ?_
  refine lv_aload_n hx hb d_MD_queen_14 rfl (lv_at hl 0 rfl) ?_
  refine va_get (D := D) (ci := 5) (v := .int (nI w)) (C := R_MD) (T := F_MD) (N := 18) hx hb ho j_MD hown hK hP 0 rfl rfl 0 (by decide) (ho _ kf_MD_42) (fun _ h9 => h9) rfl d_MD_queen_15 ?_
  refine nr_icmp_lt (tgt := 23) hx hb d_MD_queen_18 (by decide) (by omega) (by omega) (fun _ => ?_) (fun h9 => absurd h9 (by omega))
  refine lv_aload_n hx hb d_MD_queen_23 rfl (lv_at hl 0 rfl) ?_
  refine lv_iload_n hx hb d_MD_queen_24 rfl (lv_at hl 1 rfl) ?_
  refine af_i (wc := [(a, .inr (5, [.int (nI w), .int (nI h), .int (nI (w * h)), .int (nI g), .ref b1, .ref b2, .ref b3, .int (nI bg), .int (nI tl), .int (nI sp), .int (nI 0), .ref b4, .ref b5, .ref b6, .ref b7, .ref b8, .ref b9, .int (nI isf)])), (b1, .inl (cL, 36, .inl (nA ba))), (b2, .inl (cL, 36, .inl (nA vi))), (b3, .inl (cI, 36, .inl (nA to))), (b4, .inl (cI, 6, .inl (mA rw))), (b5, .inl (cI, 6, .inl (mA li))), (b6, .inl (cI, 36, .inl (nA gi))), (b7, .inl (cI, 36, .inl (nA fl))), (b8, .inl (cI, 36, .inl (nA fo))), (b9, .inl (cI, 36, .inl (nA my)))]) (wr := []) (rest := []) [0, 1, 2, 3, 4, 5, 6, 7, 8, 9] [] hP hD hS hA rfl rfl (by decide) (by decide) (rn_V E (As := [.int k]) m_MD_goThrough km_MD_99 (c_MD_goThrough l D cI cL a b1 b2 b3 b4 b5 b6 b7 b8 b9 w h g bg tl sp 0 isf ba vi to rw li gi fl fo my k hw1 hw6 hh6 hba (up_ok hk) hrw7 _) ⟨rfl, rfl, by dsimp only; omega, by dsimp only; omega⟩ (hP.sub [0, 1, 2, 3, 4, 5, 6, 7, 8, 9] rfl) (hD.sub [0, 1, 2, 3, 4, 5, 6, 7, 8, 9] (by decide) rfl) (q0 := 0) (ci := 5) rfl rfl rfl hl.1 rfl (Nat.le_of_ble_eq_true rfl) ⟨Nat.le_of_ble_eq_true rfl, Nat.le_of_ble_eq_true rfl⟩ d_MD_queen_25) (fun r_2 u_1 H locs hw hP hD hS => ?_)
  obtain ⟨rfl, rfl⟩ := hw
  have hP : va_P D classes [(a, .inr (5, [.int (nI w), .int (nI h), .int (nI (w * h)), .int (nI g), .ref b1, .ref b2, .ref b3, .int (nI bg), .int (nI tl), .int (nI sp), .int (nI 0), .ref b4, .ref b5, .ref b6, .ref b7, .ref b8, .ref b9, .int (nI isf)])), (b1, .inl (cL, 36, .inl (nA ba))), (b2, .inl (cL, 36, .inl (nA vi))), (b3, .inl (cI, 36, .inl (nA to))), (b4, .inl (cI, 6, .inl (mA ((gT w h ba k rw li).2.1)))), (b5, .inl (cI, 6, .inl (mA ((gT w h ba k rw li).2.2.1)))), (b6, .inl (cI, 36, .inl (nA gi))), (b7, .inl (cI, 36, .inl (nA fl))), (b8, .inl (cI, 36, .inl (nA fo))), (b9, .inl (cI, 36, .inl (nA my)))] H := hP
  have hD : va_D A [(a, .inr (5, [.int (nI w), .int (nI h), .int (nI (w * h)), .int (nI g), .ref b1, .ref b2, .ref b3, .int (nI bg), .int (nI tl), .int (nI sp), .int (nI 0), .ref b4, .ref b5, .ref b6, .ref b7, .ref b8, .ref b9, .int (nI isf)])), (b1, .inl (cL, 36, .inl (nA ba))), (b2, .inl (cL, 36, .inl (nA vi))), (b3, .inl (cI, 36, .inl (nA to))), (b4, .inl (cI, 6, .inl (mA ((gT w h ba k rw li).2.1)))), (b5, .inl (cI, 6, .inl (mA ((gT w h ba k rw li).2.2.1)))), (b6, .inl (cI, 36, .inl (nA gi))), (b7, .inl (cI, 36, .inl (nA fl))), (b8, .inl (cI, 36, .inl (nA fo))), (b9, .inl (cI, 36, .inl (nA my)))] := hD
  refine lv_iload_n hx hb d_MD_queen_28 rfl (lv_at hl 1 rfl) ?_
  refine lv_iconst (v := 1) hx hb d_MD_queen_29 (by decide) ?_
  refine lv_iadd hx hb d_MD_queen_30 ?_
  refine lv_icmp_ne (tgt := 43) hx hb d_MD_queen_31 (by decide) (fun h_3 => ?_) (fun h_3 => ?_)
  · refine lv_iconst (v := (-1)) hx hb d_MD_queen_43 (by decide) ?_
    exact rt_i E hP hD hS ⟨by first | rw [if_pos h_3] | rw [if_neg h_3], rfl⟩ d_MD_queen_44
  · refine lv_aload_n hx hb d_MD_queen_34 rfl (lv_at hl 0 rfl) ?_
    refine va_get (D := D) (ci := 5) (v := .ref b5) (C := R_MD) (T := F_MD) (N := 18) hx hb ho j_MD hown hK hP 0 rfl rfl 12 (by decide) (ho _ kf_MD_23) (fun _ h9 => h9) rfl d_MD_queen_35 ?_
    refine lv_iload_n hx hb d_MD_queen_38 rfl (lv_at hl 2 rfl) ?_
    refine nr_mald hx hb hK hP 5 0 rfl rfl (i := cl) (by omega) (by decide) d_MD_queen_39 ?_
    refine lv_goto (tgt := 44) hx hb d_MD_queen_40 (by decide) ?_
    exact rt_i E hP hD hS ⟨by first | rw [if_pos h_3] | rw [if_neg h_3], rfl⟩ d_MD_queen_44
def mBt (x : Nat) : Nat → Nat → Nat → Nat
  | 0, _, y => y
  | m + 1, k, y => if k < 8 then mBt x m (k + 1) (y + x / 2 ^ k % 2) else y
theorem nr_ishr {p : Program} {l : Launch} {e : Env} {R : Room} {s : State} {m : MethodId} {args : Array Value} {below : List Frame} {meth : Method} {c : Code} {H : Heap} {locs : List Loc} {cells slots : Nat} {Q : State → Prop} {pc : Nat} {ls : Array Slot} {rest : List Value} {cc : ByteArray} (hx : p.tables.exec = Jvm.exec) (hb : c.code = cc) {a b : Nat} (hd : decode cc pc = .ok (.ishr, 1)) (ha : a < 2 ^ 31) (h : b < 32) (k : W p l e R s m args below meth c H locs cells slots Q (F0 m (pc + 1) ls (.int (nI (a / 2 ^ b)) :: rest))) : W p l e R s m args below meth c H locs cells slots Q (F0 m pc ls (.int (nI b) :: .int (nI a) :: rest)) :=
  lv_ishr hx hb hd (by rw [pk_shrN ha _ b (nx_sl b h)]; exact k)
theorem mcmp {u c : Nat} (hu : u < 2 ^ 30) (hc : c < 2 ^ 30) : nI u - 1 < nI c ↔ u ≤ c := by
  rcases u with _ | u
  · refine ⟨fun _ => Nat.zero_le _, fun _ => ?_⟩
    rw [show nI 0 - 1 = (-1 : Int32) by decide, Int32.lt_iff_toInt_lt, nI_toInt (by omega)]
    have : (-1 : Int32).toInt = -1 := by decide
    omega
  · rw [nI_pred, nI_ltI (by omega) (by omega)]
    omega
/-- c > upTo, upTo written as u - 1 -/
theorem nr_mgt {p : Program} {l : Launch} {e : Env} {R : Room} {s : State} {m : MethodId} {args : Array Value} {below : List Frame} {meth : Method} {c : Code} {H : Heap} {locs : List Loc} {cells slots : Nat} {Q : State → Prop} {pc : Nat} {ls : Array Slot} {rest : List Value} {cc : ByteArray} (hx : p.tables.exec = Jvm.exec) (hb : c.code = cc) {a b : Nat} {off : Int} {tgt : Nat} (hd : decode cc pc = .ok (.if_icmp .gt off, 3)) (ht : (pc : Int) + off = (tgt : Int)) (ha : a < 2 ^ 30) (hb2 : b < 2 ^ 30) (kt : b ≤ a → W p l e R s m args below meth c H locs cells slots Q (F0 m tgt ls rest)) (kf : a < b → W p l e R s m args below meth c H locs cells slots Q (F0 m (pc + 3) ls rest)) : W p l e R s m args below meth c H locs cells slots Q (F0 m pc ls (.int (nI b - 1) :: .int (nI a) :: rest)) :=
  lv_icmp_gt hx hb hd ht (fun h => kt ((mcmp hb2 ha).mp h)) (fun h => kf (Nat.lt_of_not_le (fun q => h ((mcmp hb2 ha).mpr q))))
theorem nr_mle {p : Program} {l : Launch} {e : Env} {R : Room} {s : State} {m : MethodId} {args : Array Value} {below : List Frame} {meth : Method} {c : Code} {H : Heap} {locs : List Loc} {cells slots : Nat} {Q : State → Prop} {pc : Nat} {ls : Array Slot} {rest : List Value} {cc : ByteArray} (hx : p.tables.exec = Jvm.exec) (hb : c.code = cc) {a b : Nat} {off : Int} {tgt : Nat} (hd : decode cc pc = .ok (.if_icmp .le off, 3)) (ht : (pc : Int) + off = (tgt : Int)) (ha : a < 2 ^ 30) (hb2 : b < 2 ^ 30) (kt : a < b → W p l e R s m args below meth c H locs cells slots Q (F0 m tgt ls rest)) (kf : b ≤ a → W p l e R s m args below meth c H locs cells slots Q (F0 m (pc + 3) ls rest)) : W p l e R s m args below meth c H locs cells slots Q (F0 m pc ls (.int (nI b - 1) :: .int (nI a) :: rest)) :=
  lv_icmp_le hx hb hd ht (fun h => kt (Nat.lt_of_not_le (fun q => absurd ((mcmp hb2 ha).mpr q) (Int32.not_lt.mpr h)))) (fun h => kf ((mcmp hb2 ha).mp (Int32.not_le.mp h)))
set_option maxHeartbeats 1000000 in
set_option maxRecDepth 100000 in
theorem L_MD_bits {p : Program} {l : Launch} {e : Env} {s : State} {m : MethodId} {args : Array Value} {below : List Frame} {meth : Method} {c : Code} {A : Nat → Prop} {D : va_G} {cI cL : ClassId} {c0 : Cond} {post : Int32 → va_W → Prop} (x : Nat) (hx0 : x < 2 ^ 31) (E : En p s m args meth c b_MD_bits 3 (c0 :: Om) R_MD (some .int) A D [(cI, .int), (cL, .boolean)]) : ∀ (m1 : Nat) (k : Nat) (y : Nat), k ≤ 8 → 8 < k + m1 → post (nI (mBt x m1 k y)) [] → ∀ (H : Heap) (locs : List Loc), va_P D classes [] H → va_D A [] → va_S A s.heap H locs → ∀ ls : Array Slot, lv_has ls 3 [(0, .int (nI x)), (1, .int (nI y)), (2, .int (nI k))] → W p l e { frames := 0, cells := 0, slots := 0, locals := 0 } s m args below meth c H locs 0 0 (MQ below (qI D [(cI, .int), (cL, .boolean)] post A) args s 0 0 A) (F0 m 4 ls []) := by
  obtain ⟨hx, hb, hml, hown, hts, hr, hlk, hA, hK, hN⟩ := id E
  have ho : ∀ q ∈ Om, q.before _ s = true := fun q h => hts q (List.mem_cons_of_mem _ h)
  intro m1
  induction m1 with
  | zero =>
    intro k y h1 h2 hq
    exact absurd h2 (by omega)
  | succ m1 ih =>
    intro k y h1 h2 hq H locs hP hD hS ls hl
    refine lv_iload_n hx hb d_MD_bits_4 rfl (lv_at hl 2 rfl) ?_
    refine lv_bipush (v := nI 8) hx hb d_MD_bits_5 (by decide) ?_
    refine nr_icmp_ge (tgt := 24) hx hb d_MD_bits_7 (by decide) (by omega) (by omega) (fun h_1 => ?_) (fun h_1 => ?_)
    · refine lv_iload_n hx hb d_MD_bits_24 rfl (lv_at hl 1 rfl) ?_
      exact rt_i E hP hD hS (by rw [mBt, if_neg (by omega)] at hq; exact hq) d_MD_bits_25
    · refine lv_iload_n hx hb d_MD_bits_10 rfl (lv_at hl 1 rfl) ?_
      refine lv_iload_n hx hb d_MD_bits_11 rfl (lv_at hl 0 rfl) ?_
      refine lv_iload_n hx hb d_MD_bits_12 rfl (lv_at hl 2 rfl) ?_
      refine nr_ishr hx hb d_MD_bits_13 (by omega) (by omega) ?_
      refine lv_iconst (v := nI 1) hx hb d_MD_bits_14 (by decide) ?_
      refine nr_iand1 hx hb d_MD_bits_15 ?_
      refine nr_iadd hx hb d_MD_bits_16 ?_
      refine lv_istore_n (lv' := [(1, .int (nI (y + ((x / 2 ^ k) % 2)))), (0, .int (nI x)), (2, .int (nI k))]) hx hb d_MD_bits_17 rfl hl (by decide) rfl (fun ls hl => ?_)
      refine nr_iinc (lv' := [(2, .int (nI (k + 1))), (1, .int (nI (y + ((x / 2 ^ k) % 2)))), (0, .int (nI x))]) hx hb d_MD_bits_18 hl (k := 2) rfl (by decide) rfl (fun ls hl => ?_)
      refine lv_goto (tgt := 4) hx hb d_MD_bits_21 (by decide) ?_
      exact ih (k + 1) (y + x / 2 ^ k % 2) (by omega) (by omega) (by rw [mBt, if_pos (by omega)] at hq; exact hq) _ _ hP hD hS ls (lv_sub hl [2, 1, 0] rfl)
set_option maxHeartbeats 1000000 in
set_option maxRecDepth 100000 in
theorem c_MD_bits (l : Launch) (D : va_G) (cI cL : ClassId) (x : Nat) (hx0 : x < 2 ^ 31) : CI l y_MD_bits (.code y_MD_bits b_MD_bits 3 (some .int) :: Om) { frames := 0, cells := 0, slots := 0, locals := 0 } D [] [(cI, .int), (cL, .boolean)] [.int (nI x)] (fun r u => r = nI (mBt x 9 0 0) ∧ u = []) := by
  refine en_of (cc := b_MD_bits) (Qc := qI D [(cI, .int), (cL, .boolean)] (fun r u => r = nI (mBt x 9 0 0) ∧ u = [])) (by decide) rfl (Nat.le_of_ble_eq_true rfl) ?_
  intro p e s m below meth c A E hnm hP hD hS ls hl
  have hl : lv_has ls 3 [(0, .int (nI x))] := hl
  obtain ⟨hx, hb, hml, hown, hts, hr, hlk, hA, hK, hN⟩ := id E
  have ho : ∀ q ∈ Om, q.before _ s = true := fun q h => hts q (List.mem_cons_of_mem _ h)
  refine lv_iconst (v := nI 0) hx hb d_MD_bits_0 (by decide) ?_
  refine lv_istore_n (lv' := [(1, .int (nI 0)), (0, .int (nI x))]) hx hb d_MD_bits_1 rfl hl (by decide) rfl (fun ls hl => ?_)
  refine lv_iconst (v := nI 0) hx hb d_MD_bits_2 (by decide) ?_
  refine lv_istore_n (lv' := [(2, .int (nI 0)), (1, .int (nI 0)), (0, .int (nI x))]) hx hb d_MD_bits_3 rfl hl (by decide) rfl (fun ls hl => ?_)
  exact L_MD_bits x hx0 E 9 0 0 (by omega) (by omega) ⟨rfl, rfl⟩ _ _ hP hD hS ls (lv_sub hl [2, 1, 0] rfl)
/-- what stands at c when the cells below u are filled -/
abbrev mAtc (fl gi : Nat → Nat) (u c : Nat) : Nat := if c < u then fl c else gi c
abbrev mSee (w c k : Nat) : Prop := c ≠ k ∧ (c % w = k % w ∨ c / w = k / w)
def mFr (w n : Nat) (fl gi : Nat → Nat) (k u : Nat) : Nat → Nat → Nat → Nat
  | 0, _, us => us
  | m + 1, c, us => if c < n then mFr w n fl gi k u m (c + 1) (if mSee w c k then us ||| 2 ^ mAtc fl gi u c else us) else us
theorem mFr_s {w n : Nat} {fl gi : Nat → Nat} {k u m c us : Nat} (h : c < n) : mFr w n fl gi k u (m + 1) c us = mFr w n fl gi k u m (c + 1) (if mSee w c k then us ||| 2 ^ mAtc fl gi u c else us) := by rw [mFr, if_pos h]
theorem mFr_e {w n : Nat} {fl gi : Nat → Nat} {k u m c us : Nat} (h : ¬ c < n) : mFr w n fl gi k u (m + 1) c us = us := by rw [mFr, if_neg h]
def mFree (w n g : Nat) (fl gi : Nat → Nat) (k u : Nat) : Nat := if gi k = 0 then (2 * 2 ^ g - 2) &&& (mFr w n fl gi k u (n + 1) 0 0 ^^^ 4294967295) else ((2 * 2 ^ g - 2) &&& (mFr w n fl gi k u (n + 1) 0 0 ^^^ 4294967295)) &&& 2 ^ gi k
theorem mFree_lt {w n g : Nat} {fl gi : Nat → Nat} {k u : Nat} (hg : g ≤ 6) : mFree w n g fl gi k u < 128 := by
  have e : 2 * 2 ^ g - 2 < 128 := by
    have : 2 ^ g ≤ 2 ^ 6 := Nat.pow_le_pow_right (by decide) hg
    omega
  unfold mFree
  split
  · exact Nat.lt_of_le_of_lt Nat.and_le_left e
  · exact Nat.lt_of_le_of_lt Nat.and_le_left (Nat.lt_of_le_of_lt Nat.and_le_left e)
set_option maxHeartbeats 1000000 in
set_option maxRecDepth 100000 in
theorem L_MD_free {p : Program} {l : Launch} {e : Env} {s : State} {m : MethodId} {args : Array Value} {below : List Frame} {meth : Method} {c : Code} {A : Nat → Prop} {D : va_G} {cI cL : ClassId} {c0 : Cond} {post : Int32 → va_W → Prop} (a b1 b2 b3 b4 b5 b6 b7 b8 b9 w h g bg tl sp th isf : Nat) (ba vi to rw li gi fl fo my : Nat → Nat) (k u : Nat) (hk : k < w * h) (hu : u ≤ 36) (hw1 : 1 ≤ w) (hw6 : w ≤ 6) (hh6 : h ≤ 6) (hg : g ≤ 6) (hfl : ∀ k, fl k ≤ 7) (hgi : ∀ k, gi k ≤ 6) (E : En p s m args meth c b_MD_free 6 (c0 :: Om) R_MD (some .int) A D [(cI, .int), (cL, .boolean)]) : ∀ (m1 : Nat) (cc0 : Nat) (us : Nat), cc0 ≤ w * h → w * h < cc0 + m1 → post (nI (if gi k = 0 then (2 * 2 ^ g - 2) &&& (mFr w (w * h) fl gi k u m1 cc0 us ^^^ 4294967295) else ((2 * 2 ^ g - 2) &&& (mFr w (w * h) fl gi k u m1 cc0 us ^^^ 4294967295)) &&& 2 ^ gi k)) [(a, .inr (5, [.int (nI w), .int (nI h), .int (nI (w * h)), .int (nI g), .ref b1, .ref b2, .ref b3, .int (nI bg), .int (nI tl), .int (nI sp), .int (nI th), .ref b4, .ref b5, .ref b6, .ref b7, .ref b8, .ref b9, .int (nI isf)])), (b1, .inl (cL, 36, .inl (nA ba))), (b2, .inl (cL, 36, .inl (nA vi))), (b3, .inl (cI, 36, .inl (nA to))), (b4, .inl (cI, 6, .inl (mA rw))), (b5, .inl (cI, 6, .inl (mA li))), (b6, .inl (cI, 36, .inl (nA gi))), (b7, .inl (cI, 36, .inl (nA fl))), (b8, .inl (cI, 36, .inl (nA fo))), (b9, .inl (cI, 36, .inl (nA my)))] → ∀ (H : Heap) (locs : List Loc), va_P D classes [(a, .inr (5, [.int (nI w), .int (nI h), .int (nI (w * h)), .int (nI g), .ref b1, .ref b2, .ref b3, .int (nI bg), .int (nI tl), .int (nI sp), .int (nI th), .ref b4, .ref b5, .ref b6, .ref b7, .ref b8, .ref b9, .int (nI isf)])), (b1, .inl (cL, 36, .inl (nA ba))), (b2, .inl (cL, 36, .inl (nA vi))), (b3, .inl (cI, 36, .inl (nA to))), (b4, .inl (cI, 6, .inl (mA rw))), (b5, .inl (cI, 6, .inl (mA li))), (b6, .inl (cI, 36, .inl (nA gi))), (b7, .inl (cI, 36, .inl (nA fl))), (b8, .inl (cI, 36, .inl (nA fo))), (b9, .inl (cI, 36, .inl (nA my)))] H → va_D A [(a, .inr (5, [.int (nI w), .int (nI h), .int (nI (w * h)), .int (nI g), .ref b1, .ref b2, .ref b3, .int (nI bg), .int (nI tl), .int (nI sp), .int (nI th), .ref b4, .ref b5, .ref b6, .ref b7, .ref b8, .ref b9, .int (nI isf)])), (b1, .inl (cL, 36, .inl (nA ba))), (b2, .inl (cL, 36, .inl (nA vi))), (b3, .inl (cI, 36, .inl (nA to))), (b4, .inl (cI, 6, .inl (mA rw))), (b5, .inl (cI, 6, .inl (mA li))), (b6, .inl (cI, 36, .inl (nA gi))), (b7, .inl (cI, 36, .inl (nA fl))), (b8, .inl (cI, 36, .inl (nA fo))), (b9, .inl (cI, 36, .inl (nA my)))] → va_S A s.heap H locs → ∀ ls : Array Slot, lv_has ls 6 [(0, .ref a), (1, .int (nI k)), (2, .int (nI u - 1)), (3, .int (nI us)), (4, .int (nI cc0))] → W p l e { frames := 0, cells := 0, slots := 0, locals := 0 } s m args below meth c H locs 0 0 (MQ below (qI D [(cI, .int), (cL, .boolean)] post A) args s 0 0 A) (F0 m 5 ls []) := by
  obtain ⟨hx, hb, hml, hown, hts, hr, hlk, hA, hK, hN⟩ := id E
  have ho : ∀ q ∈ Om, q.before _ s = true := fun q h => hts q (List.mem_cons_of_mem _ h)
  intro m1
  induction m1 with
  | zero =>
    intro cc0 us h1 h2 hq
    exact absurd h2 (by omega)
  | succ m1 ih =>
    intro cc0 us h1 h2 hq H locs hP hD hS ls hl
    refine lv_iload hx hb d_MD_free_5 (lv_at hl 4 rfl) ?_
    have h36 := wh36 hw6 hh6
    refine lv_aload_n hx hb d_MD_free_7 rfl (lv_at hl 0 rfl) ?_
    refine va_get (D := D) (ci := 5) (v := .int (nI (w * h))) (C := R_MD) (T := F_MD) (N := 18) hx hb ho j_MD hown hK hP 0 rfl rfl 2 (by decide) (ho _ kf_MD_49) (fun _ h9 => h9) rfl d_MD_free_8 ?_
    refine nr_icmp_ge (tgt := 98) hx hb d_MD_free_11 (by decide) (by omega) (by omega) (fun h_1 => ?_) (fun h_1 => ?_)
    · refine lv_iconst (v := nI 2) hx hb d_MD_free_98 (by decide) ?_
      refine lv_aload_n hx hb d_MD_free_99 rfl (lv_at hl 0 rfl) ?_
      refine va_get (D := D) (ci := 5) (v := .int (nI g)) (C := R_MD) (T := F_MD) (N := 18) hx hb ho j_MD hown hK hP 0 rfl rfl 3 (by decide) (ho _ kf_MD_52) (fun _ h9 => h9) rfl d_MD_free_100 ?_
      have hp9 : 1 ≤ 2 ^ g := Nat.pow_pos (by decide)
      refine nr_ishl hx hb d_MD_free_103 (by omega) ?_
      refine lv_iconst (v := nI 2) hx hb d_MD_free_104 (by decide) ?_
      refine nr_isub hx hb d_MD_free_105 (by omega) ?_
      refine lv_iload_n hx hb d_MD_free_106 rfl (lv_at hl 3 rfl) ?_
      refine lv_iconst (v := nI 4294967295) hx hb d_MD_free_107 (by decide) ?_
      refine nr_ixor hx hb d_MD_free_108 ?_
      refine nr_iand hx hb d_MD_free_109 ?_
      refine lv_istore (lv' := [(4, .int (nI (((2 * 2 ^ g) - 2) &&& (us ^^^ 4294967295)))), (0, .ref a), (1, .int (nI k)), (2, .int (nI u - 1)), (3, .int (nI us))]) hx hb d_MD_free_110 hl (by decide) rfl (fun ls hl => ?_)
      refine lv_aload_n hx hb d_MD_free_112 rfl (lv_at hl 1 rfl) ?_
      refine va_get (D := D) (ci := 5) (v := .ref b6) (C := R_MD) (T := F_MD) (N := 18) hx hb ho j_MD hown hK hP 0 rfl rfl 13 (by decide) (ho _ kf_MD_26) (fun _ h9 => h9) rfl d_MD_free_113 ?_
      refine lv_iload_n hx hb d_MD_free_116 rfl (lv_at hl 2 rfl) ?_
      have hgk := hgi k
      refine nr_ialdN hx hb hK hP 6 0 rfl rfl (i := k) (by omega) (by decide) d_MD_free_117 ?_
      refine nr_if_ne (tgt := 126) hx hb d_MD_free_118 (by decide) (by omega) (fun h_2 => ?_) (fun h_2 => ?_)
      · refine lv_iload hx hb d_MD_free_126 (lv_at hl 0 rfl) ?_
        refine lv_iconst (v := nI 1) hx hb d_MD_free_128 (by decide) ?_
        refine lv_aload_n hx hb d_MD_free_129 rfl (lv_at hl 1 rfl) ?_
        refine va_get (D := D) (ci := 5) (v := .ref b6) (C := R_MD) (T := F_MD) (N := 18) hx hb ho j_MD hown hK hP 0 rfl rfl 13 (by decide) (ho _ kf_MD_26) (fun _ h9 => h9) rfl d_MD_free_130 ?_
        refine lv_iload_n hx hb d_MD_free_133 rfl (lv_at hl 2 rfl) ?_
        refine nr_ialdN hx hb hK hP 6 0 rfl rfl (i := k) (by omega) (by decide) d_MD_free_134 ?_
        refine nr_ishl1 hx hb d_MD_free_135 (by omega) ?_
        refine nr_iand hx hb d_MD_free_136 ?_
        exact rt_i E hP hD hS (by rw [mFr_e (by omega), if_neg (by omega)] at hq; exact hq) d_MD_free_137
      · refine lv_iload hx hb d_MD_free_121 (lv_at hl 0 rfl) ?_
        refine lv_goto (tgt := 137) hx hb d_MD_free_123 (by decide) ?_
        exact rt_i E hP hD hS (by rw [mFr_e (by omega), if_pos (by omega)] at hq; exact hq) d_MD_free_137
    · have hf9 := hfl cc0
      have hg9 := hgi cc0
      have e1 : cc0 % w < 6 := Nat.lt_of_lt_of_le (Nat.mod_lt _ hw1) hw6
      have e2 : k % w < 6 := Nat.lt_of_lt_of_le (Nat.mod_lt _ hw1) hw6
      have e3 : cc0 / w ≤ cc0 := Nat.div_le_self _ _
      have e4 : k / w ≤ k := Nat.div_le_self _ _
      refine lv_iload hx hb d_MD_free_14 (lv_at hl 4 rfl) ?_
      refine lv_iload_n hx hb d_MD_free_16 rfl (lv_at hl 1 rfl) ?_
      refine nr_icmp_eq (tgt := 56) hx hb d_MD_free_17 (by decide) (by omega) (by omega) (fun h_3 => ?_) (fun h_3 => ?_)
      · refine lv_iconst (v := nI 0) hx hb d_MD_free_56 (by decide) ?_
        refine lv_istore (lv' := [(5, .int (nI 0)), (0, .ref a), (1, .int (nI k)), (2, .int (nI u - 1)), (3, .int (nI us)), (4, .int (nI cc0))]) hx hb d_MD_free_57 hl (by decide) rfl (fun ls hl => ?_)
        refine lv_iload hx hb d_MD_free_59 (lv_at hl 0 rfl) ?_
        refine nr_if_eq (tgt := 92) hx hb d_MD_free_61 (by decide) (by decide) (fun _ => ?_) (fun h9 => absurd h9 (by decide))
        refine nr_iinc (lv' := [(4, .int (nI (cc0 + 1))), (5, .int (nI 0)), (0, .ref a), (1, .int (nI k)), (2, .int (nI u - 1)), (3, .int (nI us))]) hx hb d_MD_free_92 hl (k := 5) rfl (by decide) rfl (fun ls hl => ?_)
        refine lv_goto (tgt := 5) hx hb d_MD_free_95 (by decide) ?_
        exact ih (cc0 + 1) us (by omega) (by omega) (by rw [mFr_s (by omega), show (if mSee w cc0 k then us ||| 2 ^ mAtc fl gi u cc0 else us) = us from if_neg (by rintro ⟨z1, z2⟩; omega)] at hq; exact hq) _ _ hP hD hS ls (lv_sub hl [2, 3, 4, 5, 0] rfl)
      · refine lv_iload hx hb d_MD_free_20 (lv_at hl 4 rfl) ?_
        refine lv_aload_n hx hb d_MD_free_22 rfl (lv_at hl 0 rfl) ?_
        refine va_get (D := D) (ci := 5) (v := .int (nI w)) (C := R_MD) (T := F_MD) (N := 18) hx hb ho j_MD hown hK hP 0 rfl rfl 0 (by decide) (ho _ kf_MD_42) (fun _ h9 => h9) rfl d_MD_free_23 ?_
        refine nr_irem hx hb d_MD_free_26 (by omega) (by omega) (by omega) ?_
        refine lv_iload_n hx hb d_MD_free_27 rfl (lv_at hl 1 rfl) ?_
        refine lv_aload_n hx hb d_MD_free_28 rfl (lv_at hl 0 rfl) ?_
        refine va_get (D := D) (ci := 5) (v := .int (nI w)) (C := R_MD) (T := F_MD) (N := 18) hx hb ho j_MD hown hK hP 0 rfl rfl 0 (by decide) (ho _ kf_MD_42) (fun _ h9 => h9) rfl d_MD_free_29 ?_
        refine nr_irem hx hb d_MD_free_32 (by omega) (by omega) (by omega) ?_
        refine nr_icmp_eq (tgt := 52) hx hb d_MD_free_33 (by decide) (by omega) (by omega) (fun h_4 => ?_) (fun h_4 => ?_)
        · refine lv_iconst (v := nI 1) hx hb d_MD_free_52 (by decide) ?_
          refine lv_goto (tgt := 57) hx hb d_MD_free_53 (by decide) ?_
          refine lv_istore (lv' := [(5, .int (nI 1)), (0, .ref a), (1, .int (nI k)), (2, .int (nI u - 1)), (3, .int (nI us)), (4, .int (nI cc0))]) hx hb d_MD_free_57 hl (by decide) rfl (fun ls hl => ?_)
          refine lv_iload hx hb d_MD_free_59 (lv_at hl 0 rfl) ?_
          refine nr_if_eq (tgt := 92) hx hb d_MD_free_61 (by decide) (by decide) (fun h9 => absurd h9 (by decide)) (fun _ => ?_)
          refine lv_iload_n hx hb d_MD_free_64 rfl (lv_at hl 4 rfl) ?_
          refine lv_iconst (v := nI 1) hx hb d_MD_free_65 (by decide) ?_
          refine lv_iload hx hb d_MD_free_66 (lv_at hl 5 rfl) ?_
          refine lv_iload_n hx hb d_MD_free_68 rfl (lv_at hl 3 rfl) ?_
          refine nr_mgt (tgt := 82) hx hb d_MD_free_69 (by decide) (by omega) (by omega) (fun h_5 => ?_) (fun h_5 => ?_)
          · refine lv_aload_n hx hb d_MD_free_82 rfl (lv_at hl 1 rfl) ?_
            refine va_get (D := D) (ci := 5) (v := .ref b6) (C := R_MD) (T := F_MD) (N := 18) hx hb ho j_MD hown hK hP 0 rfl rfl 13 (by decide) (ho _ kf_MD_26) (fun _ h9 => h9) rfl d_MD_free_83 ?_
            refine lv_iload hx hb d_MD_free_86 (lv_at hl 5 rfl) ?_
            refine nr_ialdN hx hb hK hP 6 0 rfl rfl (i := cc0) (by omega) (by decide) d_MD_free_88 ?_
            refine nr_ishl1 hx hb d_MD_free_89 (by omega) ?_
            refine nr_ior hx hb d_MD_free_90 ?_
            refine lv_istore_n (lv' := [(3, .int (nI (us ||| (2 ^ (gi cc0))))), (5, .int (nI 1)), (0, .ref a), (1, .int (nI k)), (2, .int (nI u - 1)), (4, .int (nI cc0))]) hx hb d_MD_free_91 rfl hl (by decide) rfl (fun ls hl => ?_)
            refine nr_iinc (lv' := [(4, .int (nI (cc0 + 1))), (3, .int (nI (us ||| (2 ^ (gi cc0))))), (5, .int (nI 1)), (0, .ref a), (1, .int (nI k)), (2, .int (nI u - 1))]) hx hb d_MD_free_92 hl (k := 5) rfl (by decide) rfl (fun ls hl => ?_)
            refine lv_goto (tgt := 5) hx hb d_MD_free_95 (by decide) ?_
            exact ih (cc0 + 1) (us ||| (2 ^ (gi cc0))) (by omega) (by omega) (by rw [mFr_s (by omega), show (if mSee w cc0 k then us ||| 2 ^ mAtc fl gi u cc0 else us) = us ||| (2 ^ (gi cc0)) by rw [if_pos ⟨by omega, by omega⟩, show mAtc fl gi u cc0 = gi cc0 from if_neg (by omega)]] at hq; exact hq) _ _ hP hD hS ls (lv_sub hl [3, 4, 5, 1, 0] rfl)
          · refine lv_aload_n hx hb d_MD_free_72 rfl (lv_at hl 1 rfl) ?_
            refine va_get (D := D) (ci := 5) (v := .ref b7) (C := R_MD) (T := F_MD) (N := 18) hx hb ho j_MD hown hK hP 0 rfl rfl 14 (by decide) (ho _ kf_MD_29) (fun _ h9 => h9) rfl d_MD_free_73 ?_
            refine lv_iload hx hb d_MD_free_76 (lv_at hl 5 rfl) ?_
            refine nr_ialdN hx hb hK hP 7 0 rfl rfl (i := cc0) (by omega) (by decide) d_MD_free_78 ?_
            refine lv_goto (tgt := 89) hx hb d_MD_free_79 (by decide) ?_
            refine nr_ishl1 hx hb d_MD_free_89 (by omega) ?_
            refine nr_ior hx hb d_MD_free_90 ?_
            refine lv_istore_n (lv' := [(3, .int (nI (us ||| (2 ^ (fl cc0))))), (5, .int (nI 1)), (0, .ref a), (1, .int (nI k)), (2, .int (nI u - 1)), (4, .int (nI cc0))]) hx hb d_MD_free_91 rfl hl (by decide) rfl (fun ls hl => ?_)
            refine nr_iinc (lv' := [(4, .int (nI (cc0 + 1))), (3, .int (nI (us ||| (2 ^ (fl cc0))))), (5, .int (nI 1)), (0, .ref a), (1, .int (nI k)), (2, .int (nI u - 1))]) hx hb d_MD_free_92 hl (k := 5) rfl (by decide) rfl (fun ls hl => ?_)
            refine lv_goto (tgt := 5) hx hb d_MD_free_95 (by decide) ?_
            exact ih (cc0 + 1) (us ||| (2 ^ (fl cc0))) (by omega) (by omega) (by rw [mFr_s (by omega), show (if mSee w cc0 k then us ||| 2 ^ mAtc fl gi u cc0 else us) = us ||| (2 ^ (fl cc0)) by rw [if_pos ⟨by omega, by omega⟩, show mAtc fl gi u cc0 = fl cc0 from if_pos (by omega)]] at hq; exact hq) _ _ hP hD hS ls (lv_sub hl [3, 4, 5, 1, 0] rfl)
        · refine lv_iload hx hb d_MD_free_36 (lv_at hl 4 rfl) ?_
          refine lv_aload_n hx hb d_MD_free_38 rfl (lv_at hl 0 rfl) ?_
          refine va_get (D := D) (ci := 5) (v := .int (nI w)) (C := R_MD) (T := F_MD) (N := 18) hx hb ho j_MD hown hK hP 0 rfl rfl 0 (by decide) (ho _ kf_MD_42) (fun _ h9 => h9) rfl d_MD_free_39 ?_
          refine nr_idiv hx hb d_MD_free_42 (by omega) (by omega) (by omega) ?_
          refine lv_iload_n hx hb d_MD_free_43 rfl (lv_at hl 1 rfl) ?_
          refine lv_aload_n hx hb d_MD_free_44 rfl (lv_at hl 0 rfl) ?_
          refine va_get (D := D) (ci := 5) (v := .int (nI w)) (C := R_MD) (T := F_MD) (N := 18) hx hb ho j_MD hown hK hP 0 rfl rfl 0 (by decide) (ho _ kf_MD_42) (fun _ h9 => h9) rfl d_MD_free_45 ?_
          refine nr_idiv hx hb d_MD_free_48 (by omega) (by omega) (by omega) ?_
          refine nr_icmp_ne (tgt := 56) hx hb d_MD_free_49 (by decide) (by omega) (by omega) (fun h_6 => ?_) (fun h_6 => ?_)
          · refine lv_iconst (v := nI 0) hx hb d_MD_free_56 (by decide) ?_
            refine lv_istore (lv' := [(5, .int (nI 0)), (0, .ref a), (1, .int (nI k)), (2, .int (nI u - 1)), (3, .int (nI us)), (4, .int (nI cc0))]) hx hb d_MD_free_57 hl (by decide) rfl (fun ls hl => ?_)
            refine lv_iload hx hb d_MD_free_59 (lv_at hl 0 rfl) ?_
            refine nr_if_eq (tgt := 92) hx hb d_MD_free_61 (by decide) (by decide) (fun _ => ?_) (fun h9 => absurd h9 (by decide))
            refine nr_iinc (lv' := [(4, .int (nI (cc0 + 1))), (5, .int (nI 0)), (0, .ref a), (1, .int (nI k)), (2, .int (nI u - 1)), (3, .int (nI us))]) hx hb d_MD_free_92 hl (k := 5) rfl (by decide) rfl (fun ls hl => ?_)
            refine lv_goto (tgt := 5) hx hb d_MD_free_95 (by decide) ?_
            exact ih (cc0 + 1) us (by omega) (by omega) (by rw [mFr_s (by omega), show (if mSee w cc0 k then us ||| 2 ^ mAtc fl gi u cc0 else us) = us from if_neg (by rintro ⟨z1, z2⟩; omega)] at hq; exact hq) _ _ hP hD hS ls (lv_sub hl [2, 3, 4, 5, 0] rfl)
          · refine lv_iconst (v := nI 1) hx hb d_MD_free_52 (by decide) ?_
            refine lv_goto (tgt := 57) hx hb d_MD_free_53 (by decide) ?_
            refine lv_istore (lv' := [(5, .int (nI 1)), (0, .ref a), (1, .int (nI k)), (2, .int (nI u - 1)), (3, .int (nI us)), (4, .int (nI cc0))]) hx hb d_MD_free_57 hl (by decide) rfl (fun ls hl => ?_)
            refine lv_iload hx hb d_MD_free_59 (lv_at hl 0 rfl) ?_
            refine nr_if_eq (tgt := 92) hx hb d_MD_free_61 (by decide) (by decide) (fun h9 => absurd h9 (by decide)) (fun _ => ?_)
            refine lv_iload_n hx hb d_MD_free_64 rfl (lv_at hl 4 rfl) ?_
            refine lv_iconst (v := nI 1) hx hb d_MD_free_65 (by decide) ?_
            refine lv_iload hx hb d_MD_free_66 (lv_at hl 5 rfl) ?_
            refine lv_iload_n hx hb d_MD_free_68 rfl (lv_at hl 3 rfl) ?_
            refine nr_mgt (tgt := 82) hx hb d_MD_free_69 (by decide) (by omega) (by omega) (fun h_7 => ?_) (fun h_7 => ?_)
            · refine lv_aload_n hx hb d_MD_free_82 rfl (lv_at hl 1 rfl) ?_
              refine va_get (D := D) (ci := 5) (v := .ref b6) (C := R_MD) (T := F_MD) (N := 18) hx hb ho j_MD hown hK hP 0 rfl rfl 13 (by decide) (ho _ kf_MD_26) (fun _ h9 => h9) rfl d_MD_free_83 ?_
              refine lv_iload hx hb d_MD_free_86 (lv_at hl 5 rfl) ?_
              refine nr_ialdN hx hb hK hP 6 0 rfl rfl (i := cc0) (by omega) (by decide) d_MD_free_88 ?_
              refine nr_ishl1 hx hb d_MD_free_89 (by omega) ?_
              refine nr_ior hx hb d_MD_free_90 ?_
              refine lv_istore_n (lv' := [(3, .int (nI (us ||| (2 ^ (gi cc0))))), (5, .int (nI 1)), (0, .ref a), (1, .int (nI k)), (2, .int (nI u - 1)), (4, .int (nI cc0))]) hx hb d_MD_free_91 rfl hl (by decide) rfl (fun ls hl => ?_)
              refine nr_iinc (lv' := [(4, .int (nI (cc0 + 1))), (3, .int (nI (us ||| (2 ^ (gi cc0))))), (5, .int (nI 1)), (0, .ref a), (1, .int (nI k)), (2, .int (nI u - 1))]) hx hb d_MD_free_92 hl (k := 5) rfl (by decide) rfl (fun ls hl => ?_)
              refine lv_goto (tgt := 5) hx hb d_MD_free_95 (by decide) ?_
              exact ih (cc0 + 1) (us ||| (2 ^ (gi cc0))) (by omega) (by omega) (by rw [mFr_s (by omega), show (if mSee w cc0 k then us ||| 2 ^ mAtc fl gi u cc0 else us) = us ||| (2 ^ (gi cc0)) by rw [if_pos ⟨by omega, by omega⟩, show mAtc fl gi u cc0 = gi cc0 from if_neg (by omega)]] at hq; exact hq) _ _ hP hD hS ls (lv_sub hl [3, 4, 5, 1, 0] rfl)
            · refine lv_aload_n hx hb d_MD_free_72 rfl (lv_at hl 1 rfl) ?_
              refine va_get (D := D) (ci := 5) (v := .ref b7) (C := R_MD) (T := F_MD) (N := 18) hx hb ho j_MD hown hK hP 0 rfl rfl 14 (by decide) (ho _ kf_MD_29) (fun _ h9 => h9) rfl d_MD_free_73 ?_
              refine lv_iload hx hb d_MD_free_76 (lv_at hl 5 rfl) ?_
              refine nr_ialdN hx hb hK hP 7 0 rfl rfl (i := cc0) (by omega) (by decide) d_MD_free_78 ?_
              refine lv_goto (tgt := 89) hx hb d_MD_free_79 (by decide) ?_
              refine nr_ishl1 hx hb d_MD_free_89 (by omega) ?_
              refine nr_ior hx hb d_MD_free_90 ?_
              refine lv_istore_n (lv' := [(3, .int (nI (us ||| (2 ^ (fl cc0))))), (5, .int (nI 1)), (0, .ref a), (1, .int (nI k)), (2, .int (nI u - 1)), (4, .int (nI cc0))]) hx hb d_MD_free_91 rfl hl (by decide) rfl (fun ls hl => ?_)
              refine nr_iinc (lv' := [(4, .int (nI (cc0 + 1))), (3, .int (nI (us ||| (2 ^ (fl cc0))))), (5, .int (nI 1)), (0, .ref a), (1, .int (nI k)), (2, .int (nI u - 1))]) hx hb d_MD_free_92 hl (k := 5) rfl (by decide) rfl (fun ls hl => ?_)
              refine lv_goto (tgt := 5) hx hb d_MD_free_95 (by decide) ?_
              exact ih (cc0 + 1) (us ||| (2 ^ (fl cc0))) (by omega) (by omega) (by rw [mFr_s (by omega), show (if mSee w cc0 k then us ||| 2 ^ mAtc fl gi u cc0 else us) = us ||| (2 ^ (fl cc0)) by rw [if_pos ⟨by omega, by omega⟩, show mAtc fl gi u cc0 = fl cc0 from if_pos (by omega)]] at hq; exact hq) _ _ hP hD hS ls (lv_sub hl [3, 4, 5, 1, 0] rfl)
set_option maxHeartbeats 1000000 in
set_option maxRecDepth 100000 in
theorem c_MD_free (l : Launch) (D : va_G) (cI cL : ClassId) (a b1 b2 b3 b4 b5 b6 b7 b8 b9 w h g bg tl sp th isf : Nat) (ba vi to rw li gi fl fo my : Nat → Nat) (k u : Nat) (hk : k < w * h) (hu : u ≤ 36) (hw1 : 1 ≤ w) (hw6 : w ≤ 6) (hh6 : h ≤ 6) (hg : g ≤ 6) (hfl : ∀ k, fl k ≤ 7) (hgi : ∀ k, gi k ≤ 6) : CI l y_MD_free (.code y_MD_free b_MD_free 6 (some .int) :: Om) { frames := 0, cells := 0, slots := 0, locals := 0 } D [(a, .inr (5, [.int (nI w), .int (nI h), .int (nI (w * h)), .int (nI g), .ref b1, .ref b2, .ref b3, .int (nI bg), .int (nI tl), .int (nI sp), .int (nI th), .ref b4, .ref b5, .ref b6, .ref b7, .ref b8, .ref b9, .int (nI isf)])), (b1, .inl (cL, 36, .inl (nA ba))), (b2, .inl (cL, 36, .inl (nA vi))), (b3, .inl (cI, 36, .inl (nA to))), (b4, .inl (cI, 6, .inl (mA rw))), (b5, .inl (cI, 6, .inl (mA li))), (b6, .inl (cI, 36, .inl (nA gi))), (b7, .inl (cI, 36, .inl (nA fl))), (b8, .inl (cI, 36, .inl (nA fo))), (b9, .inl (cI, 36, .inl (nA my)))] [(cI, .int), (cL, .boolean)] [.ref a, .int (nI k), .int (nI u - 1)] (fun r u1 => r = nI (mFree w (w * h) g fl gi k u) ∧ u1 = [(a, .inr (5, [.int (nI w), .int (nI h), .int (nI (w * h)), .int (nI g), .ref b1, .ref b2, .ref b3, .int (nI bg), .int (nI tl), .int (nI sp), .int (nI th), .ref b4, .ref b5, .ref b6, .ref b7, .ref b8, .ref b9, .int (nI isf)])), (b1, .inl (cL, 36, .inl (nA ba))), (b2, .inl (cL, 36, .inl (nA vi))), (b3, .inl (cI, 36, .inl (nA to))), (b4, .inl (cI, 6, .inl (mA rw))), (b5, .inl (cI, 6, .inl (mA li))), (b6, .inl (cI, 36, .inl (nA gi))), (b7, .inl (cI, 36, .inl (nA fl))), (b8, .inl (cI, 36, .inl (nA fo))), (b9, .inl (cI, 36, .inl (nA my)))]) := by
  refine en_of (cc := b_MD_free) (Qc := qI D [(cI, .int), (cL, .boolean)] (fun r u1 => r = nI (mFree w (w * h) g fl gi k u) ∧ u1 = [(a, .inr (5, [.int (nI w), .int (nI h), .int (nI (w * h)), .int (nI g), .ref b1, .ref b2, .ref b3, .int (nI bg), .int (nI tl), .int (nI sp), .int (nI th), .ref b4, .ref b5, .ref b6, .ref b7, .ref b8, .ref b9, .int (nI isf)])), (b1, .inl (cL, 36, .inl (nA ba))), (b2, .inl (cL, 36, .inl (nA vi))), (b3, .inl (cI, 36, .inl (nA to))), (b4, .inl (cI, 6, .inl (mA rw))), (b5, .inl (cI, 6, .inl (mA li))), (b6, .inl (cI, 36, .inl (nA gi))), (b7, .inl (cI, 36, .inl (nA fl))), (b8, .inl (cI, 36, .inl (nA fo))), (b9, .inl (cI, 36, .inl (nA my)))])) (by decide) rfl (Nat.le_of_ble_eq_true rfl) ?_
  intro p e s m below meth c A E hnm hP hD hS ls hl
  have hl : lv_has ls 6 [(0, .ref a), (1, .int (nI k)), (2, .int (nI u - 1))] := hl
  obtain ⟨hx, hb, hml, hown, hts, hr, hlk, hA, hK, hN⟩ := id E
  have ho : ∀ q ∈ Om, q.before _ s = true := fun q h => hts q (List.mem_cons_of_mem _ h)
  refine lv_iconst (v := nI 0) hx hb d_MD_free_0 (by decide) ?_
  refine lv_istore_n (lv' := [(3, .int (nI 0)), (0, .ref a), (1, .int (nI k)), (2, .int (nI u - 1))]) hx hb d_MD_free_1 rfl hl (by decide) rfl (fun ls hl => ?_)
  refine lv_iconst (v := nI 0) hx hb d_MD_free_2 (by decide) ?_
  refine lv_istore (lv' := [(4, .int (nI 0)), (3, .int (nI 0)), (0, .ref a), (1, .int (nI k)), (2, .int (nI u - 1))]) hx hb d_MD_free_3 hl (by decide) rfl (fun ls hl => ?_)
  exact L_MD_free a b1 b2 b3 b4 b5 b6 b7 b8 b9 w h g bg tl sp th isf ba vi to rw li gi fl fo my k u hk hu hw1 hw6 hh6 hg hfl hgi E (w * h + 1) 0 0 (by omega) (by omega) ⟨rfl, rfl⟩ _ _ hP hD hS ls (lv_sub hl [2, 3, 4, 1, 0] rfl)
