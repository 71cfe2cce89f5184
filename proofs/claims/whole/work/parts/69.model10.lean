/-! the reference: fillThrough from its entry, fill, fills, magic -/
/-- all fillings, or most of them: how many; filled, found, may -/
def fT (w h g : Nat) (gi : Nat → Nat) (most kp : Nat) (fl fo my : Nat → Nat) : FS :=
  if mGn w h g fl gi 0 my = 0 then (fl, fo, mMz w h g fl gi 0 my, 0)
  else if most = 0 then (va_up fl 0 0, fo, mMz w h g fl gi 0 my, 0)
  else (fI w h g gi (fP w h g gi most kp (w * h - 1)) 0 (g + 1) 0 (va_up fl 0 0, fo, mMz w h g fl gi 0 my, 0)).2
set_option maxHeartbeats 1000000 in
set_option maxRecDepth 100000 in
theorem L_MD_fx_stop {p : Program} {l : Launch} {e : Env} {s : State} {m : MethodId} {args : Array Value} {below : List Frame} {meth : Method} {c : Code} {A : Nat → Prop} {D : va_G} {cI cL : ClassId} {c0 : Cond} {post : Int32 → va_W → Prop} (a b1 b2 b3 b4 b5 b6 b7 b8 b9 w h g bg tl sp th isf : Nat) (ba vi to rw li gi fl fo my : Nat → Nat) (most kp cnt : Nat) (hmost : most ≤ 1000) (x4 : Nat) (hx4 : x4 < 36) (hst : ¬ cnt < most) (hc9 : cnt ≤ 1000) (E : En p s m args meth c b_MD_fillThrough 6 (c0 :: Om) R_MD (some .int) A D [(cI, .int), (cL, .boolean)]) (hq : post (nI cnt) [(a, .inr (5, [.int (nI w), .int (nI h), .int (nI (w * h)), .int (nI g), .ref b1, .ref b2, .ref b3, .int (nI bg), .int (nI tl), .int (nI sp), .int (nI th), .ref b4, .ref b5, .ref b6, .ref b7, .ref b8, .ref b9, .int (nI isf)])), (b1, .inl (cL, 36, .inl (nA ba))), (b2, .inl (cL, 36, .inl (nA vi))), (b3, .inl (cI, 36, .inl (nA to))), (b4, .inl (cI, 6, .inl (mA rw))), (b5, .inl (cI, 6, .inl (mA li))), (b6, .inl (cI, 36, .inl (nA gi))), (b7, .inl (cI, 36, .inl (nA fl))), (b8, .inl (cI, 36, .inl (nA fo))), (b9, .inl (cI, 36, .inl (nA my)))]) (H : Heap) (locs : List Loc) (hP : va_P D classes [(a, .inr (5, [.int (nI w), .int (nI h), .int (nI (w * h)), .int (nI g), .ref b1, .ref b2, .ref b3, .int (nI bg), .int (nI tl), .int (nI sp), .int (nI th), .ref b4, .ref b5, .ref b6, .ref b7, .ref b8, .ref b9, .int (nI isf)])), (b1, .inl (cL, 36, .inl (nA ba))), (b2, .inl (cL, 36, .inl (nA vi))), (b3, .inl (cI, 36, .inl (nA to))), (b4, .inl (cI, 6, .inl (mA rw))), (b5, .inl (cI, 6, .inl (mA li))), (b6, .inl (cI, 36, .inl (nA gi))), (b7, .inl (cI, 36, .inl (nA fl))), (b8, .inl (cI, 36, .inl (nA fo))), (b9, .inl (cI, 36, .inl (nA my)))] H) (hD : va_D A [(a, .inr (5, [.int (nI w), .int (nI h), .int (nI (w * h)), .int (nI g), .ref b1, .ref b2, .ref b3, .int (nI bg), .int (nI tl), .int (nI sp), .int (nI th), .ref b4, .ref b5, .ref b6, .ref b7, .ref b8, .ref b9, .int (nI isf)])), (b1, .inl (cL, 36, .inl (nA ba))), (b2, .inl (cL, 36, .inl (nA vi))), (b3, .inl (cI, 36, .inl (nA to))), (b4, .inl (cI, 6, .inl (mA rw))), (b5, .inl (cI, 6, .inl (mA li))), (b6, .inl (cI, 36, .inl (nA gi))), (b7, .inl (cI, 36, .inl (nA fl))), (b8, .inl (cI, 36, .inl (nA fo))), (b9, .inl (cI, 36, .inl (nA my)))]) (hS : va_S A s.heap H locs) (ls : Array Slot) (hl : lv_has ls 6 [(0, .ref a), (1, .int (nI most)), (2, .int (nI kp)), (3, .int (nI cnt)), (4, .int (nI x4))]) : W p l e { frames := 3, cells := 0, slots := 0, locals := 72 } s m args below meth c H locs 0 0 (MQ below (qI D [(cI, .int), (cL, .boolean)] post A) args s 0 0 A) (F0 m 22 ls []) := by
  obtain ⟨hx, hb, hml, hown, hts, hr, hlk, hA, hK, hN⟩ := id E
  have ho : ∀ q ∈ Om, q.before _ s = true := fun q h => hts q (List.mem_cons_of_mem _ h)
  refine lv_iload hx hb d_MD_fillThrough_22 (lv_at hl 4 rfl) ?_
  refine nr_if_lt (tgt := 159) hx hb d_MD_fillThrough_24 (by decide) (by omega) ?_
  refine lv_iload_n hx hb d_MD_fillThrough_27 rfl (lv_at hl 3 rfl) ?_
  refine lv_iload_n hx hb d_MD_fillThrough_28 rfl (lv_at hl 1 rfl) ?_
  refine nr_icmp_ge (tgt := 159) hx hb d_MD_fillThrough_29 (by decide) (by omega) (by omega) (fun _ => ?_) (fun h9 => absurd h9 (by omega))
  refine lv_iload_n hx hb d_MD_fillThrough_159 rfl (lv_at hl 3 rfl) ?_
  exact rt_i E hP hD hS hq d_MD_fillThrough_160
set_option maxHeartbeats 1000000 in
set_option maxRecDepth 100000 in
theorem L_MD_fx_end {p : Program} {l : Launch} {e : Env} {s : State} {m : MethodId} {args : Array Value} {below : List Frame} {meth : Method} {c : Code} {A : Nat → Prop} {D : va_G} {cI cL : ClassId} {c0 : Cond} {post : Int32 → va_W → Prop} (a b1 b2 b3 b4 b5 b6 b7 b8 b9 w h g bg tl sp th isf : Nat) (ba vi to rw li gi fl fo my : Nat → Nat) (most kp cnt : Nat) (hmost : most ≤ 1000) (E : En p s m args meth c b_MD_fillThrough 6 (c0 :: Om) R_MD (some .int) A D [(cI, .int), (cL, .boolean)]) (hq : post (nI cnt) [(a, .inr (5, [.int (nI w), .int (nI h), .int (nI (w * h)), .int (nI g), .ref b1, .ref b2, .ref b3, .int (nI bg), .int (nI tl), .int (nI sp), .int (nI th), .ref b4, .ref b5, .ref b6, .ref b7, .ref b8, .ref b9, .int (nI isf)])), (b1, .inl (cL, 36, .inl (nA ba))), (b2, .inl (cL, 36, .inl (nA vi))), (b3, .inl (cI, 36, .inl (nA to))), (b4, .inl (cI, 6, .inl (mA rw))), (b5, .inl (cI, 6, .inl (mA li))), (b6, .inl (cI, 36, .inl (nA gi))), (b7, .inl (cI, 36, .inl (nA fl))), (b8, .inl (cI, 36, .inl (nA fo))), (b9, .inl (cI, 36, .inl (nA my)))]) (H : Heap) (locs : List Loc) (hP : va_P D classes [(a, .inr (5, [.int (nI w), .int (nI h), .int (nI (w * h)), .int (nI g), .ref b1, .ref b2, .ref b3, .int (nI bg), .int (nI tl), .int (nI sp), .int (nI th), .ref b4, .ref b5, .ref b6, .ref b7, .ref b8, .ref b9, .int (nI isf)])), (b1, .inl (cL, 36, .inl (nA ba))), (b2, .inl (cL, 36, .inl (nA vi))), (b3, .inl (cI, 36, .inl (nA to))), (b4, .inl (cI, 6, .inl (mA rw))), (b5, .inl (cI, 6, .inl (mA li))), (b6, .inl (cI, 36, .inl (nA gi))), (b7, .inl (cI, 36, .inl (nA fl))), (b8, .inl (cI, 36, .inl (nA fo))), (b9, .inl (cI, 36, .inl (nA my)))] H) (hD : va_D A [(a, .inr (5, [.int (nI w), .int (nI h), .int (nI (w * h)), .int (nI g), .ref b1, .ref b2, .ref b3, .int (nI bg), .int (nI tl), .int (nI sp), .int (nI th), .ref b4, .ref b5, .ref b6, .ref b7, .ref b8, .ref b9, .int (nI isf)])), (b1, .inl (cL, 36, .inl (nA ba))), (b2, .inl (cL, 36, .inl (nA vi))), (b3, .inl (cI, 36, .inl (nA to))), (b4, .inl (cI, 6, .inl (mA rw))), (b5, .inl (cI, 6, .inl (mA li))), (b6, .inl (cI, 36, .inl (nA gi))), (b7, .inl (cI, 36, .inl (nA fl))), (b8, .inl (cI, 36, .inl (nA fo))), (b9, .inl (cI, 36, .inl (nA my)))]) (hS : va_S A s.heap H locs) (ls : Array Slot) (hl : lv_has ls 6 [(0, .ref a), (1, .int (nI most)), (2, .int (nI kp)), (3, .int (nI cnt)), (4, .int (nI 0 - 1))]) : W p l e { frames := 3, cells := 0, slots := 0, locals := 72 } s m args below meth c H locs 0 0 (MQ below (qI D [(cI, .int), (cL, .boolean)] post A) args s 0 0 A) (F0 m 22 ls []) := by
  obtain ⟨hx, hb, hml, hown, hts, hr, hlk, hA, hK, hN⟩ := id E
  have ho : ∀ q ∈ Om, q.before _ s = true := fun q h => hts q (List.mem_cons_of_mem _ h)
  refine lv_iload hx hb d_MD_fillThrough_22 (lv_at hl 4 rfl) ?_
  refine lv_if_lt (tgt := 159) hx hb d_MD_fillThrough_24 (by decide) (fun _ => ?_) (fun h9 => absurd (by decide) h9)
  refine lv_iload_n hx hb d_MD_fillThrough_159 rfl (lv_at hl 3 rfl) ?_
  exact rt_i E hP hD hS hq d_MD_fillThrough_160
set_option maxHeartbeats 1000000 in
set_option maxRecDepth 100000 in
theorem c_MD_fillThrough (l : Launch) (D : va_G) (cI cL : ClassId) (a b1 b2 b3 b4 b5 b6 b7 b8 b9 w h g bg tl sp th isf : Nat) (ba vi to rw li gi fl fo my : Nat → Nat) (most kp : Nat) (hw1 : 1 ≤ w) (hw6 : w ≤ 6) (hh6 : h ≤ 6) (hg : g ≤ 6) (hgi : ∀ k, gi k ≤ 6) (hmost : most ≤ 1000) (hkp : kp ≤ 1) (hfl : ∀ k, fl k ≤ 7) (hmy : ∀ k, my k < 128) (h0 : 1 ≤ w * h) : CI l y_MD_fillThrough (.code y_MD_fillThrough b_MD_fillThrough 6 (some .int) :: Om) { frames := 3, cells := 0, slots := 0, locals := 72 } D [(a, .inr (5, [.int (nI w), .int (nI h), .int (nI (w * h)), .int (nI g), .ref b1, .ref b2, .ref b3, .int (nI bg), .int (nI tl), .int (nI sp), .int (nI th), .ref b4, .ref b5, .ref b6, .ref b7, .ref b8, .ref b9, .int (nI isf)])), (b1, .inl (cL, 36, .inl (nA ba))), (b2, .inl (cL, 36, .inl (nA vi))), (b3, .inl (cI, 36, .inl (nA to))), (b4, .inl (cI, 6, .inl (mA rw))), (b5, .inl (cI, 6, .inl (mA li))), (b6, .inl (cI, 36, .inl (nA gi))), (b7, .inl (cI, 36, .inl (nA fl))), (b8, .inl (cI, 36, .inl (nA fo))), (b9, .inl (cI, 36, .inl (nA my)))] [(cI, .int), (cL, .boolean)] [.ref a, .int (nI most), .int (nI kp)] (fun r u1 => r = nI (fT w h g gi most kp fl fo my).2.2.2 ∧ u1 = [(a, .inr (5, [.int (nI w), .int (nI h), .int (nI (w * h)), .int (nI g), .ref b1, .ref b2, .ref b3, .int (nI bg), .int (nI tl), .int (nI sp), .int (nI th), .ref b4, .ref b5, .ref b6, .ref b7, .ref b8, .ref b9, .int (nI isf)])), (b1, .inl (cL, 36, .inl (nA ba))), (b2, .inl (cL, 36, .inl (nA vi))), (b3, .inl (cI, 36, .inl (nA to))), (b4, .inl (cI, 6, .inl (mA rw))), (b5, .inl (cI, 6, .inl (mA li))), (b6, .inl (cI, 36, .inl (nA gi))), (b7, .inl (cI, 36, .inl (nA ((fT w h g gi most kp fl fo my).1)))), (b8, .inl (cI, 36, .inl (nA ((fT w h g gi most kp fl fo my).2.1)))), (b9, .inl (cI, 36, .inl (nA ((fT w h g gi most kp fl fo my).2.2.1))))]) := by
  refine en_of (cc := b_MD_fillThrough) (Qc := qI D [(cI, .int), (cL, .boolean)] (fun r u1 => r = nI (fT w h g gi most kp fl fo my).2.2.2 ∧ u1 = [(a, .inr (5, [.int (nI w), .int (nI h), .int (nI (w * h)), .int (nI g), .ref b1, .ref b2, .ref b3, .int (nI bg), .int (nI tl), .int (nI sp), .int (nI th), .ref b4, .ref b5, .ref b6, .ref b7, .ref b8, .ref b9, .int (nI isf)])), (b1, .inl (cL, 36, .inl (nA ba))), (b2, .inl (cL, 36, .inl (nA vi))), (b3, .inl (cI, 36, .inl (nA to))), (b4, .inl (cI, 6, .inl (mA rw))), (b5, .inl (cI, 6, .inl (mA li))), (b6, .inl (cI, 36, .inl (nA gi))), (b7, .inl (cI, 36, .inl (nA ((fT w h g gi most kp fl fo my).1)))), (b8, .inl (cI, 36, .inl (nA ((fT w h g gi most kp fl fo my).2.1)))), (b9, .inl (cI, 36, .inl (nA ((fT w h g gi most kp fl fo my).2.2.1))))])) (by decide) rfl (Nat.le_of_ble_eq_true rfl) ?_
  intro p e s m below meth c A E hnm hP hD hS ls hl
  have hl : lv_has ls 6 [(0, .ref a), (1, .int (nI most)), (2, .int (nI kp))] := hl
  obtain ⟨hx, hb, hml, hown, hts, hr, hlk, hA, hK, hN⟩ := id E
  have ho : ∀ q ∈ Om, q.before _ s = true := fun q h => hts q (List.mem_cons_of_mem _ h)
  have h36 := wh36 hw6 hh6
  refine lv_iconst (v := nI 0) hx hb d_MD_fillThrough_0 (by decide) ?_
  refine lv_istore_n (lv' := [(3, .int (nI 0)), (0, .ref a), (1, .int (nI most)), (2, .int (nI kp))]) hx hb d_MD_fillThrough_1 rfl hl (by decide) rfl (fun ls hl => ?_)
  refine lv_iconst (v := nI 0) hx hb d_MD_fillThrough_2 (by decide) ?_
  refine lv_istore (lv' := [(4, .int (nI 0)), (3, .int (nI 0)), (0, .ref a), (1, .int (nI most)), (2, .int (nI kp))]) hx hb d_MD_fillThrough_3 hl (by decide) rfl (fun ls hl => ?_)
  refine lv_aload_n hx hb d_MD_fillThrough_5 rfl (lv_at hl 2 rfl) ?_
  refine lv_iconst (v := nI 0 - 1) hx hb d_MD_fillThrough_6 (by decide) ?_
  have hgn := mGn_1 w h g fl gi 0 my
  refine af_i (wc := [(a, .inr (5, [.int (nI w), .int (nI h), .int (nI (w * h)), .int (nI g), .ref b1, .ref b2, .ref b3, .int (nI bg), .int (nI tl), .int (nI sp), .int (nI th), .ref b4, .ref b5, .ref b6, .ref b7, .ref b8, .ref b9, .int (nI isf)])), (b1, .inl (cL, 36, .inl (nA ba))), (b2, .inl (cL, 36, .inl (nA vi))), (b3, .inl (cI, 36, .inl (nA to))), (b4, .inl (cI, 6, .inl (mA rw))), (b5, .inl (cI, 6, .inl (mA li))), (b6, .inl (cI, 36, .inl (nA gi))), (b7, .inl (cI, 36, .inl (nA fl))), (b8, .inl (cI, 36, .inl (nA fo))), (b9, .inl (cI, 36, .inl (nA my)))]) (wr := []) (rest := []) [0, 1, 2, 3, 4, 5, 6, 7, 8, 9] [] hP hD hS hA rfl rfl (by decide) (by decide) (rn_V E (As := [.int (nI 0 - 1)]) m_MD_goesOn km_MD_116 (c_MD_goesOn l D cI cL a b1 b2 b3 b4 b5 b6 b7 b8 b9 w h g bg tl sp th isf ba vi to rw li gi fl fo my 0 (by omega) hw1 hw6 hh6 hg hfl hgi hmy _) ⟨rfl, rfl, by dsimp only; omega, by dsimp only; omega⟩ (hP.sub [0, 1, 2, 3, 4, 5, 6, 7, 8, 9] rfl) (hD.sub [0, 1, 2, 3, 4, 5, 6, 7, 8, 9] (by decide) rfl) (q0 := 0) (ci := 5) rfl rfl rfl hl.1 rfl (Nat.le_of_ble_eq_true rfl) ⟨Nat.le_of_ble_eq_true rfl, Nat.le_of_ble_eq_true rfl⟩ d_MD_fillThrough_7) (fun r_2 u_1 H locs hw hP hD hS => ?_)
  obtain ⟨rfl, rfl⟩ := hw
  have hP : va_P D classes [(a, .inr (5, [.int (nI w), .int (nI h), .int (nI (w * h)), .int (nI g), .ref b1, .ref b2, .ref b3, .int (nI bg), .int (nI tl), .int (nI sp), .int (nI th), .ref b4, .ref b5, .ref b6, .ref b7, .ref b8, .ref b9, .int (nI isf)])), (b1, .inl (cL, 36, .inl (nA ba))), (b2, .inl (cL, 36, .inl (nA vi))), (b3, .inl (cI, 36, .inl (nA to))), (b4, .inl (cI, 6, .inl (mA rw))), (b5, .inl (cI, 6, .inl (mA li))), (b6, .inl (cI, 36, .inl (nA gi))), (b7, .inl (cI, 36, .inl (nA fl))), (b8, .inl (cI, 36, .inl (nA fo))), (b9, .inl (cI, 36, .inl (nA (mMz w h g fl gi 0 my))))] H := hP
  have hD : va_D A [(a, .inr (5, [.int (nI w), .int (nI h), .int (nI (w * h)), .int (nI g), .ref b1, .ref b2, .ref b3, .int (nI bg), .int (nI tl), .int (nI sp), .int (nI th), .ref b4, .ref b5, .ref b6, .ref b7, .ref b8, .ref b9, .int (nI isf)])), (b1, .inl (cL, 36, .inl (nA ba))), (b2, .inl (cL, 36, .inl (nA vi))), (b3, .inl (cI, 36, .inl (nA to))), (b4, .inl (cI, 6, .inl (mA rw))), (b5, .inl (cI, 6, .inl (mA li))), (b6, .inl (cI, 36, .inl (nA gi))), (b7, .inl (cI, 36, .inl (nA fl))), (b8, .inl (cI, 36, .inl (nA fo))), (b9, .inl (cI, 36, .inl (nA (mMz w h g fl gi 0 my))))] := hD
  refine nr_if_ne (tgt := 15) hx hb d_MD_fillThrough_10 (by decide) (by omega) (fun h_3 => ?_) (fun h_3 => ?_)
  · refine lv_aload_n hx hb d_MD_fillThrough_15 rfl (lv_at hl 2 rfl) ?_
    refine va_get (D := D) (ci := 5) (v := .ref b7) (C := R_MD) (T := F_MD) (N := 18) hx hb ho j_MD hown hK hP 0 rfl rfl 14 (by decide) (ho _ kf_MD_29) (fun _ h9 => h9) rfl d_MD_fillThrough_16 ?_
    refine lv_iconst (v := nI 0) hx hb d_MD_fillThrough_19 (by decide) ?_
    refine lv_iconst (v := nI 0) hx hb d_MD_fillThrough_20 (by decide) ?_
    refine nr_iast hx hb hK hP hD hS 7 0 rfl rfl (i := 0) (x := 0) (by omega) (by decide) d_MD_fillThrough_21 (fun H locs hP hD hS => ?_)
    have hP : va_P D classes [(a, .inr (5, [.int (nI w), .int (nI h), .int (nI (w * h)), .int (nI g), .ref b1, .ref b2, .ref b3, .int (nI bg), .int (nI tl), .int (nI sp), .int (nI th), .ref b4, .ref b5, .ref b6, .ref b7, .ref b8, .ref b9, .int (nI isf)])), (b1, .inl (cL, 36, .inl (nA ba))), (b2, .inl (cL, 36, .inl (nA vi))), (b3, .inl (cI, 36, .inl (nA to))), (b4, .inl (cI, 6, .inl (mA rw))), (b5, .inl (cI, 6, .inl (mA li))), (b6, .inl (cI, 36, .inl (nA gi))), (b7, .inl (cI, 36, .inl (nA (va_up fl 0 0)))), (b8, .inl (cI, 36, .inl (nA fo))), (b9, .inl (cI, 36, .inl (nA (mMz w h g fl gi 0 my))))] H := hP
    have hD : va_D A [(a, .inr (5, [.int (nI w), .int (nI h), .int (nI (w * h)), .int (nI g), .ref b1, .ref b2, .ref b3, .int (nI bg), .int (nI tl), .int (nI sp), .int (nI th), .ref b4, .ref b5, .ref b6, .ref b7, .ref b8, .ref b9, .int (nI isf)])), (b1, .inl (cL, 36, .inl (nA ba))), (b2, .inl (cL, 36, .inl (nA vi))), (b3, .inl (cI, 36, .inl (nA to))), (b4, .inl (cI, 6, .inl (mA rw))), (b5, .inl (cI, 6, .inl (mA li))), (b6, .inl (cI, 36, .inl (nA gi))), (b7, .inl (cI, 36, .inl (nA (va_up fl 0 0)))), (b8, .inl (cI, 36, .inl (nA fo))), (b9, .inl (cI, 36, .inl (nA (mMz w h g fl gi 0 my))))] := hD
    rcases Nat.eq_zero_or_pos most with hm0 | hm0
    · exact L_MD_fx_stop a b1 b2 b3 b4 b5 b6 b7 b8 b9 w h g bg tl sp th isf ba vi to rw li gi (va_up fl 0 0) fo (mMz w h g fl gi 0 my) most kp 0 hmost 0 (by omega) (by omega) (by omega) E (by unfold fT; rw [if_neg (by omega), if_pos hm0]; exact ⟨rfl, rfl⟩) _ _ hP hD hS ls (lv_sub hl [2, 3, 4, 1, 0] rfl)
    · have ez : w * h - 1 - (w * h - 1) = 0 := by omega
      have hl2 : lv_has ls 6 [(0, .ref a), (1, .int (nI most)), (2, .int (nI kp)), (3, .int (nI 0)), (4, .int (nI 0))] := lv_sub hl [2, 3, 4, 1, 0] rfl
      have eft : (fT w h g gi most kp fl fo my) = (fI w h g gi (fP w h g gi most kp (w * h - 1)) 0 (g + 1) 0 (va_up fl 0 0, fo, mMz w h g fl gi 0 my, 0)).2 := by unfold fT; rw [if_neg (by omega), if_neg (by omega)]
      refine L_MD_fillg a b1 b2 b3 b4 b5 b6 b7 b8 b9 w h g bg tl sp th isf ba vi to rw li gi most kp hw1 hw6 hh6 hg hgi hmost hkp E (fun st => st = (fT w h g gi most kp fl fo my)) (fun st x4 hx4 hst hn h9 H locs hP hD hS ls hl => ?_) h0 (w * h - 1) (by omega) (g + 1) 0 (va_up fl 0 0, fo, mMz w h g fl gi 0 my, 0) (by omega) (by omega) (by dsimp only; rw [ez, va_up_self]) (f7_mk _ _ _ _ (up_le hfl (by omega)) (mMy_lt hg _ _ _ hmy)) hm0 (fun _ => ?_) (fun _ H locs hP hD hS ls hl => ?_) _ _ hP hD hS ls (by rw [ez]; exact hl2)
      · exact L_MD_fx_stop a b1 b2 b3 b4 b5 b6 b7 b8 b9 w h g bg tl sp th isf ba vi to rw li gi st.1 st.2.1 st.2.2.1 most kp st.2.2.2 hmost x4 hx4 hn h9 E (by subst hst; exact ⟨rfl, rfl⟩) _ _ hP hD hS ls hl
      · rw [ez, eft]
      · rw [ez] at hP hD hl
        rw [← eft] at hP hD hl
        exact L_MD_fx_end a b1 b2 b3 b4 b5 b6 b7 b8 b9 w h g bg tl sp th isf ba vi to rw li gi (fT w h g gi most kp fl fo my).1 (fT w h g gi most kp fl fo my).2.1 (fT w h g gi most kp fl fo my).2.2.1 most kp (fT w h g gi most kp fl fo my).2.2.2 hmost E ⟨rfl, rfl⟩ _ _ hP hD hS ls hl
  · refine lv_iconst (v := nI 0) hx hb d_MD_fillThrough_13 (by decide) ?_
    exact rt_i E hP hD hS (by unfold fT; rw [if_pos (by omega)]; exact ⟨rfl, rfl⟩) d_MD_fillThrough_14
theorem fI_cnt {w h g : Nat} {gi : Nat → Nat} {go : FS → Nat × FS} {c most : Nat} (hg : ∀ st, st.2.2.2 ≤ most → ((go st).2.2.2.2 ≤ most + 1 ∧ ((go st).1 = 0 → (go st).2.2.2.2 ≤ most))) : ∀ m x st, st.2.2.2 ≤ most → ((fI w h g gi go c m x st).2.2.2.2 ≤ most + 1 ∧ ((fI w h g gi go c m x st).1 = 0 → (fI w h g gi go c m x st).2.2.2.2 ≤ most)) := by
  intro m
  induction m with
  | zero => intro x st h; exact ⟨Nat.le_succ_of_le h, fun _ => h⟩
  | succ m ih =>
    intro x st hs
    rw [fI]
    split
    · exact ⟨Nat.le_succ_of_le hs, fun _ => hs⟩
    · split
      · exact ih _ _ hs
      · split
        · exact ih _ _ hs
        · split
          · rename_i q
            exact ih _ _ ((hg (f2 w h g gi c x st) hs).2 q)
          · exact hg (f2 w h g gi c x st) hs
theorem fP_cnt {w h g : Nat} {gi : Nat → Nat} {most kp : Nat} : ∀ d st, st.2.2.2 ≤ most → ((fP w h g gi most kp d st).2.2.2.2 ≤ most + 1 ∧ ((fP w h g gi most kp d st).1 = 0 → (fP w h g gi most kp d st).2.2.2.2 ≤ most)) := by
  intro d
  induction d with
  | zero =>
    intro st h
    rw [fP]
    dsimp only
    refine ⟨by omega, fun hz => ?_⟩
    split at hz <;> omega
  | succ d ih =>
    intro st h
    rw [fP]
    exact fI_cnt ih _ _ _ h
theorem fT_le {w h g : Nat} {gi : Nat → Nat} (most kp : Nat) (fl fo my : Nat → Nat) (hm : most ≤ 1000) : (fT w h g gi most kp fl fo my).2.2.2 ≤ 1001 := by
  unfold fT
  split
  · exact Nat.zero_le _
  · split
    · exact Nat.zero_le _
    · have := (fI_cnt (w := w) (h := h) (g := g) (gi := gi) (go := fP w h g gi most kp (w * h - 1)) (c := 0) (most := most) (fun st h => fP_cnt _ st h) (g + 1) 0 (va_up fl 0 0, fo, mMz w h g fl gi 0 my, 0) (Nat.zero_le _)).1
      omega
set_option maxHeartbeats 1000000 in
set_option maxRecDepth 100000 in
theorem c_MD_fill (l : Launch) (D : va_G) (cI cL : ClassId) (a b1 b2 b3 b4 b5 b6 b7 b8 b9 w h g bg tl sp th isf : Nat) (ba vi to rw li gi fl fo my : Nat → Nat) (hw1 : 1 ≤ w) (hw6 : w ≤ 6) (hh6 : h ≤ 6) (hg : g ≤ 6) (hgi : ∀ k, gi k ≤ 6) (hfl : ∀ k, fl k ≤ 7) (hmy : ∀ k, my k < 128) (h0 : 1 ≤ w * h) : CI l y_MD_fill (.code y_MD_fill b_MD_fill 1 (some .boolean) :: Om) { frames := 4, cells := 0, slots := 0, locals := 97 } D [(a, .inr (5, [.int (nI w), .int (nI h), .int (nI (w * h)), .int (nI g), .ref b1, .ref b2, .ref b3, .int (nI bg), .int (nI tl), .int (nI sp), .int (nI th), .ref b4, .ref b5, .ref b6, .ref b7, .ref b8, .ref b9, .int (nI isf)])), (b1, .inl (cL, 36, .inl (nA ba))), (b2, .inl (cL, 36, .inl (nA vi))), (b3, .inl (cI, 36, .inl (nA to))), (b4, .inl (cI, 6, .inl (mA rw))), (b5, .inl (cI, 6, .inl (mA li))), (b6, .inl (cI, 36, .inl (nA gi))), (b7, .inl (cI, 36, .inl (nA fl))), (b8, .inl (cI, 36, .inl (nA fo))), (b9, .inl (cI, 36, .inl (nA my)))] [(cI, .int), (cL, .boolean)] [.ref a] (fun r u => r = nI (if (fT w h g gi 1 1 fl fo my).2.2.2 = 1 then 1 else 0) ∧ u = [(a, .inr (5, [.int (nI w), .int (nI h), .int (nI (w * h)), .int (nI g), .ref b1, .ref b2, .ref b3, .int (nI bg), .int (nI tl), .int (nI sp), .int (nI 0), .ref b4, .ref b5, .ref b6, .ref b7, .ref b8, .ref b9, .int (nI (if (fT w h g gi 1 1 fl fo my).2.2.2 = 1 then 1 else 0))])), (b1, .inl (cL, 36, .inl (nA ba))), (b2, .inl (cL, 36, .inl (nA vi))), (b3, .inl (cI, 36, .inl (nA to))), (b4, .inl (cI, 6, .inl (mA rw))), (b5, .inl (cI, 6, .inl (mA li))), (b6, .inl (cI, 36, .inl (nA gi))), (b7, .inl (cI, 36, .inl (nA ((fT w h g gi 1 1 fl fo my).1)))), (b8, .inl (cI, 36, .inl (nA ((fT w h g gi 1 1 fl fo my).2.1)))), (b9, .inl (cI, 36, .inl (nA ((fT w h g gi 1 1 fl fo my).2.2.1))))]) := by
  refine en_of (cc := b_MD_fill) (Qc := qI D [(cI, .int), (cL, .boolean)] (fun r u => r = nI (if (fT w h g gi 1 1 fl fo my).2.2.2 = 1 then 1 else 0) ∧ u = [(a, .inr (5, [.int (nI w), .int (nI h), .int (nI (w * h)), .int (nI g), .ref b1, .ref b2, .ref b3, .int (nI bg), .int (nI tl), .int (nI sp), .int (nI 0), .ref b4, .ref b5, .ref b6, .ref b7, .ref b8, .ref b9, .int (nI (if (fT w h g gi 1 1 fl fo my).2.2.2 = 1 then 1 else 0))])), (b1, .inl (cL, 36, .inl (nA ba))), (b2, .inl (cL, 36, .inl (nA vi))), (b3, .inl (cI, 36, .inl (nA to))), (b4, .inl (cI, 6, .inl (mA rw))), (b5, .inl (cI, 6, .inl (mA li))), (b6, .inl (cI, 36, .inl (nA gi))), (b7, .inl (cI, 36, .inl (nA ((fT w h g gi 1 1 fl fo my).1)))), (b8, .inl (cI, 36, .inl (nA ((fT w h g gi 1 1 fl fo my).2.1)))), (b9, .inl (cI, 36, .inl (nA ((fT w h g gi 1 1 fl fo my).2.2.1))))])) (by decide) rfl (Nat.le_of_ble_eq_true rfl) ?_
  intro p e s m below meth c A E hnm hP hD hS ls hl
  have hl : lv_has ls 1 [(0, .ref a)] := hl
  obtain ⟨hx, hb, hml, hown, hts, hr, hlk, hA, hK, hN⟩ := id E
  have ho : ∀ q ∈ Om, q.before _ s = true := fun q h => hts q (List.mem_cons_of_mem _ h)
  refine lv_aload_n hx hb d_MD_fill_0 rfl (lv_at hl 0 rfl) ?_
  refine lv_iconst (v := nI 0) hx hb d_MD_fill_1 (by decide) ?_
  refine va_put (D := D) (ci := 5) (v := .int (nI 0)) (ty := .int) (C := R_MD) (T := F_MD) (N := 18) hx hb ho j_MD t_MD t_MD_ok n_MD hown hK hP hD hS 0 rfl rfl 10 (by decide) (ho _ kf_MD_55) (fun _ h9 => h9) rfl (by decide +kernel) rfl rfl (Nat.le_of_ble_eq_true rfl) d_MD_fill_2 (fun H locs hP hD hS => ?_)
  have hP : va_P D classes [(a, .inr (5, [.int (nI w), .int (nI h), .int (nI (w * h)), .int (nI g), .ref b1, .ref b2, .ref b3, .int (nI bg), .int (nI tl), .int (nI sp), .int (nI 0), .ref b4, .ref b5, .ref b6, .ref b7, .ref b8, .ref b9, .int (nI isf)])), (b1, .inl (cL, 36, .inl (nA ba))), (b2, .inl (cL, 36, .inl (nA vi))), (b3, .inl (cI, 36, .inl (nA to))), (b4, .inl (cI, 6, .inl (mA rw))), (b5, .inl (cI, 6, .inl (mA li))), (b6, .inl (cI, 36, .inl (nA gi))), (b7, .inl (cI, 36, .inl (nA fl))), (b8, .inl (cI, 36, .inl (nA fo))), (b9, .inl (cI, 36, .inl (nA my)))] H := hP
  have hD : va_D A [(a, .inr (5, [.int (nI w), .int (nI h), .int (nI (w * h)), .int (nI g), .ref b1, .ref b2, .ref b3, .int (nI bg), .int (nI tl), .int (nI sp), .int (nI 0), .ref b4, .ref b5, .ref b6, .ref b7, .ref b8, .ref b9, .int (nI isf)])), (b1, .inl (cL, 36, .inl (nA ba))), (b2, .inl (cL, 36, .inl (nA vi))), (b3, .inl (cI, 36, .inl (nA to))), (b4, .inl (cI, 6, .inl (mA rw))), (b5, .inl (cI, 6, .inl (mA li))), (b6, .inl (cI, 36, .inl (nA gi))), (b7, .inl (cI, 36, .inl (nA fl))), (b8, .inl (cI, 36, .inl (nA fo))), (b9, .inl (cI, 36, .inl (nA my)))] := hD
  refine lv_aload_n hx hb d_MD_fill_5 rfl (lv_at hl 0 rfl) ?_
  refine lv_aload_n hx hb d_MD_fill_6 rfl (lv_at hl 0 rfl) ?_
  refine lv_iconst (v := nI 1) hx hb d_MD_fill_7 (by decide) ?_
  refine lv_iconst (v := nI 1) hx hb d_MD_fill_8 (by decide) ?_
  have hcb := fT_le (w := w) (h := h) (g := g) (gi := gi) 1 1 fl fo my (by omega)
  refine af_i (wc := [(a, .inr (5, [.int (nI w), .int (nI h), .int (nI (w * h)), .int (nI g), .ref b1, .ref b2, .ref b3, .int (nI bg), .int (nI tl), .int (nI sp), .int (nI 0), .ref b4, .ref b5, .ref b6, .ref b7, .ref b8, .ref b9, .int (nI isf)])), (b1, .inl (cL, 36, .inl (nA ba))), (b2, .inl (cL, 36, .inl (nA vi))), (b3, .inl (cI, 36, .inl (nA to))), (b4, .inl (cI, 6, .inl (mA rw))), (b5, .inl (cI, 6, .inl (mA li))), (b6, .inl (cI, 36, .inl (nA gi))), (b7, .inl (cI, 36, .inl (nA fl))), (b8, .inl (cI, 36, .inl (nA fo))), (b9, .inl (cI, 36, .inl (nA my)))]) (wr := []) (rest := [.ref a]) [0, 1, 2, 3, 4, 5, 6, 7, 8, 9] [] hP hD hS hA rfl rfl (by decide) (by decide) (rn_V E (As := [.int (nI 1), .int (nI 1)]) m_MD_fillThrough km_MD_122 (c_MD_fillThrough l D cI cL a b1 b2 b3 b4 b5 b6 b7 b8 b9 w h g bg tl sp 0 isf ba vi to rw li gi fl fo my 1 1 hw1 hw6 hh6 hg hgi (by omega) (by omega) hfl hmy h0 _) ⟨rfl, rfl, by dsimp only; omega, by dsimp only; omega⟩ (hP.sub [0, 1, 2, 3, 4, 5, 6, 7, 8, 9] rfl) (hD.sub [0, 1, 2, 3, 4, 5, 6, 7, 8, 9] (by decide) rfl) (q0 := 0) (ci := 5) rfl rfl rfl hl.1 rfl (Nat.le_of_ble_eq_true rfl) ⟨Nat.le_of_ble_eq_true rfl, Nat.le_of_ble_eq_true rfl⟩ d_MD_fill_9) (fun r_2 u_1 H locs hw hP hD hS => ?_)
  obtain ⟨rfl, rfl⟩ := hw
  have hP : va_P D classes [(a, .inr (5, [.int (nI w), .int (nI h), .int (nI (w * h)), .int (nI g), .ref b1, .ref b2, .ref b3, .int (nI bg), .int (nI tl), .int (nI sp), .int (nI 0), .ref b4, .ref b5, .ref b6, .ref b7, .ref b8, .ref b9, .int (nI isf)])), (b1, .inl (cL, 36, .inl (nA ba))), (b2, .inl (cL, 36, .inl (nA vi))), (b3, .inl (cI, 36, .inl (nA to))), (b4, .inl (cI, 6, .inl (mA rw))), (b5, .inl (cI, 6, .inl (mA li))), (b6, .inl (cI, 36, .inl (nA gi))), (b7, .inl (cI, 36, .inl (nA ((fT w h g gi 1 1 fl fo my).1)))), (b8, .inl (cI, 36, .inl (nA ((fT w h g gi 1 1 fl fo my).2.1)))), (b9, .inl (cI, 36, .inl (nA ((fT w h g gi 1 1 fl fo my).2.2.1))))] H := hP
  have hD : va_D A [(a, .inr (5, [.int (nI w), .int (nI h), .int (nI (w * h)), .int (nI g), .ref b1, .ref b2, .ref b3, .int (nI bg), .int (nI tl), .int (nI sp), .int (nI 0), .ref b4, .ref b5, .ref b6, .ref b7, .ref b8, .ref b9, .int (nI isf)])), (b1, .inl (cL, 36, .inl (nA ba))), (b2, .inl (cL, 36, .inl (nA vi))), (b3, .inl (cI, 36, .inl (nA to))), (b4, .inl (cI, 6, .inl (mA rw))), (b5, .inl (cI, 6, .inl (mA li))), (b6, .inl (cI, 36, .inl (nA gi))), (b7, .inl (cI, 36, .inl (nA ((fT w h g gi 1 1 fl fo my).1)))), (b8, .inl (cI, 36, .inl (nA ((fT w h g gi 1 1 fl fo my).2.1)))), (b9, .inl (cI, 36, .inl (nA ((fT w h g gi 1 1 fl fo my).2.2.1))))] := hD
  refine lv_iconst (v := nI 1) hx hb d_MD_fill_12 (by decide) ?_
  refine nr_icmp_ne (tgt := 20) hx hb d_MD_fill_13 (by decide) (by omega) (by omega) (fun h_3 => ?_) (fun h_3 => ?_)
  · refine lv_iconst (v := nI 0) hx hb d_MD_fill_20 (by decide) ?_
    refine va_put (D := D) (ci := 5) (v := .int (nI 0)) (ty := .boolean) (C := R_MD) (T := F_MD) (N := 18) hx hb ho j_MD t_MD t_MD_ok n_MD hown hK hP hD hS 0 rfl rfl 17 (by decide) (ho _ kf_MD_102) (fun _ h9 => h9) rfl (by decide +kernel) (by first | rfl | decide | assumption) (by first | rfl | decide | assumption) (Nat.le_of_ble_eq_true rfl) d_MD_fill_21 (fun H locs hP hD hS => ?_)
    have hP : va_P D classes [(a, .inr (5, [.int (nI w), .int (nI h), .int (nI (w * h)), .int (nI g), .ref b1, .ref b2, .ref b3, .int (nI bg), .int (nI tl), .int (nI sp), .int (nI 0), .ref b4, .ref b5, .ref b6, .ref b7, .ref b8, .ref b9, .int (nI 0)])), (b1, .inl (cL, 36, .inl (nA ba))), (b2, .inl (cL, 36, .inl (nA vi))), (b3, .inl (cI, 36, .inl (nA to))), (b4, .inl (cI, 6, .inl (mA rw))), (b5, .inl (cI, 6, .inl (mA li))), (b6, .inl (cI, 36, .inl (nA gi))), (b7, .inl (cI, 36, .inl (nA ((fT w h g gi 1 1 fl fo my).1)))), (b8, .inl (cI, 36, .inl (nA ((fT w h g gi 1 1 fl fo my).2.1)))), (b9, .inl (cI, 36, .inl (nA ((fT w h g gi 1 1 fl fo my).2.2.1))))] H := hP
    have hD : va_D A [(a, .inr (5, [.int (nI w), .int (nI h), .int (nI (w * h)), .int (nI g), .ref b1, .ref b2, .ref b3, .int (nI bg), .int (nI tl), .int (nI sp), .int (nI 0), .ref b4, .ref b5, .ref b6, .ref b7, .ref b8, .ref b9, .int (nI 0)])), (b1, .inl (cL, 36, .inl (nA ba))), (b2, .inl (cL, 36, .inl (nA vi))), (b3, .inl (cI, 36, .inl (nA to))), (b4, .inl (cI, 6, .inl (mA rw))), (b5, .inl (cI, 6, .inl (mA li))), (b6, .inl (cI, 36, .inl (nA gi))), (b7, .inl (cI, 36, .inl (nA ((fT w h g gi 1 1 fl fo my).1)))), (b8, .inl (cI, 36, .inl (nA ((fT w h g gi 1 1 fl fo my).2.1)))), (b9, .inl (cI, 36, .inl (nA ((fT w h g gi 1 1 fl fo my).2.2.1))))] := hD
    refine lv_aload_n hx hb d_MD_fill_24 rfl (lv_at hl 0 rfl) ?_
    refine va_get (D := D) (ci := 5) (v := .int (nI 0)) (C := R_MD) (T := F_MD) (N := 18) hx hb ho j_MD hown hK hP 0 rfl rfl 17 (by decide) (ho _ kf_MD_102) (fun _ h9 => h9) rfl d_MD_fill_25 ?_
    exact rt_z E hP hD hS (by decide) (by first | (rw [if_pos h_3]; exact ⟨rfl, rfl⟩) | (rw [if_neg h_3]; exact ⟨rfl, rfl⟩)) d_MD_fill_28
  · refine lv_iconst (v := nI 1) hx hb d_MD_fill_16 (by decide) ?_
    refine lv_goto (tgt := 21) hx hb d_MD_fill_17 (by decide) ?_
    refine va_put (D := D) (ci := 5) (v := .int (nI 1)) (ty := .boolean) (C := R_MD) (T := F_MD) (N := 18) hx hb ho j_MD t_MD t_MD_ok n_MD hown hK hP hD hS 0 rfl rfl 17 (by decide) (ho _ kf_MD_102) (fun _ h9 => h9) rfl (by decide +kernel) (by first | rfl | decide | assumption) (by first | rfl | decide | assumption) (Nat.le_of_ble_eq_true rfl) d_MD_fill_21 (fun H locs hP hD hS => ?_)
    have hP : va_P D classes [(a, .inr (5, [.int (nI w), .int (nI h), .int (nI (w * h)), .int (nI g), .ref b1, .ref b2, .ref b3, .int (nI bg), .int (nI tl), .int (nI sp), .int (nI 0), .ref b4, .ref b5, .ref b6, .ref b7, .ref b8, .ref b9, .int (nI 1)])), (b1, .inl (cL, 36, .inl (nA ba))), (b2, .inl (cL, 36, .inl (nA vi))), (b3, .inl (cI, 36, .inl (nA to))), (b4, .inl (cI, 6, .inl (mA rw))), (b5, .inl (cI, 6, .inl (mA li))), (b6, .inl (cI, 36, .inl (nA gi))), (b7, .inl (cI, 36, .inl (nA ((fT w h g gi 1 1 fl fo my).1)))), (b8, .inl (cI, 36, .inl (nA ((fT w h g gi 1 1 fl fo my).2.1)))), (b9, .inl (cI, 36, .inl (nA ((fT w h g gi 1 1 fl fo my).2.2.1))))] H := hP
    have hD : va_D A [(a, .inr (5, [.int (nI w), .int (nI h), .int (nI (w * h)), .int (nI g), .ref b1, .ref b2, .ref b3, .int (nI bg), .int (nI tl), .int (nI sp), .int (nI 0), .ref b4, .ref b5, .ref b6, .ref b7, .ref b8, .ref b9, .int (nI 1)])), (b1, .inl (cL, 36, .inl (nA ba))), (b2, .inl (cL, 36, .inl (nA vi))), (b3, .inl (cI, 36, .inl (nA to))), (b4, .inl (cI, 6, .inl (mA rw))), (b5, .inl (cI, 6, .inl (mA li))), (b6, .inl (cI, 36, .inl (nA gi))), (b7, .inl (cI, 36, .inl (nA ((fT w h g gi 1 1 fl fo my).1)))), (b8, .inl (cI, 36, .inl (nA ((fT w h g gi 1 1 fl fo my).2.1)))), (b9, .inl (cI, 36, .inl (nA ((fT w h g gi 1 1 fl fo my).2.2.1))))] := hD
    refine lv_aload_n hx hb d_MD_fill_24 rfl (lv_at hl 0 rfl) ?_
    refine va_get (D := D) (ci := 5) (v := .int (nI 1)) (C := R_MD) (T := F_MD) (N := 18) hx hb ho j_MD hown hK hP 0 rfl rfl 17 (by decide) (ho _ kf_MD_102) (fun _ h9 => h9) rfl d_MD_fill_25 ?_
    exact rt_z E hP hD hS (by decide) (by first | (rw [if_pos h_3]; exact ⟨rfl, rfl⟩) | (rw [if_neg h_3]; exact ⟨rfl, rfl⟩)) d_MD_fill_28
set_option maxHeartbeats 1000000 in
set_option maxRecDepth 100000 in
theorem c_MD_fillsOut (l : Launch) (D : va_G) (cI cL : ClassId) (a b1 b2 b3 b4 b5 b6 b7 b8 b9 w h g bg tl sp th isf : Nat) (ba vi to rw li gi fl fo my : Nat → Nat) (x : Int32) (hout : x < 0 ∨ ¬ x ≤ nI 1000) : CI l y_MD_fills (.code y_MD_fills b_MD_fills 2 (some .int) :: Om) { frames := 4, cells := 0, slots := 0, locals := 97 } D [(a, .inr (5, [.int (nI w), .int (nI h), .int (nI (w * h)), .int (nI g), .ref b1, .ref b2, .ref b3, .int (nI bg), .int (nI tl), .int (nI sp), .int (nI th), .ref b4, .ref b5, .ref b6, .ref b7, .ref b8, .ref b9, .int (nI isf)])), (b1, .inl (cL, 36, .inl (nA ba))), (b2, .inl (cL, 36, .inl (nA vi))), (b3, .inl (cI, 36, .inl (nA to))), (b4, .inl (cI, 6, .inl (mA rw))), (b5, .inl (cI, 6, .inl (mA li))), (b6, .inl (cI, 36, .inl (nA gi))), (b7, .inl (cI, 36, .inl (nA fl))), (b8, .inl (cI, 36, .inl (nA fo))), (b9, .inl (cI, 36, .inl (nA my)))] [(cI, .int), (cL, .boolean)] [.ref a, .int x] (fun r u => r = -1 ∧ u = [(a, .inr (5, [.int (nI w), .int (nI h), .int (nI (w * h)), .int (nI g), .ref b1, .ref b2, .ref b3, .int (nI bg), .int (nI tl), .int (nI sp), .int (nI 0), .ref b4, .ref b5, .ref b6, .ref b7, .ref b8, .ref b9, .int (nI isf)])), (b1, .inl (cL, 36, .inl (nA ba))), (b2, .inl (cL, 36, .inl (nA vi))), (b3, .inl (cI, 36, .inl (nA to))), (b4, .inl (cI, 6, .inl (mA rw))), (b5, .inl (cI, 6, .inl (mA li))), (b6, .inl (cI, 36, .inl (nA gi))), (b7, .inl (cI, 36, .inl (nA fl))), (b8, .inl (cI, 36, .inl (nA fo))), (b9, .inl (cI, 36, .inl (nA my)))]) := by
  refine en_of (cc := b_MD_fills) (Qc := qI D [(cI, .int), (cL, .boolean)] (fun r u => r = -1 ∧ u = [(a, .inr (5, [.int (nI w), .int (nI h), .int (nI (w * h)), .int (nI g), .ref b1, .ref b2, .ref b3, .int (nI bg), .int (nI tl), .int (nI sp), .int (nI 0), .ref b4, .ref b5, .ref b6, .ref b7, .ref b8, .ref b9, .int (nI isf)])), (b1, .inl (cL, 36, .inl (nA ba))), (b2, .inl (cL, 36, .inl (nA vi))), (b3, .inl (cI, 36, .inl (nA to))), (b4, .inl (cI, 6, .inl (mA rw))), (b5, .inl (cI, 6, .inl (mA li))), (b6, .inl (cI, 36, .inl (nA gi))), (b7, .inl (cI, 36, .inl (nA fl))), (b8, .inl (cI, 36, .inl (nA fo))), (b9, .inl (cI, 36, .inl (nA my)))])) (by decide) rfl (Nat.le_of_ble_eq_true rfl) ?_
  intro p e s m below meth c A E hnm hP hD hS ls hl
  have hl : lv_has ls 2 [(0, .ref a), (1, .int x)] := hl
  obtain ⟨hx, hb, hml, hown, hts, hr, hlk, hA, hK, hN⟩ := id E
  have ho : ∀ q ∈ Om, q.before _ s = true := fun q h => hts q (List.mem_cons_of_mem _ h)
  refine lv_aload_n hx hb d_MD_fills_0 rfl (lv_at hl 0 rfl) ?_
  refine lv_iconst (v := nI 0) hx hb d_MD_fills_1 (by decide) ?_
  refine va_put (D := D) (ci := 5) (v := .int (nI 0)) (ty := .int) (C := R_MD) (T := F_MD) (N := 18) hx hb ho j_MD t_MD t_MD_ok n_MD hown hK hP hD hS 0 rfl rfl 10 (by decide) (ho _ kf_MD_55) (fun _ h9 => h9) rfl (by decide +kernel) rfl rfl (Nat.le_of_ble_eq_true rfl) d_MD_fills_2 (fun H locs hP hD hS => ?_)
  have hP : va_P D classes [(a, .inr (5, [.int (nI w), .int (nI h), .int (nI (w * h)), .int (nI g), .ref b1, .ref b2, .ref b3, .int (nI bg), .int (nI tl), .int (nI sp), .int (nI 0), .ref b4, .ref b5, .ref b6, .ref b7, .ref b8, .ref b9, .int (nI isf)])), (b1, .inl (cL, 36, .inl (nA ba))), (b2, .inl (cL, 36, .inl (nA vi))), (b3, .inl (cI, 36, .inl (nA to))), (b4, .inl (cI, 6, .inl (mA rw))), (b5, .inl (cI, 6, .inl (mA li))), (b6, .inl (cI, 36, .inl (nA gi))), (b7, .inl (cI, 36, .inl (nA fl))), (b8, .inl (cI, 36, .inl (nA fo))), (b9, .inl (cI, 36, .inl (nA my)))] H := hP
  have hD : va_D A [(a, .inr (5, [.int (nI w), .int (nI h), .int (nI (w * h)), .int (nI g), .ref b1, .ref b2, .ref b3, .int (nI bg), .int (nI tl), .int (nI sp), .int (nI 0), .ref b4, .ref b5, .ref b6, .ref b7, .ref b8, .ref b9, .int (nI isf)])), (b1, .inl (cL, 36, .inl (nA ba))), (b2, .inl (cL, 36, .inl (nA vi))), (b3, .inl (cI, 36, .inl (nA to))), (b4, .inl (cI, 6, .inl (mA rw))), (b5, .inl (cI, 6, .inl (mA li))), (b6, .inl (cI, 36, .inl (nA gi))), (b7, .inl (cI, 36, .inl (nA fl))), (b8, .inl (cI, 36, .inl (nA fo))), (b9, .inl (cI, 36, .inl (nA my)))] := hD
  refine lv_iload_n hx hb d_MD_fills_5 rfl (lv_at hl 1 rfl) ?_
  refine lv_if_lt (tgt := 16) hx hb d_MD_fills_6 (by decide) (fun h_1 => ?_) (fun h_1 => ?_)
  · refine lv_iconst (v := (-1)) hx hb d_MD_fills_16 (by decide) ?_
    refine lv_goto (tgt := 26) hx hb d_MD_fills_17 (by decide) ?_
    exact rt_i E hP hD hS ⟨rfl, rfl⟩ d_MD_fills_26
  · refine lv_iload_n hx hb d_MD_fills_9 rfl (lv_at hl 1 rfl) ?_
    refine lv_sipush (v := nI 1000) hx hb d_MD_fills_10 (by decide) ?_
    refine lv_icmp_le (tgt := 20) hx hb d_MD_fills_13 (by decide) (fun h_2 => ?_) (fun h_2 => ?_)
    · exact absurd hout (by rintro (q | q) <;> contradiction)
    · refine lv_iconst (v := (-1)) hx hb d_MD_fills_16 (by decide) ?_
      refine lv_goto (tgt := 26) hx hb d_MD_fills_17 (by decide) ?_
      exact rt_i E hP hD hS ⟨rfl, rfl⟩ d_MD_fills_26
set_option maxHeartbeats 1000000 in
set_option maxRecDepth 100000 in
theorem c_MD_fillsIn (l : Launch) (D : va_G) (cI cL : ClassId) (a b1 b2 b3 b4 b5 b6 b7 b8 b9 w h g bg tl sp th isf : Nat) (ba vi to rw li gi fl fo my : Nat → Nat) (most : Nat) (hm : most ≤ 1000) (hw1 : 1 ≤ w) (hw6 : w ≤ 6) (hh6 : h ≤ 6) (hg : g ≤ 6) (hgi : ∀ k, gi k ≤ 6) (hfl : ∀ k, fl k ≤ 7) (hmy : ∀ k, my k < 128) (h0 : 1 ≤ w * h) : CI l y_MD_fills (.code y_MD_fills b_MD_fills 2 (some .int) :: Om) { frames := 4, cells := 0, slots := 0, locals := 97 } D [(a, .inr (5, [.int (nI w), .int (nI h), .int (nI (w * h)), .int (nI g), .ref b1, .ref b2, .ref b3, .int (nI bg), .int (nI tl), .int (nI sp), .int (nI th), .ref b4, .ref b5, .ref b6, .ref b7, .ref b8, .ref b9, .int (nI isf)])), (b1, .inl (cL, 36, .inl (nA ba))), (b2, .inl (cL, 36, .inl (nA vi))), (b3, .inl (cI, 36, .inl (nA to))), (b4, .inl (cI, 6, .inl (mA rw))), (b5, .inl (cI, 6, .inl (mA li))), (b6, .inl (cI, 36, .inl (nA gi))), (b7, .inl (cI, 36, .inl (nA fl))), (b8, .inl (cI, 36, .inl (nA fo))), (b9, .inl (cI, 36, .inl (nA my)))] [(cI, .int), (cL, .boolean)] [.ref a, .int (nI most)] (fun r u => r = nI (fT w h g gi most 0 fl fo my).2.2.2 ∧ u = [(a, .inr (5, [.int (nI w), .int (nI h), .int (nI (w * h)), .int (nI g), .ref b1, .ref b2, .ref b3, .int (nI bg), .int (nI tl), .int (nI sp), .int (nI 0), .ref b4, .ref b5, .ref b6, .ref b7, .ref b8, .ref b9, .int (nI isf)])), (b1, .inl (cL, 36, .inl (nA ba))), (b2, .inl (cL, 36, .inl (nA vi))), (b3, .inl (cI, 36, .inl (nA to))), (b4, .inl (cI, 6, .inl (mA rw))), (b5, .inl (cI, 6, .inl (mA li))), (b6, .inl (cI, 36, .inl (nA gi))), (b7, .inl (cI, 36, .inl (nA ((fT w h g gi most 0 fl fo my).1)))), (b8, .inl (cI, 36, .inl (nA ((fT w h g gi most 0 fl fo my).2.1)))), (b9, .inl (cI, 36, .inl (nA ((fT w h g gi most 0 fl fo my).2.2.1))))]) := by
  refine en_of (cc := b_MD_fills) (Qc := qI D [(cI, .int), (cL, .boolean)] (fun r u => r = nI (fT w h g gi most 0 fl fo my).2.2.2 ∧ u = [(a, .inr (5, [.int (nI w), .int (nI h), .int (nI (w * h)), .int (nI g), .ref b1, .ref b2, .ref b3, .int (nI bg), .int (nI tl), .int (nI sp), .int (nI 0), .ref b4, .ref b5, .ref b6, .ref b7, .ref b8, .ref b9, .int (nI isf)])), (b1, .inl (cL, 36, .inl (nA ba))), (b2, .inl (cL, 36, .inl (nA vi))), (b3, .inl (cI, 36, .inl (nA to))), (b4, .inl (cI, 6, .inl (mA rw))), (b5, .inl (cI, 6, .inl (mA li))), (b6, .inl (cI, 36, .inl (nA gi))), (b7, .inl (cI, 36, .inl (nA ((fT w h g gi most 0 fl fo my).1)))), (b8, .inl (cI, 36, .inl (nA ((fT w h g gi most 0 fl fo my).2.1)))), (b9, .inl (cI, 36, .inl (nA ((fT w h g gi most 0 fl fo my).2.2.1))))])) (by decide) rfl (Nat.le_of_ble_eq_true rfl) ?_
  intro p e s m below meth c A E hnm hP hD hS ls hl
  have hl : lv_has ls 2 [(0, .ref a), (1, .int (nI most))] := hl
  obtain ⟨hx, hb, hml, hown, hts, hr, hlk, hA, hK, hN⟩ := id E
  have ho : ∀ q ∈ Om, q.before _ s = true := fun q h => hts q (List.mem_cons_of_mem _ h)
  refine lv_aload_n hx hb d_MD_fills_0 rfl (lv_at hl 0 rfl) ?_
  refine lv_iconst (v := nI 0) hx hb d_MD_fills_1 (by decide) ?_
  refine va_put (D := D) (ci := 5) (v := .int (nI 0)) (ty := .int) (C := R_MD) (T := F_MD) (N := 18) hx hb ho j_MD t_MD t_MD_ok n_MD hown hK hP hD hS 0 rfl rfl 10 (by decide) (ho _ kf_MD_55) (fun _ h9 => h9) rfl (by decide +kernel) rfl rfl (Nat.le_of_ble_eq_true rfl) d_MD_fills_2 (fun H locs hP hD hS => ?_)
  have hP : va_P D classes [(a, .inr (5, [.int (nI w), .int (nI h), .int (nI (w * h)), .int (nI g), .ref b1, .ref b2, .ref b3, .int (nI bg), .int (nI tl), .int (nI sp), .int (nI 0), .ref b4, .ref b5, .ref b6, .ref b7, .ref b8, .ref b9, .int (nI isf)])), (b1, .inl (cL, 36, .inl (nA ba))), (b2, .inl (cL, 36, .inl (nA vi))), (b3, .inl (cI, 36, .inl (nA to))), (b4, .inl (cI, 6, .inl (mA rw))), (b5, .inl (cI, 6, .inl (mA li))), (b6, .inl (cI, 36, .inl (nA gi))), (b7, .inl (cI, 36, .inl (nA fl))), (b8, .inl (cI, 36, .inl (nA fo))), (b9, .inl (cI, 36, .inl (nA my)))] H := hP
  have hD : va_D A [(a, .inr (5, [.int (nI w), .int (nI h), .int (nI (w * h)), .int (nI g), .ref b1, .ref b2, .ref b3, .int (nI bg), .int (nI tl), .int (nI sp), .int (nI 0), .ref b4, .ref b5, .ref b6, .ref b7, .ref b8, .ref b9, .int (nI isf)])), (b1, .inl (cL, 36, .inl (nA ba))), (b2, .inl (cL, 36, .inl (nA vi))), (b3, .inl (cI, 36, .inl (nA to))), (b4, .inl (cI, 6, .inl (mA rw))), (b5, .inl (cI, 6, .inl (mA li))), (b6, .inl (cI, 36, .inl (nA gi))), (b7, .inl (cI, 36, .inl (nA fl))), (b8, .inl (cI, 36, .inl (nA fo))), (b9, .inl (cI, 36, .inl (nA my)))] := hD
  refine lv_iload_n hx hb d_MD_fills_5 rfl (lv_at hl 1 rfl) ?_
  refine nr_if_lt (tgt := 16) hx hb d_MD_fills_6 (by decide) (by omega) ?_
  refine lv_iload_n hx hb d_MD_fills_9 rfl (lv_at hl 1 rfl) ?_
  refine lv_sipush (v := nI 1000) hx hb d_MD_fills_10 (by decide) ?_
  refine nr_icmp_le (tgt := 20) hx hb d_MD_fills_13 (by decide) (by omega) (by omega) (fun _ => ?_) (fun h9 => absurd h9 (by omega))
  refine lv_aload_n hx hb d_MD_fills_20 rfl (lv_at hl 0 rfl) ?_
  refine lv_iload_n hx hb d_MD_fills_21 rfl (lv_at hl 1 rfl) ?_
  refine lv_iconst (v := nI 0) hx hb d_MD_fills_22 (by decide) ?_
  have hcb := fT_le (w := w) (h := h) (g := g) (gi := gi) most 0 fl fo my (by omega)
  refine af_i (wc := [(a, .inr (5, [.int (nI w), .int (nI h), .int (nI (w * h)), .int (nI g), .ref b1, .ref b2, .ref b3, .int (nI bg), .int (nI tl), .int (nI sp), .int (nI 0), .ref b4, .ref b5, .ref b6, .ref b7, .ref b8, .ref b9, .int (nI isf)])), (b1, .inl (cL, 36, .inl (nA ba))), (b2, .inl (cL, 36, .inl (nA vi))), (b3, .inl (cI, 36, .inl (nA to))), (b4, .inl (cI, 6, .inl (mA rw))), (b5, .inl (cI, 6, .inl (mA li))), (b6, .inl (cI, 36, .inl (nA gi))), (b7, .inl (cI, 36, .inl (nA fl))), (b8, .inl (cI, 36, .inl (nA fo))), (b9, .inl (cI, 36, .inl (nA my)))]) (wr := []) (rest := []) [0, 1, 2, 3, 4, 5, 6, 7, 8, 9] [] hP hD hS hA rfl rfl (by decide) (by decide) (rn_V E (As := [.int (nI most), .int (nI 0)]) m_MD_fillThrough km_MD_122 (c_MD_fillThrough l D cI cL a b1 b2 b3 b4 b5 b6 b7 b8 b9 w h g bg tl sp 0 isf ba vi to rw li gi fl fo my most 0 hw1 hw6 hh6 hg hgi (by omega) (by omega) hfl hmy h0 _) ⟨rfl, rfl, by dsimp only; omega, by dsimp only; omega⟩ (hP.sub [0, 1, 2, 3, 4, 5, 6, 7, 8, 9] rfl) (hD.sub [0, 1, 2, 3, 4, 5, 6, 7, 8, 9] (by decide) rfl) (q0 := 0) (ci := 5) rfl rfl rfl hl.1 rfl (Nat.le_of_ble_eq_true rfl) ⟨Nat.le_of_ble_eq_true rfl, Nat.le_of_ble_eq_true rfl⟩ d_MD_fills_23) (fun r_2 u_1 H locs hw hP hD hS => ?_)
  obtain ⟨rfl, rfl⟩ := hw
  have hP : va_P D classes [(a, .inr (5, [.int (nI w), .int (nI h), .int (nI (w * h)), .int (nI g), .ref b1, .ref b2, .ref b3, .int (nI bg), .int (nI tl), .int (nI sp), .int (nI 0), .ref b4, .ref b5, .ref b6, .ref b7, .ref b8, .ref b9, .int (nI isf)])), (b1, .inl (cL, 36, .inl (nA ba))), (b2, .inl (cL, 36, .inl (nA vi))), (b3, .inl (cI, 36, .inl (nA to))), (b4, .inl (cI, 6, .inl (mA rw))), (b5, .inl (cI, 6, .inl (mA li))), (b6, .inl (cI, 36, .inl (nA gi))), (b7, .inl (cI, 36, .inl (nA ((fT w h g gi most 0 fl fo my).1)))), (b8, .inl (cI, 36, .inl (nA ((fT w h g gi most 0 fl fo my).2.1)))), (b9, .inl (cI, 36, .inl (nA ((fT w h g gi most 0 fl fo my).2.2.1))))] H := hP
  have hD : va_D A [(a, .inr (5, [.int (nI w), .int (nI h), .int (nI (w * h)), .int (nI g), .ref b1, .ref b2, .ref b3, .int (nI bg), .int (nI tl), .int (nI sp), .int (nI 0), .ref b4, .ref b5, .ref b6, .ref b7, .ref b8, .ref b9, .int (nI isf)])), (b1, .inl (cL, 36, .inl (nA ba))), (b2, .inl (cL, 36, .inl (nA vi))), (b3, .inl (cI, 36, .inl (nA to))), (b4, .inl (cI, 6, .inl (mA rw))), (b5, .inl (cI, 6, .inl (mA li))), (b6, .inl (cI, 36, .inl (nA gi))), (b7, .inl (cI, 36, .inl (nA ((fT w h g gi most 0 fl fo my).1)))), (b8, .inl (cI, 36, .inl (nA ((fT w h g gi most 0 fl fo my).2.1)))), (b9, .inl (cI, 36, .inl (nA ((fT w h g gi most 0 fl fo my).2.2.1))))] := hD
  exact rt_i E hP hD hS ⟨rfl, rfl⟩ d_MD_fills_26
/-- the next place: of number v + 1, when v is at (a, b) -/
def mgSt (n v a b : Nat) : Nat × Nat := if v % n = 0 then (a, (b + 1) % n) else ((a + 1) % n, (b + n - 1) % n)
/-- the place of number v + 1 -/
def mgPs (n : Nat) : Nat → Nat × Nat
  | 0 => (n / 2, 0)
  | v + 1 => mgSt n (v + 1) (mgPs n v).1 (mgPs n v).2
set_option maxHeartbeats 1000000 in
set_option maxRecDepth 100000 in
theorem L_MD_magic {p : Program} {l : Launch} {e : Env} {s : State} {m : MethodId} {args : Array Value} {below : List Frame} {meth : Method} {c : Code} {A : Nat → Prop} {D : va_G} {cI cL : ClassId} {c0 : Cond} {post : Int32 → va_W → Prop} (a b1 b2 b3 b4 b5 b6 b7 b8 b9 w h g bg tl sp th isf : Nat) (ba vi to rw li gi fl fo my : Nat → Nat) (n0 x y : Nat) (hn1 : 1 ≤ n0) (hn15 : n0 ≤ 15) (hodd : n0 % 2 = 1) (hx0 : x < n0) (hy0 : y < n0) (N0 : Nat) (hN0 : N0 < 2 ^ 20) (hat : mgPs n0 N0 = (x, y)) (E : En p s m args meth c b_MD_magic 7 (c0 :: Om) R_MD (some .int) A D [(cI, .int), (cL, .boolean)]) : ∀ (m1 : Nat) (v : Nat) (aa : Nat) (bb : Nat), N0 < v + m1 → aa < n0 → bb < n0 → mgPs n0 v = (aa, bb) → (∀ u, u < v → mgPs n0 u ≠ (x, y)) → (∀ v, v ≤ N0 → mgPs n0 v = (x, y) → (∀ u, u < v → mgPs n0 u ≠ (x, y)) → post (nI (v + 1)) [(a, .inr (5, [.int (nI w), .int (nI h), .int (nI (w * h)), .int (nI g), .ref b1, .ref b2, .ref b3, .int (nI bg), .int (nI tl), .int (nI sp), .int (nI 0), .ref b4, .ref b5, .ref b6, .ref b7, .ref b8, .ref b9, .int (nI isf)])), (b1, .inl (cL, 36, .inl (nA ba))), (b2, .inl (cL, 36, .inl (nA vi))), (b3, .inl (cI, 36, .inl (nA to))), (b4, .inl (cI, 6, .inl (mA rw))), (b5, .inl (cI, 6, .inl (mA li))), (b6, .inl (cI, 36, .inl (nA gi))), (b7, .inl (cI, 36, .inl (nA fl))), (b8, .inl (cI, 36, .inl (nA fo))), (b9, .inl (cI, 36, .inl (nA my)))]) → ∀ (H : Heap) (locs : List Loc), va_P D classes [(a, .inr (5, [.int (nI w), .int (nI h), .int (nI (w * h)), .int (nI g), .ref b1, .ref b2, .ref b3, .int (nI bg), .int (nI tl), .int (nI sp), .int (nI 0), .ref b4, .ref b5, .ref b6, .ref b7, .ref b8, .ref b9, .int (nI isf)])), (b1, .inl (cL, 36, .inl (nA ba))), (b2, .inl (cL, 36, .inl (nA vi))), (b3, .inl (cI, 36, .inl (nA to))), (b4, .inl (cI, 6, .inl (mA rw))), (b5, .inl (cI, 6, .inl (mA li))), (b6, .inl (cI, 36, .inl (nA gi))), (b7, .inl (cI, 36, .inl (nA fl))), (b8, .inl (cI, 36, .inl (nA fo))), (b9, .inl (cI, 36, .inl (nA my)))] H → va_D A [(a, .inr (5, [.int (nI w), .int (nI h), .int (nI (w * h)), .int (nI g), .ref b1, .ref b2, .ref b3, .int (nI bg), .int (nI tl), .int (nI sp), .int (nI 0), .ref b4, .ref b5, .ref b6, .ref b7, .ref b8, .ref b9, .int (nI isf)])), (b1, .inl (cL, 36, .inl (nA ba))), (b2, .inl (cL, 36, .inl (nA vi))), (b3, .inl (cI, 36, .inl (nA to))), (b4, .inl (cI, 6, .inl (mA rw))), (b5, .inl (cI, 6, .inl (mA li))), (b6, .inl (cI, 36, .inl (nA gi))), (b7, .inl (cI, 36, .inl (nA fl))), (b8, .inl (cI, 36, .inl (nA fo))), (b9, .inl (cI, 36, .inl (nA my)))] → va_S A s.heap H locs → ∀ ls : Array Slot, lv_has ls 7 [(0, .ref a), (1, .int (nI n0)), (2, .int (nI x)), (3, .int (nI y)), (4, .int (nI aa)), (5, .int (nI bb)), (6, .int (nI (v + 1)))] → W p l e { frames := 0, cells := 0, slots := 0, locals := 0 } s m args below meth c H locs 0 0 (MQ below (qI D [(cI, .int), (cL, .boolean)] post A) args s 0 0 A) (F0 m 53 ls []) := by
  obtain ⟨hx, hb, hml, hown, hts, hr, hlk, hA, hK, hN⟩ := id E
  have ho : ∀ q ∈ Om, q.before _ s = true := fun q h => hts q (List.mem_cons_of_mem _ h)
  intro m1
  induction m1 with
  | zero =>
    intro v aa bb h2 haa hbb hab hbef hq
    exact absurd hat (hbef N0 (by omega))
  | succ m1 ih =>
    intro v aa bb h2 haa hbb hab hbef hq H locs hP hD hS ls hl
    have hvN : v ≤ N0 := by
      rcases Nat.lt_or_ge N0 v with q | q
      · exact absurd hat (hbef N0 q)
      · exact q
    have hmd : (v + 1) % n0 < n0 := Nat.mod_lt _ hn1
    refine lv_iload hx hb d_MD_magic_53 (lv_at hl 4 rfl) ?_
    refine lv_iload_n hx hb d_MD_magic_55 rfl (lv_at hl 2 rfl) ?_
    refine nr_icmp_ne (tgt := 65) hx hb d_MD_magic_56 (by decide) (by omega) (by omega) (fun h_1 => ?_) (fun h_1 => ?_)
    · refine lv_iload hx hb d_MD_magic_65 (lv_at hl 6 rfl) ?_
      refine lv_iload_n hx hb d_MD_magic_67 rfl (lv_at hl 1 rfl) ?_
      refine nr_irem hx hb d_MD_magic_68 (by omega) (by omega) (by omega) ?_
      refine nr_if_ne (tgt := 83) hx hb d_MD_magic_69 (by decide) (by omega) (fun h_2 => ?_) (fun h_2 => ?_)
      · refine lv_iload hx hb d_MD_magic_83 (lv_at hl 4 rfl) ?_
        refine lv_iconst (v := nI 1) hx hb d_MD_magic_85 (by decide) ?_
        refine nr_iadd hx hb d_MD_magic_86 ?_
        refine lv_iload_n hx hb d_MD_magic_87 rfl (lv_at hl 1 rfl) ?_
        refine nr_irem hx hb d_MD_magic_88 (by omega) (by omega) (by omega) ?_
        refine lv_istore (lv' := [(4, .int (nI ((aa + 1) % n0))), (0, .ref a), (1, .int (nI n0)), (2, .int (nI x)), (3, .int (nI y)), (5, .int (nI bb)), (6, .int (nI (v + 1)))]) hx hb d_MD_magic_89 hl (by decide) rfl (fun ls hl => ?_)
        refine lv_iload hx hb d_MD_magic_91 (lv_at hl 5 rfl) ?_
        refine lv_iload_n hx hb d_MD_magic_93 rfl (lv_at hl 2 rfl) ?_
        refine nr_iadd hx hb d_MD_magic_94 ?_
        refine lv_iconst (v := nI 1) hx hb d_MD_magic_95 (by decide) ?_
        refine nr_isub hx hb d_MD_magic_96 (by omega) ?_
        refine lv_iload_n hx hb d_MD_magic_97 rfl (lv_at hl 2 rfl) ?_
        refine nr_irem hx hb d_MD_magic_98 (by omega) (by omega) (by omega) ?_
        refine lv_istore (lv' := [(5, .int (nI (((bb + n0) - 1) % n0))), (4, .int (nI ((aa + 1) % n0))), (0, .ref a), (1, .int (nI n0)), (2, .int (nI x)), (3, .int (nI y)), (6, .int (nI (v + 1)))]) hx hb d_MD_magic_99 hl (by decide) rfl (fun ls hl => ?_)
        refine nr_iinc (lv' := [(6, .int (nI ((v + 1) + 1))), (5, .int (nI (((bb + n0) - 1) % n0))), (4, .int (nI ((aa + 1) % n0))), (0, .ref a), (1, .int (nI n0)), (2, .int (nI x)), (3, .int (nI y))]) hx hb d_MD_magic_101 hl (k := 6) rfl (by decide) rfl (fun ls hl => ?_)
        refine lv_goto (tgt := 53) hx hb d_MD_magic_104 (by decide) ?_
        have e9 : mgPs n0 (v + 1) = ((aa + 1) % n0, ((bb + n0) - 1) % n0) := by rw [mgPs, hab]; dsimp only; unfold mgSt; rw [if_neg (by omega)]
        exact ih (v + 1) ((aa + 1) % n0) (((bb + n0) - 1) % n0) (by omega) (by first | assumption | exact Nat.mod_lt _ (by omega)) (by first | assumption | exact Nat.mod_lt _ (by omega)) e9 (fun u hu => by rcases Nat.lt_or_ge u v with q | q; exact hbef u q; (rw [show u = v by omega, hab]; intro z; have z1 := congrArg Prod.fst z; have z2 := congrArg Prod.snd z; dsimp only at z1 z2; omega)) hq _ _ hP hD hS ls (lv_sub hl [3, 4, 5, 6, 2, 1, 0] rfl)
      · refine lv_iload hx hb d_MD_magic_72 (lv_at hl 5 rfl) ?_
        refine lv_iconst (v := nI 1) hx hb d_MD_magic_74 (by decide) ?_
        refine nr_iadd hx hb d_MD_magic_75 ?_
        refine lv_iload_n hx hb d_MD_magic_76 rfl (lv_at hl 1 rfl) ?_
        refine nr_irem hx hb d_MD_magic_77 (by omega) (by omega) (by omega) ?_
        refine lv_istore (lv' := [(5, .int (nI ((bb + 1) % n0))), (0, .ref a), (1, .int (nI n0)), (2, .int (nI x)), (3, .int (nI y)), (4, .int (nI aa)), (6, .int (nI (v + 1)))]) hx hb d_MD_magic_78 hl (by decide) rfl (fun ls hl => ?_)
        refine lv_goto (tgt := 101) hx hb d_MD_magic_80 (by decide) ?_
        refine nr_iinc (lv' := [(6, .int (nI ((v + 1) + 1))), (5, .int (nI ((bb + 1) % n0))), (0, .ref a), (1, .int (nI n0)), (2, .int (nI x)), (3, .int (nI y)), (4, .int (nI aa))]) hx hb d_MD_magic_101 hl (k := 6) rfl (by decide) rfl (fun ls hl => ?_)
        refine lv_goto (tgt := 53) hx hb d_MD_magic_104 (by decide) ?_
        have e9 : mgPs n0 (v + 1) = (aa, (bb + 1) % n0) := by rw [mgPs, hab]; dsimp only; unfold mgSt; rw [if_pos (by omega)]
        exact ih (v + 1) aa ((bb + 1) % n0) (by omega) (by first | assumption | exact Nat.mod_lt _ (by omega)) (by first | assumption | exact Nat.mod_lt _ (by omega)) e9 (fun u hu => by rcases Nat.lt_or_ge u v with q | q; exact hbef u q; (rw [show u = v by omega, hab]; intro z; have z1 := congrArg Prod.fst z; have z2 := congrArg Prod.snd z; dsimp only at z1 z2; omega)) hq _ _ hP hD hS ls (lv_sub hl [2, 3, 4, 5, 6, 1, 0] rfl)
    · refine lv_iload hx hb d_MD_magic_59 (lv_at hl 5 rfl) ?_
      refine lv_iload_n hx hb d_MD_magic_61 rfl (lv_at hl 3 rfl) ?_
      refine nr_icmp_eq (tgt := 107) hx hb d_MD_magic_62 (by decide) (by omega) (by omega) (fun h_3 => ?_) (fun h_3 => ?_)
      · refine lv_iload hx hb d_MD_magic_107 (lv_at hl 6 rfl) ?_
        exact rt_i E hP hD hS (hq v (by omega) (by rw [hab]; exact Prod.ext (by dsimp only; omega) (by dsimp only; omega)) hbef) d_MD_magic_109
      · refine lv_iload hx hb d_MD_magic_65 (lv_at hl 6 rfl) ?_
        refine lv_iload_n hx hb d_MD_magic_67 rfl (lv_at hl 1 rfl) ?_
        refine nr_irem hx hb d_MD_magic_68 (by omega) (by omega) (by omega) ?_
        refine nr_if_ne (tgt := 83) hx hb d_MD_magic_69 (by decide) (by omega) (fun h_4 => ?_) (fun h_4 => ?_)
        · refine lv_iload hx hb d_MD_magic_83 (lv_at hl 4 rfl) ?_
          refine lv_iconst (v := nI 1) hx hb d_MD_magic_85 (by decide) ?_
          refine nr_iadd hx hb d_MD_magic_86 ?_
          refine lv_iload_n hx hb d_MD_magic_87 rfl (lv_at hl 1 rfl) ?_
          refine nr_irem hx hb d_MD_magic_88 (by omega) (by omega) (by omega) ?_
          refine lv_istore (lv' := [(4, .int (nI ((aa + 1) % n0))), (0, .ref a), (1, .int (nI n0)), (2, .int (nI x)), (3, .int (nI y)), (5, .int (nI bb)), (6, .int (nI (v + 1)))]) hx hb d_MD_magic_89 hl (by decide) rfl (fun ls hl => ?_)
          refine lv_iload hx hb d_MD_magic_91 (lv_at hl 5 rfl) ?_
          refine lv_iload_n hx hb d_MD_magic_93 rfl (lv_at hl 2 rfl) ?_
          refine nr_iadd hx hb d_MD_magic_94 ?_
          refine lv_iconst (v := nI 1) hx hb d_MD_magic_95 (by decide) ?_
          refine nr_isub hx hb d_MD_magic_96 (by omega) ?_
          refine lv_iload_n hx hb d_MD_magic_97 rfl (lv_at hl 2 rfl) ?_
          refine nr_irem hx hb d_MD_magic_98 (by omega) (by omega) (by omega) ?_
          refine lv_istore (lv' := [(5, .int (nI (((bb + n0) - 1) % n0))), (4, .int (nI ((aa + 1) % n0))), (0, .ref a), (1, .int (nI n0)), (2, .int (nI x)), (3, .int (nI y)), (6, .int (nI (v + 1)))]) hx hb d_MD_magic_99 hl (by decide) rfl (fun ls hl => ?_)
          refine nr_iinc (lv' := [(6, .int (nI ((v + 1) + 1))), (5, .int (nI (((bb + n0) - 1) % n0))), (4, .int (nI ((aa + 1) % n0))), (0, .ref a), (1, .int (nI n0)), (2, .int (nI x)), (3, .int (nI y))]) hx hb d_MD_magic_101 hl (k := 6) rfl (by decide) rfl (fun ls hl => ?_)
          refine lv_goto (tgt := 53) hx hb d_MD_magic_104 (by decide) ?_
          have e9 : mgPs n0 (v + 1) = ((aa + 1) % n0, ((bb + n0) - 1) % n0) := by rw [mgPs, hab]; dsimp only; unfold mgSt; rw [if_neg (by omega)]
          exact ih (v + 1) ((aa + 1) % n0) (((bb + n0) - 1) % n0) (by omega) (by first | assumption | exact Nat.mod_lt _ (by omega)) (by first | assumption | exact Nat.mod_lt _ (by omega)) e9 (fun u hu => by rcases Nat.lt_or_ge u v with q | q; exact hbef u q; (rw [show u = v by omega, hab]; intro z; have z1 := congrArg Prod.fst z; have z2 := congrArg Prod.snd z; dsimp only at z1 z2; omega)) hq _ _ hP hD hS ls (lv_sub hl [3, 4, 5, 6, 2, 1, 0] rfl)
        · refine lv_iload hx hb d_MD_magic_72 (lv_at hl 5 rfl) ?_
          refine lv_iconst (v := nI 1) hx hb d_MD_magic_74 (by decide) ?_
          refine nr_iadd hx hb d_MD_magic_75 ?_
          refine lv_iload_n hx hb d_MD_magic_76 rfl (lv_at hl 1 rfl) ?_
          refine nr_irem hx hb d_MD_magic_77 (by omega) (by omega) (by omega) ?_
          refine lv_istore (lv' := [(5, .int (nI ((bb + 1) % n0))), (0, .ref a), (1, .int (nI n0)), (2, .int (nI x)), (3, .int (nI y)), (4, .int (nI aa)), (6, .int (nI (v + 1)))]) hx hb d_MD_magic_78 hl (by decide) rfl (fun ls hl => ?_)
          refine lv_goto (tgt := 101) hx hb d_MD_magic_80 (by decide) ?_
          refine nr_iinc (lv' := [(6, .int (nI ((v + 1) + 1))), (5, .int (nI ((bb + 1) % n0))), (0, .ref a), (1, .int (nI n0)), (2, .int (nI x)), (3, .int (nI y)), (4, .int (nI aa))]) hx hb d_MD_magic_101 hl (k := 6) rfl (by decide) rfl (fun ls hl => ?_)
          refine lv_goto (tgt := 53) hx hb d_MD_magic_104 (by decide) ?_
          have e9 : mgPs n0 (v + 1) = (aa, (bb + 1) % n0) := by rw [mgPs, hab]; dsimp only; unfold mgSt; rw [if_pos (by omega)]
          exact ih (v + 1) aa ((bb + 1) % n0) (by omega) (by first | assumption | exact Nat.mod_lt _ (by omega)) (by first | assumption | exact Nat.mod_lt _ (by omega)) e9 (fun u hu => by rcases Nat.lt_or_ge u v with q | q; exact hbef u q; (rw [show u = v by omega, hab]; intro z; have z1 := congrArg Prod.fst z; have z2 := congrArg Prod.snd z; dsimp only at z1 z2; omega)) hq _ _ hP hD hS ls (lv_sub hl [2, 3, 4, 5, 6, 1, 0] rfl)
set_option maxHeartbeats 1000000 in
set_option maxRecDepth 100000 in
theorem c_MD_magicIn (l : Launch) (D : va_G) (cI cL : ClassId) (a b1 b2 b3 b4 b5 b6 b7 b8 b9 w h g bg tl sp th isf : Nat) (ba vi to rw li gi fl fo my : Nat → Nat) (n0 x y : Nat) (hn1 : 1 ≤ n0) (hn15 : n0 ≤ 15) (hodd : n0 % 2 = 1) (hx0 : x < n0) (hy0 : y < n0) (N0 : Nat) (hN0 : N0 < 2 ^ 20) (hat : mgPs n0 N0 = (x, y)) (huq : ∀ u, mgPs n0 u = (x, y) → u ≤ N0 → u = N0) : CI l y_MD_magic (.code y_MD_magic b_MD_magic 7 (some .int) :: Om) { frames := 0, cells := 0, slots := 0, locals := 0 } D [(a, .inr (5, [.int (nI w), .int (nI h), .int (nI (w * h)), .int (nI g), .ref b1, .ref b2, .ref b3, .int (nI bg), .int (nI tl), .int (nI sp), .int (nI th), .ref b4, .ref b5, .ref b6, .ref b7, .ref b8, .ref b9, .int (nI isf)])), (b1, .inl (cL, 36, .inl (nA ba))), (b2, .inl (cL, 36, .inl (nA vi))), (b3, .inl (cI, 36, .inl (nA to))), (b4, .inl (cI, 6, .inl (mA rw))), (b5, .inl (cI, 6, .inl (mA li))), (b6, .inl (cI, 36, .inl (nA gi))), (b7, .inl (cI, 36, .inl (nA fl))), (b8, .inl (cI, 36, .inl (nA fo))), (b9, .inl (cI, 36, .inl (nA my)))] [(cI, .int), (cL, .boolean)] [.ref a, .int (nI n0), .int (nI x), .int (nI y)] (fun r u => r = nI (N0 + 1) ∧ u = [(a, .inr (5, [.int (nI w), .int (nI h), .int (nI (w * h)), .int (nI g), .ref b1, .ref b2, .ref b3, .int (nI bg), .int (nI tl), .int (nI sp), .int (nI 0), .ref b4, .ref b5, .ref b6, .ref b7, .ref b8, .ref b9, .int (nI isf)])), (b1, .inl (cL, 36, .inl (nA ba))), (b2, .inl (cL, 36, .inl (nA vi))), (b3, .inl (cI, 36, .inl (nA to))), (b4, .inl (cI, 6, .inl (mA rw))), (b5, .inl (cI, 6, .inl (mA li))), (b6, .inl (cI, 36, .inl (nA gi))), (b7, .inl (cI, 36, .inl (nA fl))), (b8, .inl (cI, 36, .inl (nA fo))), (b9, .inl (cI, 36, .inl (nA my)))]) := by
  refine en_of (cc := b_MD_magic) (Qc := qI D [(cI, .int), (cL, .boolean)] (fun r u => r = nI (N0 + 1) ∧ u = [(a, .inr (5, [.int (nI w), .int (nI h), .int (nI (w * h)), .int (nI g), .ref b1, .ref b2, .ref b3, .int (nI bg), .int (nI tl), .int (nI sp), .int (nI 0), .ref b4, .ref b5, .ref b6, .ref b7, .ref b8, .ref b9, .int (nI isf)])), (b1, .inl (cL, 36, .inl (nA ba))), (b2, .inl (cL, 36, .inl (nA vi))), (b3, .inl (cI, 36, .inl (nA to))), (b4, .inl (cI, 6, .inl (mA rw))), (b5, .inl (cI, 6, .inl (mA li))), (b6, .inl (cI, 36, .inl (nA gi))), (b7, .inl (cI, 36, .inl (nA fl))), (b8, .inl (cI, 36, .inl (nA fo))), (b9, .inl (cI, 36, .inl (nA my)))])) (by decide) rfl (Nat.le_of_ble_eq_true rfl) ?_
  intro p e s m below meth c A E hnm hP hD hS ls hl
  have hl : lv_has ls 7 [(0, .ref a), (1, .int (nI n0)), (2, .int (nI x)), (3, .int (nI y))] := hl
  obtain ⟨hx, hb, hml, hown, hts, hr, hlk, hA, hK, hN⟩ := id E
  have ho : ∀ q ∈ Om, q.before _ s = true := fun q h => hts q (List.mem_cons_of_mem _ h)
  refine lv_aload_n hx hb d_MD_magic_0 rfl (lv_at hl 0 rfl) ?_
  refine lv_iconst (v := nI 0) hx hb d_MD_magic_1 (by decide) ?_
  refine va_put (D := D) (ci := 5) (v := .int (nI 0)) (ty := .int) (C := R_MD) (T := F_MD) (N := 18) hx hb ho j_MD t_MD t_MD_ok n_MD hown hK hP hD hS 0 rfl rfl 10 (by decide) (ho _ kf_MD_55) (fun _ h9 => h9) rfl (by decide +kernel) rfl rfl (Nat.le_of_ble_eq_true rfl) d_MD_magic_2 (fun H locs hP hD hS => ?_)
  have hP : va_P D classes [(a, .inr (5, [.int (nI w), .int (nI h), .int (nI (w * h)), .int (nI g), .ref b1, .ref b2, .ref b3, .int (nI bg), .int (nI tl), .int (nI sp), .int (nI 0), .ref b4, .ref b5, .ref b6, .ref b7, .ref b8, .ref b9, .int (nI isf)])), (b1, .inl (cL, 36, .inl (nA ba))), (b2, .inl (cL, 36, .inl (nA vi))), (b3, .inl (cI, 36, .inl (nA to))), (b4, .inl (cI, 6, .inl (mA rw))), (b5, .inl (cI, 6, .inl (mA li))), (b6, .inl (cI, 36, .inl (nA gi))), (b7, .inl (cI, 36, .inl (nA fl))), (b8, .inl (cI, 36, .inl (nA fo))), (b9, .inl (cI, 36, .inl (nA my)))] H := hP
  have hD : va_D A [(a, .inr (5, [.int (nI w), .int (nI h), .int (nI (w * h)), .int (nI g), .ref b1, .ref b2, .ref b3, .int (nI bg), .int (nI tl), .int (nI sp), .int (nI 0), .ref b4, .ref b5, .ref b6, .ref b7, .ref b8, .ref b9, .int (nI isf)])), (b1, .inl (cL, 36, .inl (nA ba))), (b2, .inl (cL, 36, .inl (nA vi))), (b3, .inl (cI, 36, .inl (nA to))), (b4, .inl (cI, 6, .inl (mA rw))), (b5, .inl (cI, 6, .inl (mA li))), (b6, .inl (cI, 36, .inl (nA gi))), (b7, .inl (cI, 36, .inl (nA fl))), (b8, .inl (cI, 36, .inl (nA fo))), (b9, .inl (cI, 36, .inl (nA my)))] := hD
  refine lv_iload_n hx hb d_MD_magic_5 rfl (lv_at hl 1 rfl) ?_
  refine lv_iconst (v := nI 1) hx hb d_MD_magic_6 (by decide) ?_
  refine nr_icmp_lt (tgt := 40) hx hb d_MD_magic_7 (by decide) (by omega) (by omega) (fun h9 => absurd h9 (by omega)) (fun _ => ?_)
  refine lv_iload_n hx hb d_MD_magic_10 rfl (lv_at hl 1 rfl) ?_
  refine lv_bipush (v := nI 15) hx hb d_MD_magic_11 (by decide) ?_
  refine nr_icmp_gt (tgt := 40) hx hb d_MD_magic_13 (by decide) (by omega) (by omega) (fun h9 => absurd h9 (by omega)) (fun _ => ?_)
  refine lv_iload_n hx hb d_MD_magic_16 rfl (lv_at hl 1 rfl) ?_
  refine lv_iconst (v := nI 2) hx hb d_MD_magic_17 (by decide) ?_
  refine nr_irem hx hb d_MD_magic_18 (by omega) (by omega) (by omega) ?_
  refine nr_if_eq (tgt := 40) hx hb d_MD_magic_19 (by decide) (by omega) (fun h9 => absurd h9 (by omega)) (fun _ => ?_)
  refine lv_iload_n hx hb d_MD_magic_22 rfl (lv_at hl 2 rfl) ?_
  refine nr_if_lt (tgt := 40) hx hb d_MD_magic_23 (by decide) (by omega) ?_
  refine lv_iload_n hx hb d_MD_magic_26 rfl (lv_at hl 2 rfl) ?_
  refine lv_iload_n hx hb d_MD_magic_27 rfl (lv_at hl 1 rfl) ?_
  refine nr_icmp_ge (tgt := 40) hx hb d_MD_magic_28 (by decide) (by omega) (by omega) (fun h9 => absurd h9 (by omega)) (fun _ => ?_)
  refine lv_iload_n hx hb d_MD_magic_31 rfl (lv_at hl 3 rfl) ?_
  refine nr_if_lt (tgt := 40) hx hb d_MD_magic_32 (by decide) (by omega) ?_
  refine lv_iload_n hx hb d_MD_magic_35 rfl (lv_at hl 3 rfl) ?_
  refine lv_iload_n hx hb d_MD_magic_36 rfl (lv_at hl 1 rfl) ?_
  refine nr_icmp_lt (tgt := 42) hx hb d_MD_magic_37 (by decide) (by omega) (by omega) (fun _ => ?_) (fun h9 => absurd h9 (by omega))
  refine lv_iload_n hx hb d_MD_magic_42 rfl (lv_at hl 1 rfl) ?_
  refine lv_iconst (v := nI 2) hx hb d_MD_magic_43 (by decide) ?_
  refine nr_idiv hx hb d_MD_magic_44 (by omega) (by omega) (by omega) ?_
  refine lv_istore (lv' := [(4, .int (nI (n0 / 2))), (0, .ref a), (1, .int (nI n0)), (2, .int (nI x)), (3, .int (nI y))]) hx hb d_MD_magic_45 hl (by decide) rfl (fun ls hl => ?_)
  refine lv_iconst (v := nI 0) hx hb d_MD_magic_47 (by decide) ?_
  refine lv_istore (lv' := [(5, .int (nI 0)), (4, .int (nI (n0 / 2))), (0, .ref a), (1, .int (nI n0)), (2, .int (nI x)), (3, .int (nI y))]) hx hb d_MD_magic_48 hl (by decide) rfl (fun ls hl => ?_)
  refine lv_iconst (v := nI 1) hx hb d_MD_magic_50 (by decide) ?_
  refine lv_istore (lv' := [(6, .int (nI 1)), (5, .int (nI 0)), (4, .int (nI (n0 / 2))), (0, .ref a), (1, .int (nI n0)), (2, .int (nI x)), (3, .int (nI y))]) hx hb d_MD_magic_51 hl (by decide) rfl (fun ls hl => ?_)
  exact L_MD_magic a b1 b2 b3 b4 b5 b6 b7 b8 b9 w h g bg tl sp 0 isf ba vi to rw li gi fl fo my n0 x y hn1 hn15 hodd hx0 hy0 N0 hN0 hat E (N0 + 1) 0 (n0 / 2) 0 (by omega) (by omega) (by omega) rfl (fun u hu => by omega) (fun v hv e _ => by rw [huq v e hv]; exact ⟨rfl, rfl⟩) _ _ hP hD hS ls (lv_sub hl [3, 4, 5, 6, 2, 1, 0] rfl)
set_option maxHeartbeats 1000000 in
set_option maxRecDepth 100000 in
theorem c_MD_magicOut (l : Launch) (D : va_G) (cI cL : ClassId) (a b1 b2 b3 b4 b5 b6 b7 b8 b9 w h g bg tl sp th isf : Nat) (ba vi to rw li gi fl fo my : Nat → Nat) (n0 x y : Int32) (hb0 : mgB n0 x y) : CI l y_MD_magic (.code y_MD_magic b_MD_magic 7 (some .int) :: Om) { frames := 0, cells := 0, slots := 0, locals := 0 } D [(a, .inr (5, [.int (nI w), .int (nI h), .int (nI (w * h)), .int (nI g), .ref b1, .ref b2, .ref b3, .int (nI bg), .int (nI tl), .int (nI sp), .int (nI th), .ref b4, .ref b5, .ref b6, .ref b7, .ref b8, .ref b9, .int (nI isf)])), (b1, .inl (cL, 36, .inl (nA ba))), (b2, .inl (cL, 36, .inl (nA vi))), (b3, .inl (cI, 36, .inl (nA to))), (b4, .inl (cI, 6, .inl (mA rw))), (b5, .inl (cI, 6, .inl (mA li))), (b6, .inl (cI, 36, .inl (nA gi))), (b7, .inl (cI, 36, .inl (nA fl))), (b8, .inl (cI, 36, .inl (nA fo))), (b9, .inl (cI, 36, .inl (nA my)))] [(cI, .int), (cL, .boolean)] [.ref a, .int n0, .int x, .int y] (fun r u => r = -1 ∧ u = [(a, .inr (5, [.int (nI w), .int (nI h), .int (nI (w * h)), .int (nI g), .ref b1, .ref b2, .ref b3, .int (nI bg), .int (nI tl), .int (nI sp), .int (nI 0), .ref b4, .ref b5, .ref b6, .ref b7, .ref b8, .ref b9, .int (nI isf)])), (b1, .inl (cL, 36, .inl (nA ba))), (b2, .inl (cL, 36, .inl (nA vi))), (b3, .inl (cI, 36, .inl (nA to))), (b4, .inl (cI, 6, .inl (mA rw))), (b5, .inl (cI, 6, .inl (mA li))), (b6, .inl (cI, 36, .inl (nA gi))), (b7, .inl (cI, 36, .inl (nA fl))), (b8, .inl (cI, 36, .inl (nA fo))), (b9, .inl (cI, 36, .inl (nA my)))]) := by
  refine en_of (cc := b_MD_magic) (Qc := qI D [(cI, .int), (cL, .boolean)] (fun r u => r = -1 ∧ u = [(a, .inr (5, [.int (nI w), .int (nI h), .int (nI (w * h)), .int (nI g), .ref b1, .ref b2, .ref b3, .int (nI bg), .int (nI tl), .int (nI sp), .int (nI 0), .ref b4, .ref b5, .ref b6, .ref b7, .ref b8, .ref b9, .int (nI isf)])), (b1, .inl (cL, 36, .inl (nA ba))), (b2, .inl (cL, 36, .inl (nA vi))), (b3, .inl (cI, 36, .inl (nA to))), (b4, .inl (cI, 6, .inl (mA rw))), (b5, .inl (cI, 6, .inl (mA li))), (b6, .inl (cI, 36, .inl (nA gi))), (b7, .inl (cI, 36, .inl (nA fl))), (b8, .inl (cI, 36, .inl (nA fo))), (b9, .inl (cI, 36, .inl (nA my)))])) (by decide) rfl (Nat.le_of_ble_eq_true rfl) ?_
  intro p e s m below meth c A E hnm hP hD hS ls hl
  have hl : lv_has ls 7 [(0, .ref a), (1, .int n0), (2, .int x), (3, .int y)] := hl
  obtain ⟨hx, hb, hml, hown, hts, hr, hlk, hA, hK, hN⟩ := id E
  have ho : ∀ q ∈ Om, q.before _ s = true := fun q h => hts q (List.mem_cons_of_mem _ h)
  refine lv_aload_n hx hb d_MD_magic_0 rfl (lv_at hl 0 rfl) ?_
  refine lv_iconst (v := nI 0) hx hb d_MD_magic_1 (by decide) ?_
  refine va_put (D := D) (ci := 5) (v := .int (nI 0)) (ty := .int) (C := R_MD) (T := F_MD) (N := 18) hx hb ho j_MD t_MD t_MD_ok n_MD hown hK hP hD hS 0 rfl rfl 10 (by decide) (ho _ kf_MD_55) (fun _ h9 => h9) rfl (by decide +kernel) rfl rfl (Nat.le_of_ble_eq_true rfl) d_MD_magic_2 (fun H locs hP hD hS => ?_)
  have hP : va_P D classes [(a, .inr (5, [.int (nI w), .int (nI h), .int (nI (w * h)), .int (nI g), .ref b1, .ref b2, .ref b3, .int (nI bg), .int (nI tl), .int (nI sp), .int (nI 0), .ref b4, .ref b5, .ref b6, .ref b7, .ref b8, .ref b9, .int (nI isf)])), (b1, .inl (cL, 36, .inl (nA ba))), (b2, .inl (cL, 36, .inl (nA vi))), (b3, .inl (cI, 36, .inl (nA to))), (b4, .inl (cI, 6, .inl (mA rw))), (b5, .inl (cI, 6, .inl (mA li))), (b6, .inl (cI, 36, .inl (nA gi))), (b7, .inl (cI, 36, .inl (nA fl))), (b8, .inl (cI, 36, .inl (nA fo))), (b9, .inl (cI, 36, .inl (nA my)))] H := hP
  have hD : va_D A [(a, .inr (5, [.int (nI w), .int (nI h), .int (nI (w * h)), .int (nI g), .ref b1, .ref b2, .ref b3, .int (nI bg), .int (nI tl), .int (nI sp), .int (nI 0), .ref b4, .ref b5, .ref b6, .ref b7, .ref b8, .ref b9, .int (nI isf)])), (b1, .inl (cL, 36, .inl (nA ba))), (b2, .inl (cL, 36, .inl (nA vi))), (b3, .inl (cI, 36, .inl (nA to))), (b4, .inl (cI, 6, .inl (mA rw))), (b5, .inl (cI, 6, .inl (mA li))), (b6, .inl (cI, 36, .inl (nA gi))), (b7, .inl (cI, 36, .inl (nA fl))), (b8, .inl (cI, 36, .inl (nA fo))), (b9, .inl (cI, 36, .inl (nA my)))] := hD
  refine lv_iload_n hx hb d_MD_magic_5 rfl (lv_at hl 1 rfl) ?_
  refine lv_iconst (v := 1) hx hb d_MD_magic_6 (by decide) ?_
  refine lv_icmp_lt (tgt := 40) hx hb d_MD_magic_7 (by decide) (fun h_1 => ?_) (fun h_1 => ?_)
  · refine lv_iconst (v := (-1)) hx hb d_MD_magic_40 (by decide) ?_
    exact rt_i E hP hD hS ⟨rfl, rfl⟩ d_MD_magic_41
  · refine lv_iload_n hx hb d_MD_magic_10 rfl (lv_at hl 1 rfl) ?_
    refine lv_bipush (v := 15) hx hb d_MD_magic_11 (by decide) ?_
    refine lv_icmp_gt (tgt := 40) hx hb d_MD_magic_13 (by decide) (fun h_2 => ?_) (fun h_2 => ?_)
    · refine lv_iconst (v := (-1)) hx hb d_MD_magic_40 (by decide) ?_
      exact rt_i E hP hD hS ⟨rfl, rfl⟩ d_MD_magic_41
    · refine lv_iload_n hx hb d_MD_magic_16 rfl (lv_at hl 1 rfl) ?_
      refine lv_iconst (v := 2) hx hb d_MD_magic_17 (by decide) ?_
      refine lv_irem hx hb d_MD_magic_18 (by decide) ?_
      refine lv_if_eq (tgt := 40) hx hb d_MD_magic_19 (by decide) (fun h_3 => ?_) (fun h_3 => ?_)
      · refine lv_iconst (v := (-1)) hx hb d_MD_magic_40 (by decide) ?_
        exact rt_i E hP hD hS ⟨rfl, rfl⟩ d_MD_magic_41
      · refine lv_iload_n hx hb d_MD_magic_22 rfl (lv_at hl 2 rfl) ?_
        refine lv_if_lt (tgt := 40) hx hb d_MD_magic_23 (by decide) (fun h_4 => ?_) (fun h_4 => ?_)
        · refine lv_iconst (v := (-1)) hx hb d_MD_magic_40 (by decide) ?_
          exact rt_i E hP hD hS ⟨rfl, rfl⟩ d_MD_magic_41
        · refine lv_iload_n hx hb d_MD_magic_26 rfl (lv_at hl 2 rfl) ?_
          refine lv_iload_n hx hb d_MD_magic_27 rfl (lv_at hl 1 rfl) ?_
          refine lv_icmp_ge (tgt := 40) hx hb d_MD_magic_28 (by decide) (fun h_5 => ?_) (fun h_5 => ?_)
          · refine lv_iconst (v := (-1)) hx hb d_MD_magic_40 (by decide) ?_
            exact rt_i E hP hD hS ⟨rfl, rfl⟩ d_MD_magic_41
          · refine lv_iload_n hx hb d_MD_magic_31 rfl (lv_at hl 3 rfl) ?_
            refine lv_if_lt (tgt := 40) hx hb d_MD_magic_32 (by decide) (fun h_6 => ?_) (fun h_6 => ?_)
            · refine lv_iconst (v := (-1)) hx hb d_MD_magic_40 (by decide) ?_
              exact rt_i E hP hD hS ⟨rfl, rfl⟩ d_MD_magic_41
            · refine lv_iload_n hx hb d_MD_magic_35 rfl (lv_at hl 3 rfl) ?_
              refine lv_iload_n hx hb d_MD_magic_36 rfl (lv_at hl 1 rfl) ?_
              refine lv_icmp_lt (tgt := 42) hx hb d_MD_magic_37 (by decide) (fun h_7 => ?_) (fun h_7 => ?_)
              · exact absurd hb0 (by unfold mgB; rintro (q | q | q | q | q | q | q) <;> contradiction)
              · refine lv_iconst (v := (-1)) hx hb d_MD_magic_40 (by decide) ?_
                exact rt_i E hP hD hS ⟨rfl, rfl⟩ d_MD_magic_41
