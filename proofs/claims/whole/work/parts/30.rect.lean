/-! Rectangle: its small methods -/
set_option maxHeartbeats 1000000 in
set_option maxRecDepth 100000 in
theorem c_RC_choicesAt (l : Launch) (D : va_G) (cI cL : ClassId) (a b1 b2 b3 b4 b5 b6 n g sh al fd : Nat) (fx le tr wi co ro uc ur : Nat → Nat) (k : Nat) (hk : k < 36) (hco : ∀ k, co k < 6) (hro : ∀ k, ro k < 6) (hal : al < 128) (huc : ∀ k, uc k < 128) (hur : ∀ k, ur k < 128) : CI l y_RC_choicesAt (.code y_RC_choicesAt b_RC_choicesAt 2 (some .int) :: Om) { frames := 0, cells := 0, slots := 0, locals := 0 } D [(a, .inr (2, [.int (nI n), .int (nI g), .int (nI sh), .int (nI al), .ref b1, .ref b2, .ref b3, .ref b4, .ref b5, .ref b6, .long (lN (lz uc)), .long (lN (lz ur)), .int (nI fd)])), (b1, .inl (cI, 36, .inl (nA fx))), (b2, .inl (cI, 36, .inl (nA le))), (b3, .inl (cI, 36, .inl (nA tr))), (b4, .inl (cI, 36, .inl (nA wi))), (b5, .inl (cI, 36, .inl (nA (e8 co)))), (b6, .inl (cI, 36, .inl (nA (e8 ro))))] [(cI, .int), (cL, .long)] [.ref a, .int (nI k)] (fun r u => r = nI (rCh al co ro uc ur k) ∧ u = [(a, .inr (2, [.int (nI n), .int (nI g), .int (nI sh), .int (nI al), .ref b1, .ref b2, .ref b3, .ref b4, .ref b5, .ref b6, .long (lN (lz uc)), .long (lN (lz ur)), .int (nI fd)])), (b1, .inl (cI, 36, .inl (nA fx))), (b2, .inl (cI, 36, .inl (nA le))), (b3, .inl (cI, 36, .inl (nA tr))), (b4, .inl (cI, 36, .inl (nA wi))), (b5, .inl (cI, 36, .inl (nA (e8 co)))), (b6, .inl (cI, 36, .inl (nA (e8 ro))))]) := by
  refine en_of (cc := b_RC_choicesAt) (Qc := qI D [(cI, .int), (cL, .long)] (fun r u => r = nI (rCh al co ro uc ur k) ∧ u = [(a, .inr (2, [.int (nI n), .int (nI g), .int (nI sh), .int (nI al), .ref b1, .ref b2, .ref b3, .ref b4, .ref b5, .ref b6, .long (lN (lz uc)), .long (lN (lz ur)), .int (nI fd)])), (b1, .inl (cI, 36, .inl (nA fx))), (b2, .inl (cI, 36, .inl (nA le))), (b3, .inl (cI, 36, .inl (nA tr))), (b4, .inl (cI, 36, .inl (nA wi))), (b5, .inl (cI, 36, .inl (nA (e8 co)))), (b6, .inl (cI, 36, .inl (nA (e8 ro))))])) (by decide) rfl (Nat.le_of_ble_eq_true rfl) ?_
  intro p e s m below meth c A E hnm hP hD hS ls hl
  have hl : lv_has ls 2 [(0, .ref a), (1, .int (nI k))] := hl
  obtain ⟨hx, hb, hml, hown, hts, hr, hlk, hA, hK, hN⟩ := id E
  have ho : ∀ q ∈ Om, q.before _ s = true := fun q h => hts q (List.mem_cons_of_mem _ h)
  have hk1 := e8_le hco k
  have hk2 := e8_le hro k
  have hz1 := lz_lt huc
  have hz2 := lz_lt hur
  refine lv_iload_n hx hb d_RC_choicesAt_0 rfl (lv_at hl 1 rfl) ?_
  refine nr_if_lt (tgt := 10) hx hb d_RC_choicesAt_1 (by decide) (by omega) ?_
  refine lv_iload_n hx hb d_RC_choicesAt_4 rfl (lv_at hl 1 rfl) ?_
  refine lv_bipush (v := nI 36) hx hb d_RC_choicesAt_5 (by decide) ?_
  refine nr_icmp_lt (tgt := 12) hx hb d_RC_choicesAt_7 (by decide) (by omega) (by omega) (fun _ => ?_) (fun h9 => absurd h9 (by omega))
  refine lv_aload_n hx hb d_RC_choicesAt_12 rfl (lv_at hl 0 rfl) ?_
  refine va_get (D := D) (ci := 2) (v := .int (nI al)) (C := R_RC) (T := F_RC) (N := 13) hx hb ho j_RC hown hK hP 0 rfl rfl 3 (by decide) (ho _ kf_RC_49) (fun _ h9 => h9) rfl d_RC_choicesAt_13 ?_
  refine lv_aload_n hx hb d_RC_choicesAt_16 rfl (lv_at hl 0 rfl) ?_
  refine va_get (D := D) (ci := 2) (v := .long (lN (lz uc))) (C := R_RC) (T := F_RC) (N := 13) hx hb ho j_RC hown hK hP 0 rfl rfl 10 (by decide) (ho _ kf_RC_84) (fun _ h9 => h9) rfl d_RC_choicesAt_17 ?_
  refine lv_aload_n hx hb d_RC_choicesAt_20 rfl (lv_at hl 0 rfl) ?_
  refine va_get (D := D) (ci := 2) (v := .ref b5) (C := R_RC) (T := F_RC) (N := 13) hx hb ho j_RC hown hK hP 0 rfl rfl 8 (by decide) (ho _ kf_RC_24) (fun _ h9 => h9) rfl d_RC_choicesAt_21 ?_
  refine lv_iload_n hx hb d_RC_choicesAt_24 rfl (lv_at hl 1 rfl) ?_
  refine nr_ialdN hx hb hK hP 5 0 rfl rfl (i := k) (by omega) (by decide) d_RC_choicesAt_25 ?_
  refine nr_lushr hx hb d_RC_choicesAt_26 (by omega) (by omega) ?_
  refine lv_aload_n hx hb d_RC_choicesAt_27 rfl (lv_at hl 0 rfl) ?_
  refine va_get (D := D) (ci := 2) (v := .long (lN (lz ur))) (C := R_RC) (T := F_RC) (N := 13) hx hb ho j_RC hown hK hP 0 rfl rfl 11 (by decide) (ho _ kf_RC_88) (fun _ h9 => h9) rfl d_RC_choicesAt_28 ?_
  refine lv_aload_n hx hb d_RC_choicesAt_31 rfl (lv_at hl 0 rfl) ?_
  refine va_get (D := D) (ci := 2) (v := .ref b6) (C := R_RC) (T := F_RC) (N := 13) hx hb ho j_RC hown hK hP 0 rfl rfl 9 (by decide) (ho _ kf_RC_27) (fun _ h9 => h9) rfl d_RC_choicesAt_32 ?_
  refine lv_iload_n hx hb d_RC_choicesAt_35 rfl (lv_at hl 1 rfl) ?_
  refine nr_ialdN hx hb hK hP 6 0 rfl rfl (i := k) (by omega) (by decide) d_RC_choicesAt_36 ?_
  refine nr_lushr hx hb d_RC_choicesAt_37 (by omega) (by omega) ?_
  refine nr_lor hx hb d_RC_choicesAt_38 ?_
  refine nr_l2i hx hb d_RC_choicesAt_39 ?_
  refine lv_iconst (v := nI 4294967295) hx hb d_RC_choicesAt_40 (by decide) ?_
  refine nr_ixor hx hb d_RC_choicesAt_41 ?_
  refine nr_iand hx hb d_RC_choicesAt_42 ?_
  exact rt_i E hP hD hS ⟨by rw [lz_ch hal huc hur (hco k) (hro k)], rfl⟩ d_RC_choicesAt_43
set_option maxHeartbeats 1000000 in
set_option maxRecDepth 100000 in
theorem c_RC_put (l : Launch) (D : va_G) (cI cL : ClassId) (a b1 b2 b3 b4 b5 b6 n g sh al fd : Nat) (fx le tr wi co ro uc ur : Nat → Nat) (k v : Nat) (hk : k < 36) (hv : v < 7) (hco : ∀ k, co k < 6) (hro : ∀ k, ro k < 6) (huc : ∀ k, uc k < 128) (hur : ∀ k, ur k < 128) : CV l y_RC_put (.code y_RC_put b_RC_put 3 none :: Om) { frames := 0, cells := 0, slots := 0, locals := 0 } D [(a, .inr (2, [.int (nI n), .int (nI g), .int (nI sh), .int (nI al), .ref b1, .ref b2, .ref b3, .ref b4, .ref b5, .ref b6, .long (lN (lz uc)), .long (lN (lz ur)), .int (nI fd)])), (b1, .inl (cI, 36, .inl (nA fx))), (b2, .inl (cI, 36, .inl (nA le))), (b3, .inl (cI, 36, .inl (nA tr))), (b4, .inl (cI, 36, .inl (nA wi))), (b5, .inl (cI, 36, .inl (nA (e8 co)))), (b6, .inl (cI, 36, .inl (nA (e8 ro))))] [(cI, .int), (cL, .long)] [.ref a, .int (nI k), .int (nI v)] (fun u => u = [(a, .inr (2, [.int (nI n), .int (nI g), .int (nI sh), .int (nI al), .ref b1, .ref b2, .ref b3, .ref b4, .ref b5, .ref b6, .long (lN (lz (rPut uc (co k) v))), .long (lN (lz (rPut ur (ro k) v))), .int (nI fd)])), (b1, .inl (cI, 36, .inl (nA fx))), (b2, .inl (cI, 36, .inl (nA le))), (b3, .inl (cI, 36, .inl (nA (va_up tr k v)))), (b4, .inl (cI, 36, .inl (nA wi))), (b5, .inl (cI, 36, .inl (nA (e8 co)))), (b6, .inl (cI, 36, .inl (nA (e8 ro))))]) := by
  refine en_of (cc := b_RC_put) (Qc := qV D [(cI, .int), (cL, .long)] (fun u => u = [(a, .inr (2, [.int (nI n), .int (nI g), .int (nI sh), .int (nI al), .ref b1, .ref b2, .ref b3, .ref b4, .ref b5, .ref b6, .long (lN (lz (rPut uc (co k) v))), .long (lN (lz (rPut ur (ro k) v))), .int (nI fd)])), (b1, .inl (cI, 36, .inl (nA fx))), (b2, .inl (cI, 36, .inl (nA le))), (b3, .inl (cI, 36, .inl (nA (va_up tr k v)))), (b4, .inl (cI, 36, .inl (nA wi))), (b5, .inl (cI, 36, .inl (nA (e8 co)))), (b6, .inl (cI, 36, .inl (nA (e8 ro))))])) (by decide) rfl (Nat.le_of_ble_eq_true rfl) ?_
  intro p e s m below meth c A E hnm hP hD hS ls hl
  have hl : lv_has ls 3 [(0, .ref a), (1, .int (nI k)), (2, .int (nI v))] := hl
  obtain ⟨hx, hb, hml, hown, hts, hr, hlk, hA, hK, hN⟩ := id E
  have ho : ∀ q ∈ Om, q.before _ s = true := fun q h => hts q (List.mem_cons_of_mem _ h)
  have hk1 := e8_le hco k
  have hk2 := e8_le hro k
  have hz1 := lz_lt huc
  have hz2 := lz_lt hur
  refine lv_iload_n hx hb d_RC_put_0 rfl (lv_at hl 1 rfl) ?_
  refine nr_if_lt (tgt := 10) hx hb d_RC_put_1 (by decide) (by omega) ?_
  refine lv_iload_n hx hb d_RC_put_4 rfl (lv_at hl 1 rfl) ?_
  refine lv_bipush (v := nI 36) hx hb d_RC_put_5 (by decide) ?_
  refine nr_icmp_lt (tgt := 11) hx hb d_RC_put_7 (by decide) (by omega) (by omega) (fun _ => ?_) (fun h9 => absurd h9 (by omega))
  refine lv_aload_n hx hb d_RC_put_11 rfl (lv_at hl 0 rfl) ?_
  refine va_get (D := D) (ci := 2) (v := .ref b3) (C := R_RC) (T := F_RC) (N := 13) hx hb ho j_RC hown hK hP 0 rfl rfl 6 (by decide) (ho _ kf_RC_18) (fun _ h9 => h9) rfl d_RC_put_12 ?_
  refine lv_iload_n hx hb d_RC_put_15 rfl (lv_at hl 1 rfl) ?_
  refine lv_iload_n hx hb d_RC_put_16 rfl (lv_at hl 2 rfl) ?_
  refine nr_iast hx hb hK hP hD hS 3 0 rfl rfl (i := k) (x := v) (by omega) (by decide) d_RC_put_17 (fun H locs hP hD hS => ?_)
  have hP : va_P D classes [(a, .inr (2, [.int (nI n), .int (nI g), .int (nI sh), .int (nI al), .ref b1, .ref b2, .ref b3, .ref b4, .ref b5, .ref b6, .long (lN (lz uc)), .long (lN (lz ur)), .int (nI fd)])), (b1, .inl (cI, 36, .inl (nA fx))), (b2, .inl (cI, 36, .inl (nA le))), (b3, .inl (cI, 36, .inl (nA (va_up tr k v)))), (b4, .inl (cI, 36, .inl (nA wi))), (b5, .inl (cI, 36, .inl (nA (e8 co)))), (b6, .inl (cI, 36, .inl (nA (e8 ro))))] H := hP
  have hD : va_D A [(a, .inr (2, [.int (nI n), .int (nI g), .int (nI sh), .int (nI al), .ref b1, .ref b2, .ref b3, .ref b4, .ref b5, .ref b6, .long (lN (lz uc)), .long (lN (lz ur)), .int (nI fd)])), (b1, .inl (cI, 36, .inl (nA fx))), (b2, .inl (cI, 36, .inl (nA le))), (b3, .inl (cI, 36, .inl (nA (va_up tr k v)))), (b4, .inl (cI, 36, .inl (nA wi))), (b5, .inl (cI, 36, .inl (nA (e8 co)))), (b6, .inl (cI, 36, .inl (nA (e8 ro))))] := hD
  refine lv_aload_n hx hb d_RC_put_18 rfl (lv_at hl 0 rfl) ?_
  refine lv_dup hx hb d_RC_put_19 rfl ?_
  refine va_get (D := D) (ci := 2) (v := .long (lN (lz uc))) (C := R_RC) (T := F_RC) (N := 13) hx hb ho j_RC hown hK hP 0 rfl rfl 10 (by decide) (ho _ kf_RC_84) (fun _ h9 => h9) rfl d_RC_put_20 ?_
  refine lv_lconst (v := lN 1) hx hb d_RC_put_23 rfl ?_
  refine lv_aload_n hx hb d_RC_put_24 rfl (lv_at hl 0 rfl) ?_
  refine va_get (D := D) (ci := 2) (v := .ref b5) (C := R_RC) (T := F_RC) (N := 13) hx hb ho j_RC hown hK hP 0 rfl rfl 8 (by decide) (ho _ kf_RC_24) (fun _ h9 => h9) rfl d_RC_put_25 ?_
  refine lv_iload_n hx hb d_RC_put_28 rfl (lv_at hl 1 rfl) ?_
  refine nr_ialdN hx hb hK hP 5 0 rfl rfl (i := k) (by omega) (by decide) d_RC_put_29 ?_
  refine lv_iload_n hx hb d_RC_put_30 rfl (lv_at hl 2 rfl) ?_
  refine nr_iadd hx hb d_RC_put_31 ?_
  refine nr_lshl1 hx hb d_RC_put_32 (by omega) ?_
  refine nr_lor hx hb d_RC_put_33 ?_
  refine va_put (D := D) (ci := 2) (v := .long (lN ((lz uc) ||| (2 ^ (((e8 co) k) + v))))) (ty := .long) (C := R_RC) (T := F_RC) (N := 13) hx hb ho j_RC t_RC t_RC_ok n_RC hown hK hP hD hS 0 rfl rfl 10 (by decide) (ho _ kf_RC_84) (fun _ h9 => h9) rfl (by decide +kernel) rfl rfl (Nat.le_of_ble_eq_true rfl) d_RC_put_34 (fun H locs hP hD hS => ?_)
  have hP : va_P D classes [(a, .inr (2, [.int (nI n), .int (nI g), .int (nI sh), .int (nI al), .ref b1, .ref b2, .ref b3, .ref b4, .ref b5, .ref b6, .long (lN ((lz uc) ||| (2 ^ (((e8 co) k) + v)))), .long (lN (lz ur)), .int (nI fd)])), (b1, .inl (cI, 36, .inl (nA fx))), (b2, .inl (cI, 36, .inl (nA le))), (b3, .inl (cI, 36, .inl (nA (va_up tr k v)))), (b4, .inl (cI, 36, .inl (nA wi))), (b5, .inl (cI, 36, .inl (nA (e8 co)))), (b6, .inl (cI, 36, .inl (nA (e8 ro))))] H := hP
  have hD : va_D A [(a, .inr (2, [.int (nI n), .int (nI g), .int (nI sh), .int (nI al), .ref b1, .ref b2, .ref b3, .ref b4, .ref b5, .ref b6, .long (lN ((lz uc) ||| (2 ^ (((e8 co) k) + v)))), .long (lN (lz ur)), .int (nI fd)])), (b1, .inl (cI, 36, .inl (nA fx))), (b2, .inl (cI, 36, .inl (nA le))), (b3, .inl (cI, 36, .inl (nA (va_up tr k v)))), (b4, .inl (cI, 36, .inl (nA wi))), (b5, .inl (cI, 36, .inl (nA (e8 co)))), (b6, .inl (cI, 36, .inl (nA (e8 ro))))] := hD
  refine lv_aload_n hx hb d_RC_put_37 rfl (lv_at hl 0 rfl) ?_
  refine lv_dup hx hb d_RC_put_38 rfl ?_
  refine va_get (D := D) (ci := 2) (v := .long (lN (lz ur))) (C := R_RC) (T := F_RC) (N := 13) hx hb ho j_RC hown hK hP 0 rfl rfl 11 (by decide) (ho _ kf_RC_88) (fun _ h9 => h9) rfl d_RC_put_39 ?_
  refine lv_lconst (v := lN 1) hx hb d_RC_put_42 rfl ?_
  refine lv_aload_n hx hb d_RC_put_43 rfl (lv_at hl 0 rfl) ?_
  refine va_get (D := D) (ci := 2) (v := .ref b6) (C := R_RC) (T := F_RC) (N := 13) hx hb ho j_RC hown hK hP 0 rfl rfl 9 (by decide) (ho _ kf_RC_27) (fun _ h9 => h9) rfl d_RC_put_44 ?_
  refine lv_iload_n hx hb d_RC_put_47 rfl (lv_at hl 1 rfl) ?_
  refine nr_ialdN hx hb hK hP 6 0 rfl rfl (i := k) (by omega) (by decide) d_RC_put_48 ?_
  refine lv_iload_n hx hb d_RC_put_49 rfl (lv_at hl 2 rfl) ?_
  refine nr_iadd hx hb d_RC_put_50 ?_
  refine nr_lshl1 hx hb d_RC_put_51 (by omega) ?_
  refine nr_lor hx hb d_RC_put_52 ?_
  refine va_put (D := D) (ci := 2) (v := .long (lN ((lz ur) ||| (2 ^ (((e8 ro) k) + v))))) (ty := .long) (C := R_RC) (T := F_RC) (N := 13) hx hb ho j_RC t_RC t_RC_ok n_RC hown hK hP hD hS 0 rfl rfl 11 (by decide) (ho _ kf_RC_88) (fun _ h9 => h9) rfl (by decide +kernel) rfl rfl (Nat.le_of_ble_eq_true rfl) d_RC_put_53 (fun H locs hP hD hS => ?_)
  have hP : va_P D classes [(a, .inr (2, [.int (nI n), .int (nI g), .int (nI sh), .int (nI al), .ref b1, .ref b2, .ref b3, .ref b4, .ref b5, .ref b6, .long (lN ((lz uc) ||| (2 ^ (((e8 co) k) + v)))), .long (lN ((lz ur) ||| (2 ^ (((e8 ro) k) + v)))), .int (nI fd)])), (b1, .inl (cI, 36, .inl (nA fx))), (b2, .inl (cI, 36, .inl (nA le))), (b3, .inl (cI, 36, .inl (nA (va_up tr k v)))), (b4, .inl (cI, 36, .inl (nA wi))), (b5, .inl (cI, 36, .inl (nA (e8 co)))), (b6, .inl (cI, 36, .inl (nA (e8 ro))))] H := hP
  have hD : va_D A [(a, .inr (2, [.int (nI n), .int (nI g), .int (nI sh), .int (nI al), .ref b1, .ref b2, .ref b3, .ref b4, .ref b5, .ref b6, .long (lN ((lz uc) ||| (2 ^ (((e8 co) k) + v)))), .long (lN ((lz ur) ||| (2 ^ (((e8 ro) k) + v)))), .int (nI fd)])), (b1, .inl (cI, 36, .inl (nA fx))), (b2, .inl (cI, 36, .inl (nA le))), (b3, .inl (cI, 36, .inl (nA (va_up tr k v)))), (b4, .inl (cI, 36, .inl (nA wi))), (b5, .inl (cI, 36, .inl (nA (e8 co)))), (b6, .inl (cI, 36, .inl (nA (e8 ro))))] := hD
  exact rt_v E hP hD hS (by rw [lz_put huc (hco k) hv, lz_put hur (hro k) hv]) d_RC_put_56
set_option maxHeartbeats 1000000 in
set_option maxRecDepth 100000 in
theorem c_RC_take (l : Launch) (D : va_G) (cI cL : ClassId) (a b1 b2 b3 b4 b5 b6 n g sh al fd : Nat) (fx le tr wi co ro uc ur : Nat → Nat) (k v : Nat) (hk : k < 36) (hv : v < 7) (hco : ∀ k, co k < 6) (hro : ∀ k, ro k < 6) (huc : ∀ k, uc k < 128) (hur : ∀ k, ur k < 128) : CV l y_RC_take (.code y_RC_take b_RC_take 3 none :: Om) { frames := 0, cells := 0, slots := 0, locals := 0 } D [(a, .inr (2, [.int (nI n), .int (nI g), .int (nI sh), .int (nI al), .ref b1, .ref b2, .ref b3, .ref b4, .ref b5, .ref b6, .long (lN (lz uc)), .long (lN (lz ur)), .int (nI fd)])), (b1, .inl (cI, 36, .inl (nA fx))), (b2, .inl (cI, 36, .inl (nA le))), (b3, .inl (cI, 36, .inl (nA tr))), (b4, .inl (cI, 36, .inl (nA wi))), (b5, .inl (cI, 36, .inl (nA (e8 co)))), (b6, .inl (cI, 36, .inl (nA (e8 ro))))] [(cI, .int), (cL, .long)] [.ref a, .int (nI k), .int (nI v)] (fun u => u = [(a, .inr (2, [.int (nI n), .int (nI g), .int (nI sh), .int (nI al), .ref b1, .ref b2, .ref b3, .ref b4, .ref b5, .ref b6, .long (lN (lz (rTake uc (co k) v))), .long (lN (lz (rTake ur (ro k) v))), .int (nI fd)])), (b1, .inl (cI, 36, .inl (nA fx))), (b2, .inl (cI, 36, .inl (nA le))), (b3, .inl (cI, 36, .inl (nA (va_up tr k 0)))), (b4, .inl (cI, 36, .inl (nA wi))), (b5, .inl (cI, 36, .inl (nA (e8 co)))), (b6, .inl (cI, 36, .inl (nA (e8 ro))))]) := by
  refine en_of (cc := b_RC_take) (Qc := qV D [(cI, .int), (cL, .long)] (fun u => u = [(a, .inr (2, [.int (nI n), .int (nI g), .int (nI sh), .int (nI al), .ref b1, .ref b2, .ref b3, .ref b4, .ref b5, .ref b6, .long (lN (lz (rTake uc (co k) v))), .long (lN (lz (rTake ur (ro k) v))), .int (nI fd)])), (b1, .inl (cI, 36, .inl (nA fx))), (b2, .inl (cI, 36, .inl (nA le))), (b3, .inl (cI, 36, .inl (nA (va_up tr k 0)))), (b4, .inl (cI, 36, .inl (nA wi))), (b5, .inl (cI, 36, .inl (nA (e8 co)))), (b6, .inl (cI, 36, .inl (nA (e8 ro))))])) (by decide) rfl (Nat.le_of_ble_eq_true rfl) ?_
  intro p e s m below meth c A E hnm hP hD hS ls hl
  have hl : lv_has ls 3 [(0, .ref a), (1, .int (nI k)), (2, .int (nI v))] := hl
  obtain ⟨hx, hb, hml, hown, hts, hr, hlk, hA, hK, hN⟩ := id E
  have ho : ∀ q ∈ Om, q.before _ s = true := fun q h => hts q (List.mem_cons_of_mem _ h)
  have hk1 := e8_le hco k
  have hk2 := e8_le hro k
  have hz1 := lz_lt huc
  have hz2 := lz_lt hur
  refine lv_iload_n hx hb d_RC_take_0 rfl (lv_at hl 1 rfl) ?_
  refine nr_if_lt (tgt := 10) hx hb d_RC_take_1 (by decide) (by omega) ?_
  refine lv_iload_n hx hb d_RC_take_4 rfl (lv_at hl 1 rfl) ?_
  refine lv_bipush (v := nI 36) hx hb d_RC_take_5 (by decide) ?_
  refine nr_icmp_lt (tgt := 11) hx hb d_RC_take_7 (by decide) (by omega) (by omega) (fun _ => ?_) (fun h9 => absurd h9 (by omega))
  refine lv_aload_n hx hb d_RC_take_11 rfl (lv_at hl 0 rfl) ?_
  refine va_get (D := D) (ci := 2) (v := .ref b3) (C := R_RC) (T := F_RC) (N := 13) hx hb ho j_RC hown hK hP 0 rfl rfl 6 (by decide) (ho _ kf_RC_18) (fun _ h9 => h9) rfl d_RC_take_12 ?_
  refine lv_iload_n hx hb d_RC_take_15 rfl (lv_at hl 1 rfl) ?_
  refine lv_iconst (v := nI 0) hx hb d_RC_take_16 (by decide) ?_
  refine nr_iast hx hb hK hP hD hS 3 0 rfl rfl (i := k) (x := 0) (by omega) (by decide) d_RC_take_17 (fun H locs hP hD hS => ?_)
  have hP : va_P D classes [(a, .inr (2, [.int (nI n), .int (nI g), .int (nI sh), .int (nI al), .ref b1, .ref b2, .ref b3, .ref b4, .ref b5, .ref b6, .long (lN (lz uc)), .long (lN (lz ur)), .int (nI fd)])), (b1, .inl (cI, 36, .inl (nA fx))), (b2, .inl (cI, 36, .inl (nA le))), (b3, .inl (cI, 36, .inl (nA (va_up tr k 0)))), (b4, .inl (cI, 36, .inl (nA wi))), (b5, .inl (cI, 36, .inl (nA (e8 co)))), (b6, .inl (cI, 36, .inl (nA (e8 ro))))] H := hP
  have hD : va_D A [(a, .inr (2, [.int (nI n), .int (nI g), .int (nI sh), .int (nI al), .ref b1, .ref b2, .ref b3, .ref b4, .ref b5, .ref b6, .long (lN (lz uc)), .long (lN (lz ur)), .int (nI fd)])), (b1, .inl (cI, 36, .inl (nA fx))), (b2, .inl (cI, 36, .inl (nA le))), (b3, .inl (cI, 36, .inl (nA (va_up tr k 0)))), (b4, .inl (cI, 36, .inl (nA wi))), (b5, .inl (cI, 36, .inl (nA (e8 co)))), (b6, .inl (cI, 36, .inl (nA (e8 ro))))] := hD
  refine lv_aload_n hx hb d_RC_take_18 rfl (lv_at hl 0 rfl) ?_
  refine lv_dup hx hb d_RC_take_19 rfl ?_
  refine va_get (D := D) (ci := 2) (v := .long (lN (lz uc))) (C := R_RC) (T := F_RC) (N := 13) hx hb ho j_RC hown hK hP 0 rfl rfl 10 (by decide) (ho _ kf_RC_84) (fun _ h9 => h9) rfl d_RC_take_20 ?_
  refine lv_lconst (v := lN 1) hx hb d_RC_take_23 rfl ?_
  refine lv_aload_n hx hb d_RC_take_24 rfl (lv_at hl 0 rfl) ?_
  refine va_get (D := D) (ci := 2) (v := .ref b5) (C := R_RC) (T := F_RC) (N := 13) hx hb ho j_RC hown hK hP 0 rfl rfl 8 (by decide) (ho _ kf_RC_24) (fun _ h9 => h9) rfl d_RC_take_25 ?_
  refine lv_iload_n hx hb d_RC_take_28 rfl (lv_at hl 1 rfl) ?_
  refine nr_ialdN hx hb hK hP 5 0 rfl rfl (i := k) (by omega) (by decide) d_RC_take_29 ?_
  refine lv_iload_n hx hb d_RC_take_30 rfl (lv_at hl 2 rfl) ?_
  refine nr_iadd hx hb d_RC_take_31 ?_
  refine nr_lshl1 hx hb d_RC_take_32 (by omega) ?_
  refine lv_ldc2 (v := lN 18446744073709551615) hx hb hown (ho _ kl_RC_118) d_RC_take_33 ?_
  refine nr_lxor hx hb d_RC_take_36 ?_
  refine nr_land hx hb d_RC_take_37 ?_
  refine va_put (D := D) (ci := 2) (v := .long (lN ((lz uc) &&& ((2 ^ (((e8 co) k) + v)) ^^^ 18446744073709551615)))) (ty := .long) (C := R_RC) (T := F_RC) (N := 13) hx hb ho j_RC t_RC t_RC_ok n_RC hown hK hP hD hS 0 rfl rfl 10 (by decide) (ho _ kf_RC_84) (fun _ h9 => h9) rfl (by decide +kernel) rfl rfl (Nat.le_of_ble_eq_true rfl) d_RC_take_38 (fun H locs hP hD hS => ?_)
  have hP : va_P D classes [(a, .inr (2, [.int (nI n), .int (nI g), .int (nI sh), .int (nI al), .ref b1, .ref b2, .ref b3, .ref b4, .ref b5, .ref b6, .long (lN ((lz uc) &&& ((2 ^ (((e8 co) k) + v)) ^^^ 18446744073709551615))), .long (lN (lz ur)), .int (nI fd)])), (b1, .inl (cI, 36, .inl (nA fx))), (b2, .inl (cI, 36, .inl (nA le))), (b3, .inl (cI, 36, .inl (nA (va_up tr k 0)))), (b4, .inl (cI, 36, .inl (nA wi))), (b5, .inl (cI, 36, .inl (nA (e8 co)))), (b6, .inl (cI, 36, .inl (nA (e8 ro))))] H := hP
  have hD : va_D A [(a, .inr (2, [.int (nI n), .int (nI g), .int (nI sh), .int (nI al), .ref b1, .ref b2, .ref b3, .ref b4, .ref b5, .ref b6, .long (lN ((lz uc) &&& ((2 ^ (((e8 co) k) + v)) ^^^ 18446744073709551615))), .long (lN (lz ur)), .int (nI fd)])), (b1, .inl (cI, 36, .inl (nA fx))), (b2, .inl (cI, 36, .inl (nA le))), (b3, .inl (cI, 36, .inl (nA (va_up tr k 0)))), (b4, .inl (cI, 36, .inl (nA wi))), (b5, .inl (cI, 36, .inl (nA (e8 co)))), (b6, .inl (cI, 36, .inl (nA (e8 ro))))] := hD
  refine lv_aload_n hx hb d_RC_take_41 rfl (lv_at hl 0 rfl) ?_
  refine lv_dup hx hb d_RC_take_42 rfl ?_
  refine va_get (D := D) (ci := 2) (v := .long (lN (lz ur))) (C := R_RC) (T := F_RC) (N := 13) hx hb ho j_RC hown hK hP 0 rfl rfl 11 (by decide) (ho _ kf_RC_88) (fun _ h9 => h9) rfl d_RC_take_43 ?_
  refine lv_lconst (v := lN 1) hx hb d_RC_take_46 rfl ?_
  refine lv_aload_n hx hb d_RC_take_47 rfl (lv_at hl 0 rfl) ?_
  refine va_get (D := D) (ci := 2) (v := .ref b6) (C := R_RC) (T := F_RC) (N := 13) hx hb ho j_RC hown hK hP 0 rfl rfl 9 (by decide) (ho _ kf_RC_27) (fun _ h9 => h9) rfl d_RC_take_48 ?_
  refine lv_iload_n hx hb d_RC_take_51 rfl (lv_at hl 1 rfl) ?_
  refine nr_ialdN hx hb hK hP 6 0 rfl rfl (i := k) (by omega) (by decide) d_RC_take_52 ?_
  refine lv_iload_n hx hb d_RC_take_53 rfl (lv_at hl 2 rfl) ?_
  refine nr_iadd hx hb d_RC_take_54 ?_
  refine nr_lshl1 hx hb d_RC_take_55 (by omega) ?_
  refine lv_ldc2 (v := lN 18446744073709551615) hx hb hown (ho _ kl_RC_118) d_RC_take_56 ?_
  refine nr_lxor hx hb d_RC_take_59 ?_
  refine nr_land hx hb d_RC_take_60 ?_
  refine va_put (D := D) (ci := 2) (v := .long (lN ((lz ur) &&& ((2 ^ (((e8 ro) k) + v)) ^^^ 18446744073709551615)))) (ty := .long) (C := R_RC) (T := F_RC) (N := 13) hx hb ho j_RC t_RC t_RC_ok n_RC hown hK hP hD hS 0 rfl rfl 11 (by decide) (ho _ kf_RC_88) (fun _ h9 => h9) rfl (by decide +kernel) rfl rfl (Nat.le_of_ble_eq_true rfl) d_RC_take_61 (fun H locs hP hD hS => ?_)
  have hP : va_P D classes [(a, .inr (2, [.int (nI n), .int (nI g), .int (nI sh), .int (nI al), .ref b1, .ref b2, .ref b3, .ref b4, .ref b5, .ref b6, .long (lN ((lz uc) &&& ((2 ^ (((e8 co) k) + v)) ^^^ 18446744073709551615))), .long (lN ((lz ur) &&& ((2 ^ (((e8 ro) k) + v)) ^^^ 18446744073709551615))), .int (nI fd)])), (b1, .inl (cI, 36, .inl (nA fx))), (b2, .inl (cI, 36, .inl (nA le))), (b3, .inl (cI, 36, .inl (nA (va_up tr k 0)))), (b4, .inl (cI, 36, .inl (nA wi))), (b5, .inl (cI, 36, .inl (nA (e8 co)))), (b6, .inl (cI, 36, .inl (nA (e8 ro))))] H := hP
  have hD : va_D A [(a, .inr (2, [.int (nI n), .int (nI g), .int (nI sh), .int (nI al), .ref b1, .ref b2, .ref b3, .ref b4, .ref b5, .ref b6, .long (lN ((lz uc) &&& ((2 ^ (((e8 co) k) + v)) ^^^ 18446744073709551615))), .long (lN ((lz ur) &&& ((2 ^ (((e8 ro) k) + v)) ^^^ 18446744073709551615))), .int (nI fd)])), (b1, .inl (cI, 36, .inl (nA fx))), (b2, .inl (cI, 36, .inl (nA le))), (b3, .inl (cI, 36, .inl (nA (va_up tr k 0)))), (b4, .inl (cI, 36, .inl (nA wi))), (b5, .inl (cI, 36, .inl (nA (e8 co)))), (b6, .inl (cI, 36, .inl (nA (e8 ro))))] := hD
  exact rt_v E hP hD hS (by rw [lz_take huc (hco k) hv, lz_take hur (hro k) hv]) d_RC_take_64
def rAl (g : Nat) (x : Int32) : Nat := if x < 0 ∨ nI g < x then 0 else 1
set_option maxHeartbeats 1000000 in
set_option maxRecDepth 100000 in
theorem c_RC_allows (l : Launch) (D : va_G) (cI cL : ClassId) (a b1 b2 b3 b4 b5 b6 n g sh al fd : Nat) (fx le tr wi co ro uc ur : Nat → Nat) (x : Int32) : CI l y_RC_allows (.code y_RC_allows b_RC_allows 2 (some .boolean) :: Om) { frames := 0, cells := 0, slots := 0, locals := 0 } D [(a, .inr (2, [.int (nI n), .int (nI g), .int (nI sh), .int (nI al), .ref b1, .ref b2, .ref b3, .ref b4, .ref b5, .ref b6, .long (lN (lz uc)), .long (lN (lz ur)), .int (nI fd)])), (b1, .inl (cI, 36, .inl (nA fx))), (b2, .inl (cI, 36, .inl (nA le))), (b3, .inl (cI, 36, .inl (nA tr))), (b4, .inl (cI, 36, .inl (nA wi))), (b5, .inl (cI, 36, .inl (nA (e8 co)))), (b6, .inl (cI, 36, .inl (nA (e8 ro))))] [(cI, .int), (cL, .long)] [.ref a, .int x] (fun r u => r = nI (rAl g x) ∧ u = [(a, .inr (2, [.int (nI n), .int (nI g), .int (nI sh), .int (nI al), .ref b1, .ref b2, .ref b3, .ref b4, .ref b5, .ref b6, .long (lN (lz uc)), .long (lN (lz ur)), .int (nI fd)])), (b1, .inl (cI, 36, .inl (nA fx))), (b2, .inl (cI, 36, .inl (nA le))), (b3, .inl (cI, 36, .inl (nA tr))), (b4, .inl (cI, 36, .inl (nA wi))), (b5, .inl (cI, 36, .inl (nA (e8 co)))), (b6, .inl (cI, 36, .inl (nA (e8 ro))))]) := by
  refine en_of (cc := b_RC_allows) (Qc := qI D [(cI, .int), (cL, .long)] (fun r u => r = nI (rAl g x) ∧ u = [(a, .inr (2, [.int (nI n), .int (nI g), .int (nI sh), .int (nI al), .ref b1, .ref b2, .ref b3, .ref b4, .ref b5, .ref b6, .long (lN (lz uc)), .long (lN (lz ur)), .int (nI fd)])), (b1, .inl (cI, 36, .inl (nA fx))), (b2, .inl (cI, 36, .inl (nA le))), (b3, .inl (cI, 36, .inl (nA tr))), (b4, .inl (cI, 36, .inl (nA wi))), (b5, .inl (cI, 36, .inl (nA (e8 co)))), (b6, .inl (cI, 36, .inl (nA (e8 ro))))])) (by decide) rfl (Nat.le_of_ble_eq_true rfl) ?_
  intro p e s m below meth c A E hnm hP hD hS ls hl
  have hl : lv_has ls 2 [(0, .ref a), (1, .int x)] := hl
  obtain ⟨hx, hb, hml, hown, hts, hr, hlk, hA, hK, hN⟩ := id E
  have ho : ∀ q ∈ Om, q.before _ s = true := fun q h => hts q (List.mem_cons_of_mem _ h)
  refine lv_iload_n hx hb d_RC_allows_0 rfl (lv_at hl 1 rfl) ?_
  refine lv_if_lt (tgt := 16) hx hb d_RC_allows_1 (by decide) (fun h_1 => ?_) (fun h_1 => ?_)
  · refine lv_iconst (v := nI 0) hx hb d_RC_allows_16 (by decide) ?_
    exact rt_z E hP hD hS (by decide) ⟨by unfold rAl; simp [h_1], rfl⟩ d_RC_allows_17
  · refine lv_iload_n hx hb d_RC_allows_4 rfl (lv_at hl 1 rfl) ?_
    refine lv_aload_n hx hb d_RC_allows_5 rfl (lv_at hl 0 rfl) ?_
    refine va_get (D := D) (ci := 2) (v := .int (nI g)) (C := R_RC) (T := F_RC) (N := 13) hx hb ho j_RC hown hK hP 0 rfl rfl 1 (by decide) (ho _ kf_RC_43) (fun _ h9 => h9) rfl d_RC_allows_6 ?_
    refine lv_icmp_gt (tgt := 16) hx hb d_RC_allows_9 (by decide) (fun h_2 => ?_) (fun h_2 => ?_)
    · refine lv_iconst (v := nI 0) hx hb d_RC_allows_16 (by decide) ?_
      exact rt_z E hP hD hS (by decide) ⟨by unfold rAl; simp [h_1, h_2], rfl⟩ d_RC_allows_17
    · refine lv_iconst (v := nI 1) hx hb d_RC_allows_12 (by decide) ?_
      refine lv_goto (tgt := 17) hx hb d_RC_allows_13 (by decide) ?_
      exact rt_z E hP hD hS (by decide) ⟨by unfold rAl; simp [h_1, h_2], rfl⟩ d_RC_allows_17
set_option maxHeartbeats 1000000 in
set_option maxRecDepth 100000 in
theorem c_RC_give (l : Launch) (D : va_G) (cI cL : ClassId) (a b1 b2 b3 b4 b5 b6 n g sh al fd : Nat) (fx le tr wi co ro uc ur : Nat → Nat) (k v : Nat) (hk : k < 36) : CV l y_RC_give (.code y_RC_give b_RC_give 3 none :: Om) { frames := 0, cells := 0, slots := 0, locals := 0 } D [(a, .inr (2, [.int (nI n), .int (nI g), .int (nI sh), .int (nI al), .ref b1, .ref b2, .ref b3, .ref b4, .ref b5, .ref b6, .long (lN (lz uc)), .long (lN (lz ur)), .int (nI fd)])), (b1, .inl (cI, 36, .inl (nA fx))), (b2, .inl (cI, 36, .inl (nA le))), (b3, .inl (cI, 36, .inl (nA tr))), (b4, .inl (cI, 36, .inl (nA wi))), (b5, .inl (cI, 36, .inl (nA (e8 co)))), (b6, .inl (cI, 36, .inl (nA (e8 ro))))] [(cI, .int), (cL, .long)] [.ref a, .int (nI k), .int (nI v)] (fun u => u = [(a, .inr (2, [.int (nI n), .int (nI g), .int (nI sh), .int (nI al), .ref b1, .ref b2, .ref b3, .ref b4, .ref b5, .ref b6, .long (lN (lz uc)), .long (lN (lz ur)), .int (nI 0)])), (b1, .inl (cI, 36, .inl (nA (va_up fx k v)))), (b2, .inl (cI, 36, .inl (nA le))), (b3, .inl (cI, 36, .inl (nA tr))), (b4, .inl (cI, 36, .inl (nA wi))), (b5, .inl (cI, 36, .inl (nA (e8 co)))), (b6, .inl (cI, 36, .inl (nA (e8 ro))))]) := by
  refine en_of (cc := b_RC_give) (Qc := qV D [(cI, .int), (cL, .long)] (fun u => u = [(a, .inr (2, [.int (nI n), .int (nI g), .int (nI sh), .int (nI al), .ref b1, .ref b2, .ref b3, .ref b4, .ref b5, .ref b6, .long (lN (lz uc)), .long (lN (lz ur)), .int (nI 0)])), (b1, .inl (cI, 36, .inl (nA (va_up fx k v)))), (b2, .inl (cI, 36, .inl (nA le))), (b3, .inl (cI, 36, .inl (nA tr))), (b4, .inl (cI, 36, .inl (nA wi))), (b5, .inl (cI, 36, .inl (nA (e8 co)))), (b6, .inl (cI, 36, .inl (nA (e8 ro))))])) (by decide) rfl (Nat.le_of_ble_eq_true rfl) ?_
  intro p e s m below meth c A E hnm hP hD hS ls hl
  have hl : lv_has ls 3 [(0, .ref a), (1, .int (nI k)), (2, .int (nI v))] := hl
  obtain ⟨hx, hb, hml, hown, hts, hr, hlk, hA, hK, hN⟩ := id E
  have ho : ∀ q ∈ Om, q.before _ s = true := fun q h => hts q (List.mem_cons_of_mem _ h)
  refine lv_iload_n hx hb d_RC_give_0 rfl (lv_at hl 1 rfl) ?_
  refine nr_if_lt (tgt := 22) hx hb d_RC_give_1 (by decide) (by omega) ?_
  refine lv_iload_n hx hb d_RC_give_4 rfl (lv_at hl 1 rfl) ?_
  refine lv_bipush (v := nI 36) hx hb d_RC_give_5 (by decide) ?_
  refine nr_icmp_ge (tgt := 22) hx hb d_RC_give_7 (by decide) (by omega) (by omega) (fun h9 => absurd h9 (by omega)) (fun _ => ?_)
  refine lv_aload_n hx hb d_RC_give_10 rfl (lv_at hl 0 rfl) ?_
  refine va_get (D := D) (ci := 2) (v := .ref b1) (C := R_RC) (T := F_RC) (N := 13) hx hb ho j_RC hown hK hP 0 rfl rfl 4 (by decide) (ho _ kf_RC_9) (fun _ h9 => h9) rfl d_RC_give_11 ?_
  refine lv_iload_n hx hb d_RC_give_14 rfl (lv_at hl 1 rfl) ?_
  refine lv_iload_n hx hb d_RC_give_15 rfl (lv_at hl 2 rfl) ?_
  refine nr_iast hx hb hK hP hD hS 1 0 rfl rfl (i := k) (x := v) (by omega) (by decide) d_RC_give_16 (fun H locs hP hD hS => ?_)
  have hP : va_P D classes [(a, .inr (2, [.int (nI n), .int (nI g), .int (nI sh), .int (nI al), .ref b1, .ref b2, .ref b3, .ref b4, .ref b5, .ref b6, .long (lN (lz uc)), .long (lN (lz ur)), .int (nI fd)])), (b1, .inl (cI, 36, .inl (nA (va_up fx k v)))), (b2, .inl (cI, 36, .inl (nA le))), (b3, .inl (cI, 36, .inl (nA tr))), (b4, .inl (cI, 36, .inl (nA wi))), (b5, .inl (cI, 36, .inl (nA (e8 co)))), (b6, .inl (cI, 36, .inl (nA (e8 ro))))] H := hP
  have hD : va_D A [(a, .inr (2, [.int (nI n), .int (nI g), .int (nI sh), .int (nI al), .ref b1, .ref b2, .ref b3, .ref b4, .ref b5, .ref b6, .long (lN (lz uc)), .long (lN (lz ur)), .int (nI fd)])), (b1, .inl (cI, 36, .inl (nA (va_up fx k v)))), (b2, .inl (cI, 36, .inl (nA le))), (b3, .inl (cI, 36, .inl (nA tr))), (b4, .inl (cI, 36, .inl (nA wi))), (b5, .inl (cI, 36, .inl (nA (e8 co)))), (b6, .inl (cI, 36, .inl (nA (e8 ro))))] := hD
  refine lv_aload_n hx hb d_RC_give_17 rfl (lv_at hl 0 rfl) ?_
  refine lv_iconst (v := nI 0) hx hb d_RC_give_18 (by decide) ?_
  refine va_put (D := D) (ci := 2) (v := .int (nI 0)) (ty := .boolean) (C := R_RC) (T := F_RC) (N := 13) hx hb ho j_RC t_RC t_RC_ok n_RC hown hK hP hD hS 0 rfl rfl 12 (by decide) (ho _ kf_RC_52) (fun _ h9 => h9) rfl (by decide +kernel) (by first | rfl | decide | assumption) (by first | rfl | decide | assumption) (Nat.le_of_ble_eq_true rfl) d_RC_give_19 (fun H locs hP hD hS => ?_)
  have hP : va_P D classes [(a, .inr (2, [.int (nI n), .int (nI g), .int (nI sh), .int (nI al), .ref b1, .ref b2, .ref b3, .ref b4, .ref b5, .ref b6, .long (lN (lz uc)), .long (lN (lz ur)), .int (nI 0)])), (b1, .inl (cI, 36, .inl (nA (va_up fx k v)))), (b2, .inl (cI, 36, .inl (nA le))), (b3, .inl (cI, 36, .inl (nA tr))), (b4, .inl (cI, 36, .inl (nA wi))), (b5, .inl (cI, 36, .inl (nA (e8 co)))), (b6, .inl (cI, 36, .inl (nA (e8 ro))))] H := hP
  have hD : va_D A [(a, .inr (2, [.int (nI n), .int (nI g), .int (nI sh), .int (nI al), .ref b1, .ref b2, .ref b3, .ref b4, .ref b5, .ref b6, .long (lN (lz uc)), .long (lN (lz ur)), .int (nI 0)])), (b1, .inl (cI, 36, .inl (nA (va_up fx k v)))), (b2, .inl (cI, 36, .inl (nA le))), (b3, .inl (cI, 36, .inl (nA tr))), (b4, .inl (cI, 36, .inl (nA wi))), (b5, .inl (cI, 36, .inl (nA (e8 co)))), (b6, .inl (cI, 36, .inl (nA (e8 ro))))] := hD
  exact rt_v E hP hD hS rfl d_RC_give_22
set_option maxHeartbeats 1000000 in
set_option maxRecDepth 100000 in
theorem c_RC_foundAt (l : Launch) (D : va_G) (cI cL : ClassId) (a b1 b2 b3 b4 b5 b6 n g sh al fd : Nat) (fx le tr wi co ro uc ur : Nat → Nat) (k : Nat) (hk : k < 36) (hfd : fd ≤ 1) : CI l y_RC_foundAt (.code y_RC_foundAt b_RC_foundAt 2 (some .int) :: Om) { frames := 0, cells := 0, slots := 0, locals := 0 } D [(a, .inr (2, [.int (nI n), .int (nI g), .int (nI sh), .int (nI al), .ref b1, .ref b2, .ref b3, .ref b4, .ref b5, .ref b6, .long (lN (lz uc)), .long (lN (lz ur)), .int (nI fd)])), (b1, .inl (cI, 36, .inl (nA fx))), (b2, .inl (cI, 36, .inl (nA le))), (b3, .inl (cI, 36, .inl (nA tr))), (b4, .inl (cI, 36, .inl (nA wi))), (b5, .inl (cI, 36, .inl (nA (e8 co)))), (b6, .inl (cI, 36, .inl (nA (e8 ro))))] [(cI, .int), (cL, .long)] [.ref a, .int (nI k)] (fun r u => r = nI (if fd = 0 then 0 else le k) ∧ u = [(a, .inr (2, [.int (nI n), .int (nI g), .int (nI sh), .int (nI al), .ref b1, .ref b2, .ref b3, .ref b4, .ref b5, .ref b6, .long (lN (lz uc)), .long (lN (lz ur)), .int (nI fd)])), (b1, .inl (cI, 36, .inl (nA fx))), (b2, .inl (cI, 36, .inl (nA le))), (b3, .inl (cI, 36, .inl (nA tr))), (b4, .inl (cI, 36, .inl (nA wi))), (b5, .inl (cI, 36, .inl (nA (e8 co)))), (b6, .inl (cI, 36, .inl (nA (e8 ro))))]) := by
  refine en_of (cc := b_RC_foundAt) (Qc := qI D [(cI, .int), (cL, .long)] (fun r u => r = nI (if fd = 0 then 0 else le k) ∧ u = [(a, .inr (2, [.int (nI n), .int (nI g), .int (nI sh), .int (nI al), .ref b1, .ref b2, .ref b3, .ref b4, .ref b5, .ref b6, .long (lN (lz uc)), .long (lN (lz ur)), .int (nI fd)])), (b1, .inl (cI, 36, .inl (nA fx))), (b2, .inl (cI, 36, .inl (nA le))), (b3, .inl (cI, 36, .inl (nA tr))), (b4, .inl (cI, 36, .inl (nA wi))), (b5, .inl (cI, 36, .inl (nA (e8 co)))), (b6, .inl (cI, 36, .inl (nA (e8 ro))))])) (by decide) rfl (Nat.le_of_ble_eq_true rfl) ?_
  intro p e s m below meth c A E hnm hP hD hS ls hl
  have hl : lv_has ls 2 [(0, .ref a), (1, .int (nI k))] := hl
  obtain ⟨hx, hb, hml, hown, hts, hr, hlk, hA, hK, hN⟩ := id E
  have ho : ∀ q ∈ Om, q.before _ s = true := fun q h => hts q (List.mem_cons_of_mem _ h)
  refine lv_aload_n hx hb d_RC_foundAt_0 rfl (lv_at hl 0 rfl) ?_
  refine va_get (D := D) (ci := 2) (v := .int (nI fd)) (C := R_RC) (T := F_RC) (N := 13) hx hb ho j_RC hown hK hP 0 rfl rfl 12 (by decide) (ho _ kf_RC_52) (fun _ h9 => h9) rfl d_RC_foundAt_1 ?_
  refine nr_if_eq (tgt := 26) hx hb d_RC_foundAt_4 (by decide) (by omega) (fun h_1 => ?_) (fun h_1 => ?_)
  · refine lv_iconst (v := nI 0) hx hb d_RC_foundAt_26 (by decide) ?_
    exact rt_i E hP hD hS ⟨by first | rw [if_pos (by omega)] | rw [if_neg (by omega)], rfl⟩ d_RC_foundAt_27
  · refine lv_iload_n hx hb d_RC_foundAt_7 rfl (lv_at hl 1 rfl) ?_
    refine nr_if_lt (tgt := 26) hx hb d_RC_foundAt_8 (by decide) (by omega) ?_
    refine lv_iload_n hx hb d_RC_foundAt_11 rfl (lv_at hl 1 rfl) ?_
    refine lv_bipush (v := nI 36) hx hb d_RC_foundAt_12 (by decide) ?_
    refine nr_icmp_ge (tgt := 26) hx hb d_RC_foundAt_14 (by decide) (by omega) (by omega) (fun h9 => absurd h9 (by omega)) (fun _ => ?_)
    refine lv_aload_n hx hb d_RC_foundAt_17 rfl (lv_at hl 0 rfl) ?_
    refine va_get (D := D) (ci := 2) (v := .ref b2) (C := R_RC) (T := F_RC) (N := 13) hx hb ho j_RC hown hK hP 0 rfl rfl 5 (by decide) (ho _ kf_RC_15) (fun _ h9 => h9) rfl d_RC_foundAt_18 ?_
    refine lv_iload_n hx hb d_RC_foundAt_21 rfl (lv_at hl 1 rfl) ?_
    refine nr_ialdN hx hb hK hP 2 0 rfl rfl (i := k) (by omega) (by decide) d_RC_foundAt_22 ?_
    refine lv_goto (tgt := 27) hx hb d_RC_foundAt_23 (by decide) ?_
    exact rt_i E hP hD hS ⟨by first | rw [if_pos (by omega)] | rw [if_neg (by omega)], rfl⟩ d_RC_foundAt_27
set_option maxHeartbeats 1000000 in
set_option maxRecDepth 100000 in
theorem c_RC_linesWith (l : Launch) (D : va_G) (cI cL : ClassId) (v : Nat) (f : Nat → Nat) (hv : v < 7) (hf : ∀ k, f k < 128) : CI l y_RC_linesWith (.code y_RC_linesWith b_RC_linesWith 3 (some .int) :: Om) { frames := 1, cells := 0, slots := 0, locals := 21 } D [] [(cI, .int), (cL, .long)] [.long (lN (lz f)), .int (nI v)] (fun r u => r = nI (rLw f v 7 0 0) ∧ u = []) := by
  refine en_of (cc := b_RC_linesWith) (Qc := qI D [(cI, .int), (cL, .long)] (fun r u => r = nI (rLw f v 7 0 0) ∧ u = [])) (by decide) rfl (Nat.le_of_ble_eq_true rfl) ?_
  intro p e s m below meth c A E hnm hP hD hS ls hl
  have hl : lv_has ls 3 [(0, .long (lN (lz f))), (2, .int (nI v))] := hl
  obtain ⟨hx, hb, hml, hown, hts, hr, hlk, hA, hK, hN⟩ := id E
  have ho : ∀ q ∈ Om, q.before _ s = true := fun q h => hts q (List.mem_cons_of_mem _ h)
  have hz1 := lz_lt hf
  have hz2 : lz f / 2 ^ v &&& 1103823438081 ≤ 1103823438081 := Nat.and_le_right
  refine lv_lload_n hx hb d_RC_linesWith_0 rfl (lv_at hl 0 rfl) ?_
  refine lv_iload_n hx hb d_RC_linesWith_1 rfl (lv_at hl 1 rfl) ?_
  refine nr_lushr hx hb d_RC_linesWith_2 (by omega) (by omega) ?_
  refine lv_ldc2 (v := lN 1103823438081) hx hb hown (ho _ kl_RC_111) d_RC_linesWith_3 ?_
  refine nr_land hx hb d_RC_linesWith_6 ?_
  refine af_i (wc := []) (wr := []) (rest := []) [] [] hP hD hS hA rfl rfl (by decide) (by decide) (rn_S E (As := [.long (lN (((lz f) / 2 ^ v) &&& 1103823438081))]) m_LG_bitCount km_RC_113 (c_LG_bitCount l D cI cL (((lz f) / 2 ^ v) &&& 1103823438081) (by omega) _) ⟨rfl, rfl, Nat.le_of_ble_eq_true rfl, Nat.le_of_ble_eq_true rfl⟩ (hP.sub [] rfl) (hD.sub [] (by decide) rfl) rfl hl.1 rfl (Nat.le_of_ble_eq_true rfl) ⟨Nat.le_of_ble_eq_true rfl, Nat.le_of_ble_eq_true rfl⟩ d_RC_linesWith_7) (fun r_2 u_1 H locs hw hP hD hS => ?_)
  obtain ⟨rfl, rfl⟩ := hw
  have hP : va_P D classes [] H := hP
  have hD : va_D A [] := hD
  exact rt_i E hP hD hS ⟨by rw [lz_lw hf hv], rfl⟩ d_RC_linesWith_10
