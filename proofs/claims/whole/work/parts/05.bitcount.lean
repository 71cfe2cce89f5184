set_option maxHeartbeats 1000000 in
set_option maxRecDepth 100000 in
theorem c_LG_bitCount (l : Launch) (D : va_G) (cI cL : ClassId) (n : Nat) (hn : n < 2 ^ 64) : CI l y_LG_bitCount (.code y_LG_bitCount b_LG_bitCount 2 (some .int) :: Om) { frames := 0, cells := 0, slots := 0, locals := 0 } D [] [(cI, .int), (cL, .long)] [.long (lN n)] (fun r u => r = nI (pop 64 n) ∧ u = []) := by
  refine en_of (cc := b_LG_bitCount) (Qc := qI D [(cI, .int), (cL, .long)] (fun r u => r = nI (pop 64 n) ∧ u = [])) (by decide) rfl (Nat.le_of_ble_eq_true rfl) ?_
  intro p e s m below meth c A E hnm hP hD hS ls hl
  have hl : lv_has ls 2 [(0, .long (lN n))] := hl
  obtain ⟨hx, hb, hml, hown, hts, hr, hlk, hA, hK, hN⟩ := id E
  have ho : ∀ q ∈ Om, q.before _ s = true := fun q h => hts q (List.mem_cons_of_mem _ h)
  have f0 : n / 2 ^ 1 &&& 6148914691236517205 ≤ n := Nat.le_trans Nat.and_le_left (Nat.div_le_self _ _)
  have f1 := p_b1 hn
  have f2 := p_b2 (p1 n)
  have f3 := p_b3 (p2 (p1 n))
  have f4 := p_b4 f3
  have f5 := p_b5 f4
  refine lv_lload_n hx hb d_LG_bitCount_0 rfl (lv_at hl 0 rfl) ?_
  refine lv_lload_n hx hb d_LG_bitCount_1 rfl (lv_at hl 0 rfl) ?_
  refine lv_iconst (v := nI 1) hx hb d_LG_bitCount_2 (by decide) ?_
  refine nr_lushr hx hb d_LG_bitCount_3 (by omega) (by omega) ?_
  refine lv_ldc2 (v := lN 6148914691236517205) hx hb hown (ho _ kl_LG_314) d_LG_bitCount_4 ?_
  refine nr_land hx hb d_LG_bitCount_7 ?_
  refine nr_lsub hx hb d_LG_bitCount_8 (by omega) ?_
  refine lv_lstore_n (lv' := [(0, .long (lN (p1 n)))]) hx hb d_LG_bitCount_9 rfl hl (by decide) rfl (fun ls hl => ?_)
  refine lv_lload_n hx hb d_LG_bitCount_10 rfl (lv_at hl 0 rfl) ?_
  refine lv_ldc2 (v := lN 3689348814741910323) hx hb hown (ho _ kl_LG_316) d_LG_bitCount_11 ?_
  refine nr_land hx hb d_LG_bitCount_14 ?_
  refine lv_lload_n hx hb d_LG_bitCount_15 rfl (lv_at hl 0 rfl) ?_
  refine lv_iconst (v := nI 2) hx hb d_LG_bitCount_16 (by decide) ?_
  refine nr_lushr hx hb d_LG_bitCount_17 (by omega) (by omega) ?_
  refine lv_ldc2 (v := lN 3689348814741910323) hx hb hown (ho _ kl_LG_316) d_LG_bitCount_18 ?_
  refine nr_land hx hb d_LG_bitCount_21 ?_
  refine nr_ladd hx hb d_LG_bitCount_22 ?_
  refine lv_lstore_n (lv' := [(0, .long (lN (p2 (p1 n))))]) hx hb d_LG_bitCount_23 rfl hl (by decide) rfl (fun ls hl => ?_)
  refine lv_lload_n hx hb d_LG_bitCount_24 rfl (lv_at hl 0 rfl) ?_
  refine lv_lload_n hx hb d_LG_bitCount_25 rfl (lv_at hl 0 rfl) ?_
  refine lv_iconst (v := nI 4) hx hb d_LG_bitCount_26 (by decide) ?_
  refine nr_lushr hx hb d_LG_bitCount_27 (by omega) (by omega) ?_
  refine nr_ladd hx hb d_LG_bitCount_28 ?_
  refine lv_ldc2 (v := lN 1085102592571150095) hx hb hown (ho _ kl_LG_318) d_LG_bitCount_29 ?_
  refine nr_land hx hb d_LG_bitCount_32 ?_
  refine lv_lstore_n (lv' := [(0, .long (lN (p3 (p2 (p1 n)))))]) hx hb d_LG_bitCount_33 rfl hl (by decide) rfl (fun ls hl => ?_)
  refine lv_lload_n hx hb d_LG_bitCount_34 rfl (lv_at hl 0 rfl) ?_
  refine lv_lload_n hx hb d_LG_bitCount_35 rfl (lv_at hl 0 rfl) ?_
  refine lv_bipush (v := nI 8) hx hb d_LG_bitCount_36 (by decide) ?_
  refine nr_lushr hx hb d_LG_bitCount_38 (by omega) (by omega) ?_
  refine nr_ladd hx hb d_LG_bitCount_39 ?_
  refine lv_lstore_n (lv' := [(0, .long (lN (p4 (p3 (p2 (p1 n))))))]) hx hb d_LG_bitCount_40 rfl hl (by decide) rfl (fun ls hl => ?_)
  refine lv_lload_n hx hb d_LG_bitCount_41 rfl (lv_at hl 0 rfl) ?_
  refine lv_lload_n hx hb d_LG_bitCount_42 rfl (lv_at hl 0 rfl) ?_
  refine lv_bipush (v := nI 16) hx hb d_LG_bitCount_43 (by decide) ?_
  refine nr_lushr hx hb d_LG_bitCount_45 (by omega) (by omega) ?_
  refine nr_ladd hx hb d_LG_bitCount_46 ?_
  refine lv_lstore_n (lv' := [(0, .long (lN (p5 (p4 (p3 (p2 (p1 n)))))))]) hx hb d_LG_bitCount_47 rfl hl (by decide) rfl (fun ls hl => ?_)
  refine lv_lload_n hx hb d_LG_bitCount_48 rfl (lv_at hl 0 rfl) ?_
  refine lv_lload_n hx hb d_LG_bitCount_49 rfl (lv_at hl 0 rfl) ?_
  refine lv_bipush (v := nI 32) hx hb d_LG_bitCount_50 (by decide) ?_
  refine nr_lushr hx hb d_LG_bitCount_52 (by omega) (by omega) ?_
  refine nr_ladd hx hb d_LG_bitCount_53 ?_
  refine lv_lstore_n (lv' := [(0, .long (lN (p6 (p5 (p4 (p3 (p2 (p1 n))))))))]) hx hb d_LG_bitCount_54 rfl hl (by decide) rfl (fun ls hl => ?_)
  refine lv_lload_n hx hb d_LG_bitCount_55 rfl (lv_at hl 0 rfl) ?_
  refine nr_l2i hx hb d_LG_bitCount_56 ?_
  refine lv_bipush (v := nI 127) hx hb d_LG_bitCount_57 (by decide) ?_
  refine nr_iand hx hb d_LG_bitCount_59 ?_
  exact rt_i E hP hD hS ⟨by rw [p_ok n hn], rfl⟩ d_LG_bitCount_60
set_option maxHeartbeats 1000000 in
set_option maxRecDepth 100000 in
theorem c_IN_bitCount (l : Launch) (D : va_G) (cI cL : ClassId) (n : Nat) (hn : n < 2 ^ 32) : CI l y_IN_bitCount (.code y_IN_bitCount b_IN_bitCount 1 (some .int) :: Om) { frames := 0, cells := 0, slots := 0, locals := 0 } D [] [(cI, .int), (cL, .long)] [.int (nI n)] (fun r u => r = nI (pop 32 n) ∧ u = []) := by
  refine en_of (cc := b_IN_bitCount) (Qc := qI D [(cI, .int), (cL, .long)] (fun r u => r = nI (pop 32 n) ∧ u = [])) (by decide) rfl (Nat.le_of_ble_eq_true rfl) ?_
  intro p e s m below meth c A E hnm hP hD hS ls hl
  have hl : lv_has ls 1 [(0, .int (nI n))] := hl
  obtain ⟨hx, hb, hml, hown, hts, hr, hlk, hA, hK, hN⟩ := id E
  have ho : ∀ q ∈ Om, q.before _ s = true := fun q h => hts q (List.mem_cons_of_mem _ h)
  have f0 : n / 2 ^ 1 &&& 1431655765 ≤ n := Nat.le_trans Nat.and_le_left (Nat.div_le_self _ _)
  have f1 := q_b1 hn
  have f2 := q_b2 (q1 n)
  have f3 := q_b3 (q2 (q1 n))
  have f4 := q_b4 f3
  refine lv_iload_n hx hb d_IN_bitCount_0 rfl (lv_at hl 0 rfl) ?_
  refine lv_iload_n hx hb d_IN_bitCount_1 rfl (lv_at hl 0 rfl) ?_
  refine lv_iconst (v := nI 1) hx hb d_IN_bitCount_2 (by decide) ?_
  refine nr_iushr hx hb d_IN_bitCount_3 (by omega) (by omega) ?_
  refine lv_ldcw (v := nI 1431655765) hx hb hown (ho _ ki_IN_265) d_IN_bitCount_4 ?_
  refine nr_iand hx hb d_IN_bitCount_7 ?_
  refine nr_isub hx hb d_IN_bitCount_8 (by omega) ?_
  refine lv_istore_n (lv' := [(0, .int (nI (q1 n)))]) hx hb d_IN_bitCount_9 rfl hl (by decide) rfl (fun ls hl => ?_)
  refine lv_iload_n hx hb d_IN_bitCount_10 rfl (lv_at hl 0 rfl) ?_
  refine lv_ldcw (v := nI 858993459) hx hb hown (ho _ ki_IN_266) d_IN_bitCount_11 ?_
  refine nr_iand hx hb d_IN_bitCount_14 ?_
  refine lv_iload_n hx hb d_IN_bitCount_15 rfl (lv_at hl 0 rfl) ?_
  refine lv_iconst (v := nI 2) hx hb d_IN_bitCount_16 (by decide) ?_
  refine nr_iushr hx hb d_IN_bitCount_17 (by omega) (by omega) ?_
  refine lv_ldcw (v := nI 858993459) hx hb hown (ho _ ki_IN_266) d_IN_bitCount_18 ?_
  refine nr_iand hx hb d_IN_bitCount_21 ?_
  refine nr_iadd hx hb d_IN_bitCount_22 ?_
  refine lv_istore_n (lv' := [(0, .int (nI (q2 (q1 n))))]) hx hb d_IN_bitCount_23 rfl hl (by decide) rfl (fun ls hl => ?_)
  refine lv_iload_n hx hb d_IN_bitCount_24 rfl (lv_at hl 0 rfl) ?_
  refine lv_iload_n hx hb d_IN_bitCount_25 rfl (lv_at hl 0 rfl) ?_
  refine lv_iconst (v := nI 4) hx hb d_IN_bitCount_26 (by decide) ?_
  refine nr_iushr hx hb d_IN_bitCount_27 (by omega) (by omega) ?_
  refine nr_iadd hx hb d_IN_bitCount_28 ?_
  refine lv_ldcw (v := nI 252645135) hx hb hown (ho _ ki_IN_267) d_IN_bitCount_29 ?_
  refine nr_iand hx hb d_IN_bitCount_32 ?_
  refine lv_istore_n (lv' := [(0, .int (nI (q3 (q2 (q1 n)))))]) hx hb d_IN_bitCount_33 rfl hl (by decide) rfl (fun ls hl => ?_)
  refine lv_iload_n hx hb d_IN_bitCount_34 rfl (lv_at hl 0 rfl) ?_
  refine lv_iload_n hx hb d_IN_bitCount_35 rfl (lv_at hl 0 rfl) ?_
  refine lv_bipush (v := nI 8) hx hb d_IN_bitCount_36 (by decide) ?_
  refine nr_iushr hx hb d_IN_bitCount_38 (by omega) (by omega) ?_
  refine nr_iadd hx hb d_IN_bitCount_39 ?_
  refine lv_istore_n (lv' := [(0, .int (nI (q4 (q3 (q2 (q1 n))))))]) hx hb d_IN_bitCount_40 rfl hl (by decide) rfl (fun ls hl => ?_)
  refine lv_iload_n hx hb d_IN_bitCount_41 rfl (lv_at hl 0 rfl) ?_
  refine lv_iload_n hx hb d_IN_bitCount_42 rfl (lv_at hl 0 rfl) ?_
  refine lv_bipush (v := nI 16) hx hb d_IN_bitCount_43 (by decide) ?_
  refine nr_iushr hx hb d_IN_bitCount_45 (by omega) (by omega) ?_
  refine nr_iadd hx hb d_IN_bitCount_46 ?_
  refine lv_istore_n (lv' := [(0, .int (nI (q5 (q4 (q3 (q2 (q1 n)))))))]) hx hb d_IN_bitCount_47 rfl hl (by decide) rfl (fun ls hl => ?_)
  refine lv_iload_n hx hb d_IN_bitCount_48 rfl (lv_at hl 0 rfl) ?_
  refine lv_bipush (v := nI 63) hx hb d_IN_bitCount_49 (by decide) ?_
  refine nr_iand hx hb d_IN_bitCount_51 ?_
  exact rt_i E hP hD hS ⟨by rw [q_ok n hn], rfl⟩ d_IN_bitCount_52
