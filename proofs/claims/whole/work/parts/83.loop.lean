/-! the law's loop -/
theorem tour_cases (x y : Int32) : ((iP x = 0 ∨ y < 0 ∨ ¬ y ≤ nI 100000) ∧ (x < 0 ∨ ¬ x ≤ nI 2 ∨ y < 0 ∨ ¬ y ≤ nI 100000)) ∨ ∃ p0 most : Nat, p0 < 3 ∧ most ≤ 100000 ∧ x = nI p0 ∧ y = nI most := by
  rcases pk_ix x (n := 3) (by decide) with q | q | ⟨p0, hp, e1⟩
  · exact Or.inl ⟨Or.inl (if_pos (Or.inl q)), Or.inl q⟩
  · exact Or.inl ⟨Or.inl (if_pos (Or.inr (Int32.not_lt.mpr q))), Or.inr (Or.inl (Int32.not_le.mpr (Int32.lt_of_lt_of_le (by decide) q)))⟩
  · rcases pk_ix y (n := 100001) (by decide) with q | q | ⟨most, hm, e2⟩
    · exact Or.inl ⟨Or.inr (Or.inl q), Or.inr (Or.inr (Or.inl q))⟩
    · have z : ¬ y ≤ nI 100000 := Int32.not_le.mpr (Int32.lt_of_lt_of_le (by decide) q)
      exact Or.inl ⟨Or.inr (Or.inr z), Or.inr (Or.inr (Or.inr z))⟩
    · exact Or.inr ⟨p0, most, hp, by omega, e1, e2⟩
theorem ways_cases {n : Nat} (hn : n < 2 ^ 31) (x y : Int32) : ((iP x = 0 ∨ hC n y = 0) ∧ (x < 0 ∨ ¬ x ≤ nI 2 ∨ y < 0 ∨ ¬ y < nI n)) ∨ ∃ p0 k0 : Nat, p0 < 3 ∧ k0 < n ∧ x = nI p0 ∧ y = nI k0 := by
  rcases pk_ix x (n := 3) (by decide) with q | q | ⟨p0, hp, e1⟩
  · exact Or.inl ⟨Or.inl (if_pos (Or.inl q)), Or.inl q⟩
  · exact Or.inl ⟨Or.inl (if_pos (Or.inr (Int32.not_lt.mpr q))), Or.inr (Or.inl (Int32.not_le.mpr (Int32.lt_of_lt_of_le (by decide) q)))⟩
  · rcases pk_ix y (n := n) hn with q | q | ⟨k0, hk, e2⟩
    · exact Or.inl ⟨Or.inr (if_pos (Or.inl q)), Or.inr (Or.inr (Or.inl q))⟩
    · exact Or.inl ⟨Or.inr (if_pos (Or.inr q)), Or.inr (Or.inr (Or.inr (Int32.not_lt.mpr q)))⟩
    · exact Or.inr ⟨p0, k0, hp, hk, e1, e2⟩
set_option maxHeartbeats 2000000 in
set_option maxRecDepth 100000 in
theorem L_law {p : Program} {l : Launch} {e : Env} {s : State} {m : MethodId} {args : Array Value} {below : List Frame} {meth : Method} {c : Code} {A : Nat → Prop} {D : va_G} {cI cL cZ : ClassId} {c0 : Cond} {Q : State → Prop} {sb L w h x0 d0 s0 s1 s2 s3 s4 s5 q0 q1 r0 r1 r2 r3 r4 r5 r6 a b1 b2 b3 b4 b5 b6 b7 b8 b9 : Nat} {xs : Nat → Int32} (E1 : En p s m args meth c code 4 (c0 :: Om) "TourFormsLaw" (some .boolean) A D [(cI, .int), (cL, .long)]) (E2 : En p s m args meth c code 4 (c0 :: Om) "TourFormsLaw" (some .boolean) A D [(cI, .int), (cZ, .boolean)]) (hX : va_X sb L xs s s.heap) (hbl : sb < s.heap.size) (hbA : ¬ A sb) (hL : L < 2 ^ 31) (kend : ∀ (H : Heap) (locs : List Loc), va_S A s.heap H locs → ∀ ls : Array Slot, W p l e room_1 s m args below meth c H locs 27 1045 Q (F0 m 547 ls [])) : ∀ (n i : Nat) (f sc pi op ln md sfd qf sn rfd : Nat) (pa wo wc wt rows fx le tr wi uc ur pm qm : Nat → Nat) (bg tl sp th isf : Nat) (ba vi to rw li gi fl fo my : Nat → Nat), i ≤ L + 2 → L + 2 < i + 4 * n → i < 2 ^ 31 → Rel w h f sc ln md sfd rfd pa wo wc wt rows fx le tr wi uc ur pm qm bg tl sp isf ba vi to rw gi fl fo my → ∀ (H : Heap) (locs : List Loc), va_P D classes [(x0, .inr (4, [.ref d0, .ref s0, .ref q0, .ref r0, .int (nI sc)])), (d0, .inr (0, [.int (nI w), .int (nI h), .int (nI (w * h)), .long (lN f)])), (s0, .inr (3, [.ref s1, .ref s2, .ref s3, .ref s4, .ref s5, .int (nI pi), .long (lN op), .int (nI ln), .int (nI md), .int (nI sfd)])), (s1, .inl (cL, 108, .inr (.inl (lA (eT w h))))), (s2, .inl (cI, 36, .inl (nA pa))), (s3, .inl (cI, 288, .inl (nA wo))), (s4, .inl (cI, 36, .inl (nA wc))), (s5, .inl (cI, 36, .inl (nA wt))), (q0, .inr (1, [.int (nI w), .int (nI h), .ref q1, .long (lN qf), .int (nI sn)])), (q1, .inl (cI, 6, .inl (nA rows))), (r0, .inr (2, [.int (nI (w * h)), .int (nI (max w h)), .int (nI (min w h)), .int (nI (2 * 2 ^ max w h - 2)), .ref r1, .ref r2, .ref r3, .ref r4, .ref r5, .ref r6, .long (lN (lz uc)), .long (lN (lz ur)), .int (nI rfd)])), (r1, .inl (cI, 36, .inl (nA fx))), (r2, .inl (cI, 36, .inl (nA le))), (r3, .inl (cI, 36, .inl (nA tr))), (r4, .inl (cI, 36, .inl (nA wi))), (r5, .inl (cI, 36, .inl (nA (e8 ((cR w h).1))))), (r6, .inl (cI, 36, .inl (nA (e8 ((cR w h).2))))), (a, .inr (5, [.int (nI w), .int (nI h), .int (nI (w * h)), .int (nI (max w h)), .ref b1, .ref b2, .ref b3, .int (nI bg), .int (nI tl), .int (nI sp), .int (nI th), .ref b4, .ref b5, .ref b6, .ref b7, .ref b8, .ref b9, .int (nI isf)])), (b1, .inl (cZ, 36, .inl (nA ba))), (b2, .inl (cZ, 36, .inl (nA vi))), (b3, .inl (cI, 36, .inl (nA to))), (b4, .inl (cI, 6, .inl (mA rw))), (b5, .inl (cI, 6, .inl (mA li))), (b6, .inl (cI, 36, .inl (nA gi))), (b7, .inl (cI, 36, .inl (nA fl))), (b8, .inl (cI, 36, .inl (nA fo))), (b9, .inl (cI, 36, .inl (nA my)))] H → va_D A [(x0, .inr (4, [.ref d0, .ref s0, .ref q0, .ref r0, .int (nI sc)])), (d0, .inr (0, [.int (nI w), .int (nI h), .int (nI (w * h)), .long (lN f)])), (s0, .inr (3, [.ref s1, .ref s2, .ref s3, .ref s4, .ref s5, .int (nI pi), .long (lN op), .int (nI ln), .int (nI md), .int (nI sfd)])), (s1, .inl (cL, 108, .inr (.inl (lA (eT w h))))), (s2, .inl (cI, 36, .inl (nA pa))), (s3, .inl (cI, 288, .inl (nA wo))), (s4, .inl (cI, 36, .inl (nA wc))), (s5, .inl (cI, 36, .inl (nA wt))), (q0, .inr (1, [.int (nI w), .int (nI h), .ref q1, .long (lN qf), .int (nI sn)])), (q1, .inl (cI, 6, .inl (nA rows))), (r0, .inr (2, [.int (nI (w * h)), .int (nI (max w h)), .int (nI (min w h)), .int (nI (2 * 2 ^ max w h - 2)), .ref r1, .ref r2, .ref r3, .ref r4, .ref r5, .ref r6, .long (lN (lz uc)), .long (lN (lz ur)), .int (nI rfd)])), (r1, .inl (cI, 36, .inl (nA fx))), (r2, .inl (cI, 36, .inl (nA le))), (r3, .inl (cI, 36, .inl (nA tr))), (r4, .inl (cI, 36, .inl (nA wi))), (r5, .inl (cI, 36, .inl (nA (e8 ((cR w h).1))))), (r6, .inl (cI, 36, .inl (nA (e8 ((cR w h).2))))), (a, .inr (5, [.int (nI w), .int (nI h), .int (nI (w * h)), .int (nI (max w h)), .ref b1, .ref b2, .ref b3, .int (nI bg), .int (nI tl), .int (nI sp), .int (nI th), .ref b4, .ref b5, .ref b6, .ref b7, .ref b8, .ref b9, .int (nI isf)])), (b1, .inl (cZ, 36, .inl (nA ba))), (b2, .inl (cZ, 36, .inl (nA vi))), (b3, .inl (cI, 36, .inl (nA to))), (b4, .inl (cI, 6, .inl (mA rw))), (b5, .inl (cI, 6, .inl (mA li))), (b6, .inl (cI, 36, .inl (nA gi))), (b7, .inl (cI, 36, .inl (nA fl))), (b8, .inl (cI, 36, .inl (nA fo))), (b9, .inl (cI, 36, .inl (nA my)))] → va_S A s.heap H locs → ∀ ls : Array Slot, lv_has ls 4 [(0, .ref sb), (1, .ref x0), (2, .ref a), (3, .int (nI i))] → W p l e room_1 s m args below meth c H locs 27 1045 Q (F0 m 38 ls []) := by
  obtain ⟨hx, hb, hml, hown, hts, hr, hlk, hA, hK, hN⟩ := id E1
  intro n
  induction n with
  | zero => intro i f sc pi op ln md sfd qf sn rfd pa wo wc wt rows fx le tr wi uc ur pm qm bg tl sp th isf ba vi to rw li gi fl fo my h1 h2; omega
  | succ n ih =>
    intro i f sc pi op ln md sfd qf sn rfd pa wo wc wt rows fx le tr wi uc ur pm qm bg tl sp th isf ba vi to rw li gi fl fo my h1 h2 h3 R H locs hP hD hS ls hl
    obtain ⟨O, z1, z2, z3, z4, z5⟩ := id R
    refine lv_iload_n hx hb d_law_38 rfl (lv_at hl 3 rfl) ?_
    refine lv_aload_n hx hb d_law_39 rfl (lv_at hl 0 rfl) ?_
    refine nr_slen hx hb hX hbl hbA hS d_law_40 ?_
    refine lv_iconst (v := nI 4) hx hb d_law_41 (by decide) ?_
    by_cases hi9 : i + 4 ≤ L
    · refine nr_isub hx hb d_law_42 (by omega) ?_
      refine nr_icmp_gt (tgt := 547) hx hb d_law_43 (by decide) (by omega) (by omega) (fun h9 => absurd h9 (by omega)) (fun _ => ?_)
      refine lv_aload_n hx hb d_law_46 rfl (lv_at hl 0 rfl) ?_
      refine lv_iload_n hx hb d_law_47 rfl (lv_at hl 3 rfl) ?_
      refine nr_sld hx hb hX hbl hbA hS (k := i) (by omega) hL d_law_48 ?_
      refine lv_bipush (v := nI 15) hx hb d_law_49 (by decide) ?_
      refine lv_iand hx hb d_law_51 ?_
      obtain ⟨j, hj, ej⟩ := and15 (xs i)
      rw [ej]
      have kk : ∀ (f sc pi op ln md sfd qf sn rfd : Nat) (pa wo wc wt rows fx le tr wi uc ur pm qm : Nat → Nat) (bg tl sp th isf : Nat) (ba vi to rw li gi fl fo my : Nat → Nat), Rel w h f sc ln md sfd rfd pa wo wc wt rows fx le tr wi uc ur pm qm bg tl sp isf ba vi to rw gi fl fo my → ∀ (H : Heap) (locs : List Loc), va_P D classes [(x0, .inr (4, [.ref d0, .ref s0, .ref q0, .ref r0, .int (nI sc)])), (d0, .inr (0, [.int (nI w), .int (nI h), .int (nI (w * h)), .long (lN f)])), (s0, .inr (3, [.ref s1, .ref s2, .ref s3, .ref s4, .ref s5, .int (nI pi), .long (lN op), .int (nI ln), .int (nI md), .int (nI sfd)])), (s1, .inl (cL, 108, .inr (.inl (lA (eT w h))))), (s2, .inl (cI, 36, .inl (nA pa))), (s3, .inl (cI, 288, .inl (nA wo))), (s4, .inl (cI, 36, .inl (nA wc))), (s5, .inl (cI, 36, .inl (nA wt))), (q0, .inr (1, [.int (nI w), .int (nI h), .ref q1, .long (lN qf), .int (nI sn)])), (q1, .inl (cI, 6, .inl (nA rows))), (r0, .inr (2, [.int (nI (w * h)), .int (nI (max w h)), .int (nI (min w h)), .int (nI (2 * 2 ^ max w h - 2)), .ref r1, .ref r2, .ref r3, .ref r4, .ref r5, .ref r6, .long (lN (lz uc)), .long (lN (lz ur)), .int (nI rfd)])), (r1, .inl (cI, 36, .inl (nA fx))), (r2, .inl (cI, 36, .inl (nA le))), (r3, .inl (cI, 36, .inl (nA tr))), (r4, .inl (cI, 36, .inl (nA wi))), (r5, .inl (cI, 36, .inl (nA (e8 ((cR w h).1))))), (r6, .inl (cI, 36, .inl (nA (e8 ((cR w h).2))))), (a, .inr (5, [.int (nI w), .int (nI h), .int (nI (w * h)), .int (nI (max w h)), .ref b1, .ref b2, .ref b3, .int (nI bg), .int (nI tl), .int (nI sp), .int (nI th), .ref b4, .ref b5, .ref b6, .ref b7, .ref b8, .ref b9, .int (nI isf)])), (b1, .inl (cZ, 36, .inl (nA ba))), (b2, .inl (cZ, 36, .inl (nA vi))), (b3, .inl (cI, 36, .inl (nA to))), (b4, .inl (cI, 6, .inl (mA rw))), (b5, .inl (cI, 6, .inl (mA li))), (b6, .inl (cI, 36, .inl (nA gi))), (b7, .inl (cI, 36, .inl (nA fl))), (b8, .inl (cI, 36, .inl (nA fo))), (b9, .inl (cI, 36, .inl (nA my)))] H → va_D A [(x0, .inr (4, [.ref d0, .ref s0, .ref q0, .ref r0, .int (nI sc)])), (d0, .inr (0, [.int (nI w), .int (nI h), .int (nI (w * h)), .long (lN f)])), (s0, .inr (3, [.ref s1, .ref s2, .ref s3, .ref s4, .ref s5, .int (nI pi), .long (lN op), .int (nI ln), .int (nI md), .int (nI sfd)])), (s1, .inl (cL, 108, .inr (.inl (lA (eT w h))))), (s2, .inl (cI, 36, .inl (nA pa))), (s3, .inl (cI, 288, .inl (nA wo))), (s4, .inl (cI, 36, .inl (nA wc))), (s5, .inl (cI, 36, .inl (nA wt))), (q0, .inr (1, [.int (nI w), .int (nI h), .ref q1, .long (lN qf), .int (nI sn)])), (q1, .inl (cI, 6, .inl (nA rows))), (r0, .inr (2, [.int (nI (w * h)), .int (nI (max w h)), .int (nI (min w h)), .int (nI (2 * 2 ^ max w h - 2)), .ref r1, .ref r2, .ref r3, .ref r4, .ref r5, .ref r6, .long (lN (lz uc)), .long (lN (lz ur)), .int (nI rfd)])), (r1, .inl (cI, 36, .inl (nA fx))), (r2, .inl (cI, 36, .inl (nA le))), (r3, .inl (cI, 36, .inl (nA tr))), (r4, .inl (cI, 36, .inl (nA wi))), (r5, .inl (cI, 36, .inl (nA (e8 ((cR w h).1))))), (r6, .inl (cI, 36, .inl (nA (e8 ((cR w h).2))))), (a, .inr (5, [.int (nI w), .int (nI h), .int (nI (w * h)), .int (nI (max w h)), .ref b1, .ref b2, .ref b3, .int (nI bg), .int (nI tl), .int (nI sp), .int (nI th), .ref b4, .ref b5, .ref b6, .ref b7, .ref b8, .ref b9, .int (nI isf)])), (b1, .inl (cZ, 36, .inl (nA ba))), (b2, .inl (cZ, 36, .inl (nA vi))), (b3, .inl (cI, 36, .inl (nA to))), (b4, .inl (cI, 6, .inl (mA rw))), (b5, .inl (cI, 6, .inl (mA li))), (b6, .inl (cI, 36, .inl (nA gi))), (b7, .inl (cI, 36, .inl (nA fl))), (b8, .inl (cI, 36, .inl (nA fo))), (b9, .inl (cI, 36, .inl (nA my)))] → va_S A s.heap H locs → ∀ ls : Array Slot, lv_has ls 4 [(0, .ref sb), (1, .ref x0), (2, .ref a), (3, .int (nI i))] → W p l e room_1 s m args below meth c H locs 27 1045 Q (F0 m 541 ls []) := by
        intro f sc pi op ln md sfd qf sn rfd pa wo wc wt rows fx le tr wi uc ur pm qm bg tl sp th isf ba vi to rw li gi fl fo my R H locs hP hD hS ls hl
        refine nr_iinc4 (lv' := [(3, .int (nI (i + 4))), (0, .ref sb), (1, .ref x0), (2, .ref a)]) hx hb d_law_541 hl (k := 3) rfl (by decide) rfl (fun ls hl => ?_)
        refine lv_goto (tgt := 38) hx hb d_law_544 (by decide) ?_
        exact ih (i + 4) f sc pi op ln md sfd qf sn rfd pa wo wc wt rows fx le tr wi uc ur pm qm bg tl sp th isf ba vi to rw li gi fl fo my (by omega) (by omega) (by omega) R _ _ hP hD hS ls (lv_sub hl [1, 2, 3, 0] rfl)
      rcases (show j = 0 ∨ j = 1 ∨ j = 2 ∨ j = 3 ∨ j = 4 ∨ j = 5 ∨ j = 6 ∨ j = 7 ∨ j = 8 ∨ j = 9 ∨ j = 10 ∨ j = 11 ∨ j = 12 ∨ j = 13 ∨ j = 14 ∨ j = 15 by omega) with rfl | rfl | rfl | rfl | rfl | rfl | rfl | rfl | rfl | rfl | rfl | rfl | rfl | rfl | rfl | rfl
      · refine lv_tableIn (off := 68) (tgt := 120) hx hb d_law_52 (by decide) (by decide) (by decide) (by decide) ?_
        rcases nC_cases w h (xs (i + 1)) (xs (i + 2)) O.2.1 O.2.2.2 with ⟨hn, hout⟩ | ⟨ic, jc, hi, hj, e1, e2⟩
        · by_cases hz : xs (i + 3) = 0
          · exact lw_barOut0 E1 E2 hX hbl hbA hL hi9 kk f sc pi op ln md sfd qf sn rfd pa wo wc wt rows fx le tr wi uc ur pm qm bg tl sp th isf ba vi to rw li gi fl fo my R hn hout hz _ _ hP hD hS ls hl
          · exact lw_barOut1 E1 E2 hX hbl hbA hL hi9 kk f sc pi op ln md sfd qf sn rfd pa wo wc wt rows fx le tr wi uc ur pm qm bg tl sp th isf ba vi to rw li gi fl fo my R hn hout hz _ _ hP hD hS ls hl
        · by_cases hz : xs (i + 3) = 0
          · by_cases hno : ba (ic + w * jc) = 0
            · exact lw_barNo0 E1 E2 hX hbl hbA hL hi9 kk f sc pi op ln md sfd qf sn rfd pa wo wc wt rows fx le tr wi uc ur pm qm bg tl sp th isf ba vi to rw li gi fl fo my R ic jc hi hj e1 e2 hz hno _ _ hP hD hS ls hl
            · exact lw_barYes0 E1 E2 hX hbl hbA hL hi9 kk f sc pi op ln md sfd qf sn rfd pa wo wc wt rows fx le tr wi uc ur pm qm bg tl sp th isf ba vi to rw li gi fl fo my R ic jc hi hj e1 e2 hz hno _ _ hP hD hS ls hl
          · by_cases hno : ba (ic + w * jc) = 1
            · exact lw_barNo1 E1 E2 hX hbl hbA hL hi9 kk f sc pi op ln md sfd qf sn rfd pa wo wc wt rows fx le tr wi uc ur pm qm bg tl sp th isf ba vi to rw li gi fl fo my R ic jc hi hj e1 e2 hz hno _ _ hP hD hS ls hl
            · exact lw_barYes1 E1 E2 hX hbl hbA hL hi9 kk f sc pi op ln md sfd qf sn rfd pa wo wc wt rows fx le tr wi uc ur pm qm bg tl sp th isf ba vi to rw li gi fl fo my R ic jc hi hj e1 e2 hz hno _ _ hP hD hS ls hl
      · refine lv_tableIn (off := 127) (tgt := 179) hx hb d_law_52 (by decide) (by decide) (by decide) (by decide) ?_
        rcases nC_cases w h (xs (i + 1)) (xs (i + 2)) O.2.1 O.2.2.2 with ⟨hn, hout⟩ | ⟨ic, jc, hi, hj, e1, e2⟩
        · exact lw_startOut E1 E2 hX hbl hbA hL hi9 kk f sc pi op ln md sfd qf sn rfd pa wo wc wt rows fx le tr wi uc ur pm qm bg tl sp th isf ba vi to rw li gi fl fo my R hn hout _ _ hP hD hS ls hl
        · exact lw_startIn E1 E2 hX hbl hbA hL hi9 kk f sc pi op ln md sfd qf sn rfd pa wo wc wt rows fx le tr wi uc ur pm qm bg tl sp th isf ba vi to rw li gi fl fo my R ic jc hi hj e1 e2 _ _ hP hD hS ls hl
      · refine lv_tableIn (off := 160) (tgt := 212) hx hb d_law_52 (by decide) (by decide) (by decide) (by decide) ?_
        by_cases hz : xs (i + 2) = 0
        · rcases tour_cases (xs (i + 1)) (xs (i + 3)) with ⟨ho1, ho2⟩ | ⟨p0, most, hp, hm, e1, e3⟩
          · exact lw_tourOut0 E1 E2 hX hbl hbA hL hi9 kk f sc pi op ln md sfd qf sn rfd pa wo wc wt rows fx le tr wi uc ur pm qm bg tl sp th isf ba vi to rw li gi fl fo my R hz ho1 ho2 _ _ hP hD hS ls hl
          · by_cases hb1 : ba bg = 0
            · exact lw_tourR0 E1 E2 hX hbl hbA hL hi9 kk f sc pi op ln md sfd qf sn rfd pa wo wc wt rows fx le tr wi uc ur pm qm bg tl sp th isf ba vi to rw li gi fl fo my R hz p0 most hp hm e1 e3 hb1 _ _ hP hD hS ls hl
            · exact lw_tourB0 E1 E2 hX hbl hbA hL hi9 kk f sc pi op ln md sfd qf sn rfd pa wo wc wt rows fx le tr wi uc ur pm qm bg tl sp th isf ba vi to rw li gi fl fo my R hz p0 most hp hm e1 e3 (by have := z4 bg; omega) _ _ hP hD hS ls hl
        · rcases tour_cases (xs (i + 1)) (xs (i + 3)) with ⟨ho1, ho2⟩ | ⟨p0, most, hp, hm, e1, e3⟩
          · exact lw_tourOut1 E1 E2 hX hbl hbA hL hi9 kk f sc pi op ln md sfd qf sn rfd pa wo wc wt rows fx le tr wi uc ur pm qm bg tl sp th isf ba vi to rw li gi fl fo my R hz ho1 ho2 _ _ hP hD hS ls hl
          · by_cases hb1 : ba bg = 0
            · exact lw_tourR1 E1 E2 hX hbl hbA hL hi9 kk f sc pi op ln md sfd qf sn rfd pa wo wc wt rows fx le tr wi uc ur pm qm bg tl sp th isf ba vi to rw li gi fl fo my R hz p0 most hp hm e1 e3 hb1 _ _ hP hD hS ls hl
            · exact lw_tourB1 E1 E2 hX hbl hbA hL hi9 kk f sc pi op ln md sfd qf sn rfd pa wo wc wt rows fx le tr wi uc ur pm qm bg tl sp th isf ba vi to rw li gi fl fo my R hz p0 most hp hm e1 e3 (by have := z4 bg; omega) _ _ hP hD hS ls hl
      · refine lv_tableIn (off := 219) (tgt := 271) hx hb d_law_52 (by decide) (by decide) (by decide) (by decide) ?_
        exact lw_at E1 E2 hX hbl hbA hL hi9 kk f sc pi op ln md sfd qf sn rfd pa wo wc wt rows fx le tr wi uc ur pm qm bg tl sp th isf ba vi to rw li gi fl fo my R  _ _ hP hD hS ls hl
      · refine lv_tableIn (off := 242) (tgt := 294) hx hb d_law_52 (by decide) (by decide) (by decide) (by decide) ?_
        exact lw_steps E1 E2 hX hbl hbA hL hi9 kk f sc pi op ln md sfd qf sn rfd pa wo wc wt rows fx le tr wi uc ur pm qm bg tl sp th isf ba vi to rw li gi fl fo my R  _ _ hP hD hS ls hl
      · refine lv_tableIn (off := 255) (tgt := 307) hx hb d_law_52 (by decide) (by decide) (by decide) (by decide) ?_
        rcases ways_cases (n := w * h) (by have := (oq36 O).1; omega) (xs (i + 1)) (xs (i + 2)) with ⟨ho1, ho2⟩ | ⟨p0, k0, hp, hk, e1, e2⟩
        · exact lw_waysOut E1 E2 hX hbl hbA hL hi9 kk f sc pi op ln md sfd qf sn rfd pa wo wc wt rows fx le tr wi uc ur pm qm bg tl sp th isf ba vi to rw li gi fl fo my R ho1 ho2 _ _ hP hD hS ls hl
        · exact lw_waysIn E1 E2 hX hbl hbA hL hi9 kk f sc pi op ln md sfd qf sn rfd pa wo wc wt rows fx le tr wi uc ur pm qm bg tl sp th isf ba vi to rw li gi fl fo my R p0 k0 hp hk e1 e2 _ _ hP hD hS ls hl
      · refine lv_tableIn (off := 288) (tgt := 340) hx hb d_law_52 (by decide) (by decide) (by decide) (by decide) ?_
        exact lw_queens E1 E2 hX hbl hbA hL hi9 kk f sc pi op ln md sfd qf sn rfd pa wo wc wt rows fx le tr wi uc ur pm qm bg tl sp th isf ba vi to rw li gi fl fo my R  _ _ hP hD hS ls hl
      · refine lv_tableIn (off := 301) (tgt := 353) hx hb d_law_52 (by decide) (by decide) (by decide) (by decide) ?_
        by_cases hout : xs (i + 1) < 0 ∨ xs (i + 2) < 0 ∨ ¬ xs (i + 2) < nI w
        · exact lw_queenOut E1 E2 hX hbl hbA hL hi9 kk f sc pi op ln md sfd qf sn rfd pa wo wc wt rows fx le tr wi uc ur pm qm bg tl sp th isf ba vi to rw li gi fl fo my R hout _ _ hP hD hS ls hl
        · rcases pk_ix (xs (i + 2)) (n := w) (by have := O.2.1; omega) with q | q | ⟨c1, hc1, e2⟩
          · exact absurd (Or.inr (Or.inl q)) hout
          · exact absurd (Or.inr (Or.inr (Int32.not_lt.mpr q))) hout
          · exact lw_queenIn E1 E2 hX hbl hbA hL hi9 kk f sc pi op ln md sfd qf sn rfd pa wo wc wt rows fx le tr wi uc ur pm qm bg tl sp th isf ba vi to rw li gi fl fo my R (fun q => hout (Or.inl q)) c1 hc1 e2 _ _ hP hD hS ls hl
      · refine lv_tableIn (off := 334) (tgt := 386) hx hb d_law_52 (by decide) (by decide) (by decide) (by decide) ?_
        rcases nC_cases w h (xs (i + 1)) (xs (i + 2)) O.2.1 O.2.2.2 with ⟨hn, hout⟩ | ⟨ic, jc, hi, hj, e1, e2⟩
        · exact lw_givenOut E1 E2 hX hbl hbA hL hi9 kk f sc pi op ln md sfd qf sn rfd pa wo wc wt rows fx le tr wi uc ur pm qm bg tl sp th isf ba vi to rw li gi fl fo my R hn hout _ _ hP hD hS ls hl
        · by_cases hv : xs (i + 3) < 0 ∨ nI (max w h) < xs (i + 3)
          · exact lw_givenNo E1 E2 hX hbl hbA hL hi9 kk f sc pi op ln md sfd qf sn rfd pa wo wc wt rows fx le tr wi uc ur pm qm bg tl sp th isf ba vi to rw li gi fl fo my R ic jc hi hj e1 e2 hv _ _ hP hD hS ls hl
          · have h6 : max w h ≤ 6 := Nat.max_le.mpr ⟨O.2.1, O.2.2.2⟩
            rcases pk_ix (xs (i + 3)) (n := max w h + 1) (by omega) with q | q | ⟨v0, hv0, e3⟩
            · exact absurd (Or.inl q) hv
            · exact absurd (Or.inr (Int32.lt_of_lt_of_le ((nI_ltI (by omega) (by omega)).mpr (Nat.lt_succ_self _)) q)) hv
            · exact lw_givenYes E1 E2 hX hbl hbA hL hi9 kk f sc pi op ln md sfd qf sn rfd pa wo wc wt rows fx le tr wi uc ur pm qm bg tl sp th isf ba vi to rw li gi fl fo my R ic jc hi hj e1 e2 v0 (by omega) e3 _ _ hP hD hS ls hl
      · refine lv_tableIn (off := 377) (tgt := 429) hx hb d_law_52 (by decide) (by decide) (by decide) (by decide) ?_
        exact lw_fill E1 E2 hX hbl hbA hL hi9 kk f sc pi op ln md sfd qf sn rfd pa wo wc wt rows fx le tr wi uc ur pm qm bg tl sp th isf ba vi to rw li gi fl fo my R  _ _ hP hD hS ls hl
      · refine lv_tableIn (off := 390) (tgt := 442) hx hb d_law_52 (by decide) (by decide) (by decide) (by decide) ?_
        rcases nC_cases w h (xs (i + 1)) (xs (i + 2)) O.2.1 O.2.2.2 with ⟨hn, hout⟩ | ⟨ic, jc, hi, hj, e1, e2⟩
        · exact lw_numberOut E1 E2 hX hbl hbA hL hi9 kk f sc pi op ln md sfd qf sn rfd pa wo wc wt rows fx le tr wi uc ur pm qm bg tl sp th isf ba vi to rw li gi fl fo my R hn hout _ _ hP hD hS ls hl
        · exact lw_numberIn E1 E2 hX hbl hbA hL hi9 kk f sc pi op ln md sfd qf sn rfd pa wo wc wt rows fx le tr wi uc ur pm qm bg tl sp th isf ba vi to rw li gi fl fo my R ic jc hi hj e1 e2 _ _ hP hD hS ls hl
      · refine lv_tableIn (off := 423) (tgt := 475) hx hb d_law_52 (by decide) (by decide) (by decide) (by decide) ?_
        by_cases hout : xs (i + 1) < 0 ∨ ¬ xs (i + 1) ≤ nI 1000
        · exact lw_fillsOut E1 E2 hX hbl hbA hL hi9 kk f sc pi op ln md sfd qf sn rfd pa wo wc wt rows fx le tr wi uc ur pm qm bg tl sp th isf ba vi to rw li gi fl fo my R hout _ _ hP hD hS ls hl
        · rcases pk_ix (xs (i + 1)) (n := 1001) (by decide) with q | q | ⟨most, hm, e1⟩
          · exact absurd (Or.inl q) hout
          · exact absurd (Or.inr (Int32.not_le.mpr (Int32.lt_of_lt_of_le (by decide) q))) hout
          · exact lw_fillsIn E1 E2 hX hbl hbA hL hi9 kk f sc pi op ln md sfd qf sn rfd pa wo wc wt rows fx le tr wi uc ur pm qm bg tl sp th isf ba vi to rw li gi fl fo my R most (by omega) e1 _ _ hP hD hS ls hl
      · refine lv_tableIn (off := 446) (tgt := 498) hx hb d_law_52 (by decide) (by decide) (by decide) (by decide) ?_
        by_cases hb0 : mgB (xs (i + 1)) (xs (i + 2)) (xs (i + 3))
        · exact lw_magicOut E1 E2 hX hbl hbA hL hi9 kk f sc pi op ln md sfd qf sn rfd pa wo wc wt rows fx le tr wi uc ur pm qm bg tl sp th isf ba vi to rw li gi fl fo my R hb0 _ _ hP hD hS ls hl
        · obtain ⟨n0, x0v, y0v, e1, e2, e3, hn1, hn15, hod, hxv, hyv, hnz⟩ := mg_in hb0
          exact lw_magicIn E1 E2 hX hbl hbA hL hi9 kk f sc pi op ln md sfd qf sn rfd pa wo wc wt rows fx le tr wi uc ur pm qm bg tl sp th isf ba vi to rw li gi fl fo my R n0 x0v y0v (by rw [e1, e2, e3] at hb0; exact hb0) e1 e2 e3 hn1 hn15 hod hxv hyv (by rw [e1] at hnz; exact hnz) _ _ hP hD hS ls hl
      · refine lv_tableOut (tgt := 541) hx hb d_law_52 (Or.inr (by decide)) (by decide) ?_
        exact kk f sc pi op ln md sfd qf sn rfd pa wo wc wt rows fx le tr wi uc ur pm qm bg tl sp th isf ba vi to rw li gi fl fo my R _ _ hP hD hS ls hl
      · refine lv_tableOut (tgt := 541) hx hb d_law_52 (Or.inr (by decide)) (by decide) ?_
        exact kk f sc pi op ln md sfd qf sn rfd pa wo wc wt rows fx le tr wi uc ur pm qm bg tl sp th isf ba vi to rw li gi fl fo my R _ _ hP hD hS ls hl
      · refine lv_tableOut (tgt := 541) hx hb d_law_52 (Or.inr (by decide)) (by decide) ?_
        exact kk f sc pi op ln md sfd qf sn rfd pa wo wc wt rows fx le tr wi uc ur pm qm bg tl sp th isf ba vi to rw li gi fl fo my R _ _ hP hD hS ls hl
    · refine lv_isub hx hb d_law_42 ?_
      refine lv_icmp_gt (tgt := 547) hx hb d_law_43 (by decide) (fun _ => kend _ _ hS _) (fun h9 => absurd ?_ h9)
      rcases Nat.lt_or_ge L 4 with q | q
      · exact Int32.lt_of_lt_of_le (pk_sneg (a := L) (by decide) q) (nI_pos' h3)
      · rw [pk_sub q]; exact (nI_ltI (by omega) h3).mpr (by omega)
