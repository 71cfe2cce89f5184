/-! the reference: enough, goesOn, fits -/
abbrev N2 : Type := Nat × Nat
def mEl (my : Nat → Nat) (fr sp many u : Nat) : Nat → Nat → N2 → N2
  | 0, _, st => st
  | m + 1, k, st => if k < many then mEl my fr sp many u m (k + 1) (if u ≤ fr + sp * k then (st.1 ||| my (fr + sp * k), st.2 + 1) else st) else st
/-- are there numbers enough for the empty cells of a line -/
def mEn (my : Nat → Nat) (fr sp many u : Nat) : Nat := if (mEl my fr sp many u 7 0 (0, 0)).2 ≤ mBt (mEl my fr sp many u 7 0 (0, 0)).1 9 0 0 then 1 else 0
theorem mEn_1 (my : Nat → Nat) (fr sp many u : Nat) : mEn my fr sp many u ≤ 1 := by unfold mEn; split <;> omega
theorem mBt_le (x : Nat) : ∀ m k y, mBt x m k y ≤ y + m := by
  intro m
  induction m with
  | zero => intro k y; exact Nat.le_refl _
  | succ m ih =>
    intro k y
    rw [mBt]
    split
    · have := ih (k + 1) (y + x / 2 ^ k % 2); omega
    · omega
theorem mEl_s {my : Nat → Nat} {fr sp many u m k : Nat} {st : N2} (h : k < many) : mEl my fr sp many u (m + 1) k st = mEl my fr sp many u m (k + 1) (if u ≤ fr + sp * k then (st.1 ||| my (fr + sp * k), st.2 + 1) else st) := by rw [mEl, if_pos h]
theorem mEl_e {my : Nat → Nat} {fr sp many u m k : Nat} {st : N2} (h : ¬ k < many) : mEl my fr sp many u (m + 1) k st = st := by rw [mEl, if_neg h]
set_option maxHeartbeats 1000000 in
set_option maxRecDepth 100000 in
theorem L_MD_enough {p : Program} {l : Launch} {e : Env} {s : State} {m : MethodId} {args : Array Value} {below : List Frame} {meth : Method} {c : Code} {A : Nat → Prop} {D : va_G} {cI cL : ClassId} {c0 : Cond} {post : Int32 → va_W → Prop} (a b1 b2 b3 b4 b5 b6 b7 b8 b9 w h g bg tl sp th isf : Nat) (ba vi to rw li gi fl fo my : Nat → Nat) (fr sp1 many u : Nat) (hmany : many ≤ 6) (hidx : ∀ k, k < many → fr + sp1 * k < 36) (hu : u ≤ 36) (hmy : ∀ k, my k < 128) (E : En p s m args meth c b_MD_enough 9 (c0 :: Om) R_MD (some .boolean) A D [(cI, .int), (cL, .boolean)]) : ∀ (m1 : Nat) (k : Nat) (so : Nat) (nn : Nat), k ≤ many → many < k + m1 → so < 128 → nn ≤ k → post (nI (if (mEl my fr sp1 many u m1 k (so, nn)).2 ≤ mBt (mEl my fr sp1 many u m1 k (so, nn)).1 9 0 0 then 1 else 0)) [(a, .inr (5, [.int (nI w), .int (nI h), .int (nI (w * h)), .int (nI g), .ref b1, .ref b2, .ref b3, .int (nI bg), .int (nI tl), .int (nI sp), .int (nI th), .ref b4, .ref b5, .ref b6, .ref b7, .ref b8, .ref b9, .int (nI isf)])), (b1, .inl (cL, 36, .inl (nA ba))), (b2, .inl (cL, 36, .inl (nA vi))), (b3, .inl (cI, 36, .inl (nA to))), (b4, .inl (cI, 6, .inl (mA rw))), (b5, .inl (cI, 6, .inl (mA li))), (b6, .inl (cI, 36, .inl (nA gi))), (b7, .inl (cI, 36, .inl (nA fl))), (b8, .inl (cI, 36, .inl (nA fo))), (b9, .inl (cI, 36, .inl (nA my)))] → ∀ (H : Heap) (locs : List Loc), va_P D classes [(a, .inr (5, [.int (nI w), .int (nI h), .int (nI (w * h)), .int (nI g), .ref b1, .ref b2, .ref b3, .int (nI bg), .int (nI tl), .int (nI sp), .int (nI th), .ref b4, .ref b5, .ref b6, .ref b7, .ref b8, .ref b9, .int (nI isf)])), (b1, .inl (cL, 36, .inl (nA ba))), (b2, .inl (cL, 36, .inl (nA vi))), (b3, .inl (cI, 36, .inl (nA to))), (b4, .inl (cI, 6, .inl (mA rw))), (b5, .inl (cI, 6, .inl (mA li))), (b6, .inl (cI, 36, .inl (nA gi))), (b7, .inl (cI, 36, .inl (nA fl))), (b8, .inl (cI, 36, .inl (nA fo))), (b9, .inl (cI, 36, .inl (nA my)))] H → va_D A [(a, .inr (5, [.int (nI w), .int (nI h), .int (nI (w * h)), .int (nI g), .ref b1, .ref b2, .ref b3, .int (nI bg), .int (nI tl), .int (nI sp), .int (nI th), .ref b4, .ref b5, .ref b6, .ref b7, .ref b8, .ref b9, .int (nI isf)])), (b1, .inl (cL, 36, .inl (nA ba))), (b2, .inl (cL, 36, .inl (nA vi))), (b3, .inl (cI, 36, .inl (nA to))), (b4, .inl (cI, 6, .inl (mA rw))), (b5, .inl (cI, 6, .inl (mA li))), (b6, .inl (cI, 36, .inl (nA gi))), (b7, .inl (cI, 36, .inl (nA fl))), (b8, .inl (cI, 36, .inl (nA fo))), (b9, .inl (cI, 36, .inl (nA my)))] → va_S A s.heap H locs → ∀ ls : Array Slot, lv_has ls 9 [(0, .ref a), (1, .int (nI fr)), (2, .int (nI sp1)), (3, .int (nI many)), (4, .int (nI u - 1)), (5, .int (nI so)), (6, .int (nI nn)), (7, .int (nI k))] → W p l e { frames := 1, cells := 0, slots := 0, locals := 22 } s m args below meth c H locs 0 0 (MQ below (qI D [(cI, .int), (cL, .boolean)] post A) args s 0 0 A) (F0 m 9 ls []) := by
  obtain ⟨hx, hb, hml, hown, hts, hr, hlk, hA, hK, hN⟩ := id E
  have ho : ∀ q ∈ Om, q.before _ s = true := fun q h => hts q (List.mem_cons_of_mem _ h)
  intro m1
  induction m1 with
  | zero =>
    intro k so nn h1 h2 hso hnn hq
    exact absurd h2 (by omega)
  | succ m1 ih =>
    intro k so nn h1 h2 hso hnn hq H locs hP hD hS ls hl
    refine lv_iload hx hb d_MD_enough_9 (lv_at hl 7 rfl) ?_
    refine lv_iload_n hx hb d_MD_enough_11 rfl (lv_at hl 3 rfl) ?_
    refine nr_icmp_ge (tgt := 51) hx hb d_MD_enough_12 (by decide) (by omega) (by omega) (fun h_1 => ?_) (fun h_1 => ?_)
    · refine lv_iload hx hb d_MD_enough_51 (lv_at hl 5 rfl) ?_
      have hbl := mBt_le so 9 0 0
      refine af_i (wc := []) (wr := [(a, .inr (5, [.int (nI w), .int (nI h), .int (nI (w * h)), .int (nI g), .ref b1, .ref b2, .ref b3, .int (nI bg), .int (nI tl), .int (nI sp), .int (nI th), .ref b4, .ref b5, .ref b6, .ref b7, .ref b8, .ref b9, .int (nI isf)])), (b1, .inl (cL, 36, .inl (nA ba))), (b2, .inl (cL, 36, .inl (nA vi))), (b3, .inl (cI, 36, .inl (nA to))), (b4, .inl (cI, 6, .inl (mA rw))), (b5, .inl (cI, 6, .inl (mA li))), (b6, .inl (cI, 36, .inl (nA gi))), (b7, .inl (cI, 36, .inl (nA fl))), (b8, .inl (cI, 36, .inl (nA fo))), (b9, .inl (cI, 36, .inl (nA my)))]) (rest := []) [] [0, 1, 2, 3, 4, 5, 6, 7, 8, 9] hP hD hS hA rfl rfl (by decide) (by decide) (rn_S E (As := [.int (nI so)]) m_MD_bits km_MD_113 (c_MD_bits l D cI cL so (by omega) _) ⟨rfl, rfl, by dsimp only; omega, by dsimp only; omega⟩ (hP.sub [] rfl) (hD.sub [] (by decide) rfl) rfl hl.1 rfl (Nat.le_of_ble_eq_true rfl) ⟨Nat.le_of_ble_eq_true rfl, Nat.le_of_ble_eq_true rfl⟩ d_MD_enough_53) (fun r_3 u_2 H locs hw hP hD hS => ?_)
      obtain ⟨rfl, rfl⟩ := hw
      have hP : va_P D classes [(a, .inr (5, [.int (nI w), .int (nI h), .int (nI (w * h)), .int (nI g), .ref b1, .ref b2, .ref b3, .int (nI bg), .int (nI tl), .int (nI sp), .int (nI th), .ref b4, .ref b5, .ref b6, .ref b7, .ref b8, .ref b9, .int (nI isf)])), (b1, .inl (cL, 36, .inl (nA ba))), (b2, .inl (cL, 36, .inl (nA vi))), (b3, .inl (cI, 36, .inl (nA to))), (b4, .inl (cI, 6, .inl (mA rw))), (b5, .inl (cI, 6, .inl (mA li))), (b6, .inl (cI, 36, .inl (nA gi))), (b7, .inl (cI, 36, .inl (nA fl))), (b8, .inl (cI, 36, .inl (nA fo))), (b9, .inl (cI, 36, .inl (nA my)))] H := hP
      have hD : va_D A [(a, .inr (5, [.int (nI w), .int (nI h), .int (nI (w * h)), .int (nI g), .ref b1, .ref b2, .ref b3, .int (nI bg), .int (nI tl), .int (nI sp), .int (nI th), .ref b4, .ref b5, .ref b6, .ref b7, .ref b8, .ref b9, .int (nI isf)])), (b1, .inl (cL, 36, .inl (nA ba))), (b2, .inl (cL, 36, .inl (nA vi))), (b3, .inl (cI, 36, .inl (nA to))), (b4, .inl (cI, 6, .inl (mA rw))), (b5, .inl (cI, 6, .inl (mA li))), (b6, .inl (cI, 36, .inl (nA gi))), (b7, .inl (cI, 36, .inl (nA fl))), (b8, .inl (cI, 36, .inl (nA fo))), (b9, .inl (cI, 36, .inl (nA my)))] := hD
      refine lv_iload hx hb d_MD_enough_56 (lv_at hl 6 rfl) ?_
      refine nr_icmp_lt (tgt := 65) hx hb d_MD_enough_58 (by decide) (by omega) (by omega) (fun h_4 => ?_) (fun h_4 => ?_)
      · refine lv_iconst (v := nI 0) hx hb d_MD_enough_65 (by decide) ?_
        exact rt_z E hP hD hS (by decide) (by rw [mEl_e (by omega)] at hq; dsimp only at hq; rw [if_neg (by omega)] at hq; exact hq) d_MD_enough_66
      · refine lv_iconst (v := nI 1) hx hb d_MD_enough_61 (by decide) ?_
        refine lv_goto (tgt := 66) hx hb d_MD_enough_62 (by decide) ?_
        exact rt_z E hP hD hS (by decide) (by rw [mEl_e (by omega)] at hq; dsimp only at hq; rw [if_pos (by omega)] at hq; exact hq) d_MD_enough_66
    · have hix := hidx k (by omega)
      have hmk := hmy (fr + sp1 * k)
      refine lv_iload_n hx hb d_MD_enough_15 rfl (lv_at hl 1 rfl) ?_
      refine lv_iload_n hx hb d_MD_enough_16 rfl (lv_at hl 2 rfl) ?_
      refine lv_iload hx hb d_MD_enough_17 (lv_at hl 7 rfl) ?_
      refine nr_imul hx hb d_MD_enough_19 ?_
      refine nr_iadd hx hb d_MD_enough_20 ?_
      refine lv_istore (lv' := [(8, .int (nI (fr + (sp1 * k)))), (0, .ref a), (1, .int (nI fr)), (2, .int (nI sp1)), (3, .int (nI many)), (4, .int (nI u - 1)), (5, .int (nI so)), (6, .int (nI nn)), (7, .int (nI k))]) hx hb d_MD_enough_21 hl (by decide) rfl (fun ls hl => ?_)
      refine lv_iload hx hb d_MD_enough_23 (lv_at hl 0 rfl) ?_
      refine lv_iload hx hb d_MD_enough_25 (lv_at hl 5 rfl) ?_
      refine nr_mle (tgt := 45) hx hb d_MD_enough_27 (by decide) (by omega) (by omega) (fun h_5 => ?_) (fun h_5 => ?_)
      · refine nr_iinc (lv' := [(7, .int (nI (k + 1))), (8, .int (nI (fr + (sp1 * k)))), (0, .ref a), (1, .int (nI fr)), (2, .int (nI sp1)), (3, .int (nI many)), (4, .int (nI u - 1)), (5, .int (nI so)), (6, .int (nI nn))]) hx hb d_MD_enough_45 hl (k := 8) rfl (by decide) rfl (fun ls hl => ?_)
        refine lv_goto (tgt := 9) hx hb d_MD_enough_48 (by decide) ?_
        exact ih (k + 1) so nn (by omega) (by omega) hso (by omega) (by rw [mEl_s (by omega), show (if u ≤ fr + sp1 * k then ((so, nn).1 ||| my (fr + sp1 * k), (so, nn).2 + 1) else (so, nn)) = (so, nn) from if_neg (by omega)] at hq; exact hq) _ _ hP hD hS ls (lv_sub hl [2, 3, 4, 5, 6, 7, 8, 0] rfl)
      · refine lv_iload hx hb d_MD_enough_30 (lv_at hl 6 rfl) ?_
        refine lv_aload_n hx hb d_MD_enough_32 rfl (lv_at hl 1 rfl) ?_
        refine va_get (D := D) (ci := 5) (v := .ref b9) (C := R_MD) (T := F_MD) (N := 18) hx hb ho j_MD hown hK hP 0 rfl rfl 16 (by decide) (ho _ kf_MD_35) (fun _ h9 => h9) rfl d_MD_enough_33 ?_
        refine lv_iload hx hb d_MD_enough_36 (lv_at hl 0 rfl) ?_
        refine nr_ialdN hx hb hK hP 9 0 rfl rfl (i := fr + (sp1 * k)) (by omega) (by decide) d_MD_enough_38 ?_
        refine nr_ior hx hb d_MD_enough_39 ?_
        refine lv_istore (lv' := [(5, .int (nI (so ||| (my (fr + (sp1 * k)))))), (8, .int (nI (fr + (sp1 * k)))), (0, .ref a), (1, .int (nI fr)), (2, .int (nI sp1)), (3, .int (nI many)), (4, .int (nI u - 1)), (6, .int (nI nn)), (7, .int (nI k))]) hx hb d_MD_enough_40 hl (by decide) rfl (fun ls hl => ?_)
        refine nr_iinc (lv' := [(6, .int (nI (nn + 1))), (5, .int (nI (so ||| (my (fr + (sp1 * k)))))), (8, .int (nI (fr + (sp1 * k)))), (0, .ref a), (1, .int (nI fr)), (2, .int (nI sp1)), (3, .int (nI many)), (4, .int (nI u - 1)), (7, .int (nI k))]) hx hb d_MD_enough_42 hl (k := 7) rfl (by decide) rfl (fun ls hl => ?_)
        refine nr_iinc (lv' := [(7, .int (nI (k + 1))), (6, .int (nI (nn + 1))), (5, .int (nI (so ||| (my (fr + (sp1 * k)))))), (8, .int (nI (fr + (sp1 * k)))), (0, .ref a), (1, .int (nI fr)), (2, .int (nI sp1)), (3, .int (nI many)), (4, .int (nI u - 1))]) hx hb d_MD_enough_45 hl (k := 8) rfl (by decide) rfl (fun ls hl => ?_)
        refine lv_goto (tgt := 9) hx hb d_MD_enough_48 (by decide) ?_
        exact ih (k + 1) (so ||| (my (fr + (sp1 * k)))) (nn + 1) (by omega) (by omega) (or_lt hso hmk) (by omega) (by rw [mEl_s (by omega), show (if u ≤ fr + sp1 * k then ((so, nn).1 ||| my (fr + sp1 * k), (so, nn).2 + 1) else (so, nn)) = (so ||| (my (fr + (sp1 * k))), nn + 1) from if_pos (by omega)] at hq; exact hq) _ _ hP hD hS ls (lv_sub hl [4, 5, 6, 7, 8, 2, 1, 0] rfl)
set_option maxHeartbeats 1000000 in
set_option maxRecDepth 100000 in
theorem c_MD_enough (l : Launch) (D : va_G) (cI cL : ClassId) (a b1 b2 b3 b4 b5 b6 b7 b8 b9 w h g bg tl sp th isf : Nat) (ba vi to rw li gi fl fo my : Nat → Nat) (fr sp1 many u : Nat) (hmany : many ≤ 6) (hidx : ∀ k, k < many → fr + sp1 * k < 36) (hu : u ≤ 36) (hmy : ∀ k, my k < 128) : CI l y_MD_enough (.code y_MD_enough b_MD_enough 9 (some .boolean) :: Om) { frames := 1, cells := 0, slots := 0, locals := 22 } D [(a, .inr (5, [.int (nI w), .int (nI h), .int (nI (w * h)), .int (nI g), .ref b1, .ref b2, .ref b3, .int (nI bg), .int (nI tl), .int (nI sp), .int (nI th), .ref b4, .ref b5, .ref b6, .ref b7, .ref b8, .ref b9, .int (nI isf)])), (b1, .inl (cL, 36, .inl (nA ba))), (b2, .inl (cL, 36, .inl (nA vi))), (b3, .inl (cI, 36, .inl (nA to))), (b4, .inl (cI, 6, .inl (mA rw))), (b5, .inl (cI, 6, .inl (mA li))), (b6, .inl (cI, 36, .inl (nA gi))), (b7, .inl (cI, 36, .inl (nA fl))), (b8, .inl (cI, 36, .inl (nA fo))), (b9, .inl (cI, 36, .inl (nA my)))] [(cI, .int), (cL, .boolean)] [.ref a, .int (nI fr), .int (nI sp1), .int (nI many), .int (nI u - 1)] (fun r u1 => r = nI (mEn my fr sp1 many u) ∧ u1 = [(a, .inr (5, [.int (nI w), .int (nI h), .int (nI (w * h)), .int (nI g), .ref b1, .ref b2, .ref b3, .int (nI bg), .int (nI tl), .int (nI sp), .int (nI th), .ref b4, .ref b5, .ref b6, .ref b7, .ref b8, .ref b9, .int (nI isf)])), (b1, .inl (cL, 36, .inl (nA ba))), (b2, .inl (cL, 36, .inl (nA vi))), (b3, .inl (cI, 36, .inl (nA to))), (b4, .inl (cI, 6, .inl (mA rw))), (b5, .inl (cI, 6, .inl (mA li))), (b6, .inl (cI, 36, .inl (nA gi))), (b7, .inl (cI, 36, .inl (nA fl))), (b8, .inl (cI, 36, .inl (nA fo))), (b9, .inl (cI, 36, .inl (nA my)))]) := by
  refine en_of (cc := b_MD_enough) (Qc := qI D [(cI, .int), (cL, .boolean)] (fun r u1 => r = nI (mEn my fr sp1 many u) ∧ u1 = [(a, .inr (5, [.int (nI w), .int (nI h), .int (nI (w * h)), .int (nI g), .ref b1, .ref b2, .ref b3, .int (nI bg), .int (nI tl), .int (nI sp), .int (nI th), .ref b4, .ref b5, .ref b6, .ref b7, .ref b8, .ref b9, .int (nI isf)])), (b1, .inl (cL, 36, .inl (nA ba))), (b2, .inl (cL, 36, .inl (nA vi))), (b3, .inl (cI, 36, .inl (nA to))), (b4, .inl (cI, 6, .inl (mA rw))), (b5, .inl (cI, 6, .inl (mA li))), (b6, .inl (cI, 36, .inl (nA gi))), (b7, .inl (cI, 36, .inl (nA fl))), (b8, .inl (cI, 36, .inl (nA fo))), (b9, .inl (cI, 36, .inl (nA my)))])) (by decide) rfl (Nat.le_of_ble_eq_true rfl) ?_
  intro p e s m below meth c A E hnm hP hD hS ls hl
  have hl : lv_has ls 9 [(0, .ref a), (1, .int (nI fr)), (2, .int (nI sp1)), (3, .int (nI many)), (4, .int (nI u - 1))] := hl
  obtain ⟨hx, hb, hml, hown, hts, hr, hlk, hA, hK, hN⟩ := id E
  have ho : ∀ q ∈ Om, q.before _ s = true := fun q h => hts q (List.mem_cons_of_mem _ h)
  refine lv_iconst (v := nI 0) hx hb d_MD_enough_0 (by decide) ?_
  refine lv_istore (lv' := [(5, .int (nI 0)), (0, .ref a), (1, .int (nI fr)), (2, .int (nI sp1)), (3, .int (nI many)), (4, .int (nI u - 1))]) hx hb d_MD_enough_1 hl (by decide) rfl (fun ls hl => ?_)
  refine lv_iconst (v := nI 0) hx hb d_MD_enough_3 (by decide) ?_
  refine lv_istore (lv' := [(6, .int (nI 0)), (5, .int (nI 0)), (0, .ref a), (1, .int (nI fr)), (2, .int (nI sp1)), (3, .int (nI many)), (4, .int (nI u - 1))]) hx hb d_MD_enough_4 hl (by decide) rfl (fun ls hl => ?_)
  refine lv_iconst (v := nI 0) hx hb d_MD_enough_6 (by decide) ?_
  refine lv_istore (lv' := [(7, .int (nI 0)), (6, .int (nI 0)), (5, .int (nI 0)), (0, .ref a), (1, .int (nI fr)), (2, .int (nI sp1)), (3, .int (nI many)), (4, .int (nI u - 1))]) hx hb d_MD_enough_7 hl (by decide) rfl (fun ls hl => ?_)
  exact L_MD_enough a b1 b2 b3 b4 b5 b6 b7 b8 b9 w h g bg tl sp th isf ba vi to rw li gi fl fo my fr sp1 many u hmany hidx hu hmy E 7 0 0 0 (by omega) (by omega) (by omega) (by omega) ⟨rfl, rfl⟩ _ _ hP hD hS ls (lv_sub hl [3, 4, 5, 6, 7, 2, 1, 0] rfl)
def mMy (w n g : Nat) (fl gi : Nat → Nat) (u : Nat) : Nat → Nat → (Nat → Nat) → Nat → Nat
  | 0, _, my => my
  | m + 1, c, my => if c < n then mMy w n g fl gi u m (c + 1) (va_up my c (mFree w n g fl gi c u)) else my
def mZr (n : Nat) (my : Nat → Nat) : Nat → Nat → Nat
  | 0, _ => 1
  | m + 1, c => if c < n then (if my c = 0 then 0 else mZr n my m (c + 1)) else 1
def mRo (w h : Nat) (my : Nat → Nat) (u : Nat) : Nat → Nat → Nat
  | 0, _ => 1
  | m + 1, y => if y < h then (if mEn my (w * y) 1 w u = 0 then 0 else mRo w h my u m (y + 1)) else 1
def mCo (w h : Nat) (my : Nat → Nat) (u : Nat) : Nat → Nat → Nat
  | 0, _ => 1
  | m + 1, x => if x < w then (if mEn my x w h u = 0 then 0 else mCo w h my u m (x + 1)) else 1
/-- the look ahead over what each empty cell may hold -/
def mG2 (w h : Nat) (my : Nat → Nat) (u : Nat) : Nat := if mZr (w * h) my (w * h + 1) u = 0 then 0 else if mRo w h my u 7 0 = 0 then 0 else mCo w h my u 7 0
abbrev mMz (w h g : Nat) (fl gi : Nat → Nat) (u : Nat) (my : Nat → Nat) : Nat → Nat := mMy w (w * h) g fl gi u (w * h + 1) u my
def mGn (w h g : Nat) (fl gi : Nat → Nat) (u : Nat) (my : Nat → Nat) : Nat := mG2 w h (mMz w h g fl gi u my) u
theorem mMy_lt {w n g : Nat} {fl gi : Nat → Nat} {u : Nat} (hg : g ≤ 6) : ∀ m c my, (∀ k, my k < 128) → ∀ k, mMy w n g fl gi u m c my k < 128 := by
  intro m
  induction m with
  | zero => intro c my h; exact h
  | succ m ih =>
    intro c my h
    rw [mMy]
    split
    · exact ih _ _ (up_lt h (mFree_lt hg))
    · exact h
theorem b_01 {P : Nat → Nat → Nat} : True := trivial
theorem ix_row {w h y k : Nat} (hw : w ≤ 6) (hh : h ≤ 6) (hy : y < h) (hk : k < w) : w * y + 1 * k < 36 := by
  have := ce_lt hk hy hw hh
  omega
theorem ix_col {w h x k : Nat} (hw : w ≤ 6) (hh : h ≤ 6) (hx : x < w) (hk : k < h) : x + w * k < 36 := ce_lt hx hk hw hh
set_option maxHeartbeats 1000000 in
set_option maxRecDepth 100000 in
theorem L_MD_gcol {p : Program} {l : Launch} {e : Env} {s : State} {m : MethodId} {args : Array Value} {below : List Frame} {meth : Method} {c : Code} {A : Nat → Prop} {D : va_G} {cI cL : ClassId} {c0 : Cond} {post : Int32 → va_W → Prop} (a b1 b2 b3 b4 b5 b6 b7 b8 b9 w h g bg tl sp th isf : Nat) (ba vi to rw li gi fl fo my : Nat → Nat) (u : Nat) (hu : u ≤ w * h) (hw1 : 1 ≤ w) (hw6 : w ≤ 6) (hh6 : h ≤ 6) (hg : g ≤ 6) (hfl : ∀ k, fl k ≤ 7) (hgi : ∀ k, gi k ≤ 6) (hmy : ∀ k, my k < 128) (E : En p s m args meth c b_MD_goesOn 3 (c0 :: Om) R_MD (some .boolean) A D [(cI, .int), (cL, .boolean)]) : ∀ (m1 : Nat) (x : Nat), x ≤ w → w < x + m1 → post (nI (mCo w h my u m1 x)) [(a, .inr (5, [.int (nI w), .int (nI h), .int (nI (w * h)), .int (nI g), .ref b1, .ref b2, .ref b3, .int (nI bg), .int (nI tl), .int (nI sp), .int (nI th), .ref b4, .ref b5, .ref b6, .ref b7, .ref b8, .ref b9, .int (nI isf)])), (b1, .inl (cL, 36, .inl (nA ba))), (b2, .inl (cL, 36, .inl (nA vi))), (b3, .inl (cI, 36, .inl (nA to))), (b4, .inl (cI, 6, .inl (mA rw))), (b5, .inl (cI, 6, .inl (mA li))), (b6, .inl (cI, 36, .inl (nA gi))), (b7, .inl (cI, 36, .inl (nA fl))), (b8, .inl (cI, 36, .inl (nA fo))), (b9, .inl (cI, 36, .inl (nA my)))] → ∀ (H : Heap) (locs : List Loc), va_P D classes [(a, .inr (5, [.int (nI w), .int (nI h), .int (nI (w * h)), .int (nI g), .ref b1, .ref b2, .ref b3, .int (nI bg), .int (nI tl), .int (nI sp), .int (nI th), .ref b4, .ref b5, .ref b6, .ref b7, .ref b8, .ref b9, .int (nI isf)])), (b1, .inl (cL, 36, .inl (nA ba))), (b2, .inl (cL, 36, .inl (nA vi))), (b3, .inl (cI, 36, .inl (nA to))), (b4, .inl (cI, 6, .inl (mA rw))), (b5, .inl (cI, 6, .inl (mA li))), (b6, .inl (cI, 36, .inl (nA gi))), (b7, .inl (cI, 36, .inl (nA fl))), (b8, .inl (cI, 36, .inl (nA fo))), (b9, .inl (cI, 36, .inl (nA my)))] H → va_D A [(a, .inr (5, [.int (nI w), .int (nI h), .int (nI (w * h)), .int (nI g), .ref b1, .ref b2, .ref b3, .int (nI bg), .int (nI tl), .int (nI sp), .int (nI th), .ref b4, .ref b5, .ref b6, .ref b7, .ref b8, .ref b9, .int (nI isf)])), (b1, .inl (cL, 36, .inl (nA ba))), (b2, .inl (cL, 36, .inl (nA vi))), (b3, .inl (cI, 36, .inl (nA to))), (b4, .inl (cI, 6, .inl (mA rw))), (b5, .inl (cI, 6, .inl (mA li))), (b6, .inl (cI, 36, .inl (nA gi))), (b7, .inl (cI, 36, .inl (nA fl))), (b8, .inl (cI, 36, .inl (nA fo))), (b9, .inl (cI, 36, .inl (nA my)))] → va_S A s.heap H locs → ∀ ls : Array Slot, lv_has ls 3 [(0, .ref a), (1, .int (nI u - 1)), (2, .int (nI x))] → W p l e { frames := 2, cells := 0, slots := 0, locals := 50 } s m args below meth c H locs 0 0 (MQ below (qI D [(cI, .int), (cL, .boolean)] post A) args s 0 0 A) (F0 m 98 ls []) := by
  obtain ⟨hx, hb, hml, hown, hts, hr, hlk, hA, hK, hN⟩ := id E
  have ho : ∀ q ∈ Om, q.before _ s = true := fun q h => hts q (List.mem_cons_of_mem _ h)
  intro m1
  induction m1 with
  | zero =>
    intro x h1 h2 hq
    exact absurd h2 (by omega)
  | succ m1 ih =>
    intro x h1 h2 hq H locs hP hD hS ls hl
    refine lv_iload_n hx hb d_MD_goesOn_98 rfl (lv_at hl 2 rfl) ?_
    refine lv_aload_n hx hb d_MD_goesOn_99 rfl (lv_at hl 0 rfl) ?_
    have h36 := wh36 hw6 hh6
    refine va_get (D := D) (ci := 5) (v := .int (nI w)) (C := R_MD) (T := F_MD) (N := 18) hx hb ho j_MD hown hK hP 0 rfl rfl 0 (by decide) (ho _ kf_MD_42) (fun _ h9 => h9) rfl d_MD_goesOn_100 ?_
    refine nr_icmp_ge (tgt := 131) hx hb d_MD_goesOn_103 (by decide) (by omega) (by omega) (fun h_1 => ?_) (fun h_1 => ?_)
    · refine lv_iconst (v := nI 1) hx hb d_MD_goesOn_131 (by decide) ?_
      exact rt_z E hP hD hS (by decide) (by rw [mCo, if_neg (by omega)] at hq; exact hq) d_MD_goesOn_132
    · refine lv_aload_n hx hb d_MD_goesOn_106 rfl (lv_at hl 0 rfl) ?_
      refine lv_iload_n hx hb d_MD_goesOn_107 rfl (lv_at hl 2 rfl) ?_
      refine lv_aload_n hx hb d_MD_goesOn_108 rfl (lv_at hl 0 rfl) ?_
      refine va_get (D := D) (ci := 5) (v := .int (nI w)) (C := R_MD) (T := F_MD) (N := 18) hx hb ho j_MD hown hK hP 0 rfl rfl 0 (by decide) (ho _ kf_MD_42) (fun _ h9 => h9) rfl d_MD_goesOn_109 ?_
      refine lv_aload_n hx hb d_MD_goesOn_112 rfl (lv_at hl 0 rfl) ?_
      refine va_get (D := D) (ci := 5) (v := .int (nI h)) (C := R_MD) (T := F_MD) (N := 18) hx hb ho j_MD hown hK hP 0 rfl rfl 1 (by decide) (ho _ kf_MD_46) (fun _ h9 => h9) rfl d_MD_goesOn_113 ?_
      refine lv_iload_n hx hb d_MD_goesOn_116 rfl (lv_at hl 1 rfl) ?_
      have he1 := mEn_1 my x w h u
      refine af_i (wc := [(a, .inr (5, [.int (nI w), .int (nI h), .int (nI (w * h)), .int (nI g), .ref b1, .ref b2, .ref b3, .int (nI bg), .int (nI tl), .int (nI sp), .int (nI th), .ref b4, .ref b5, .ref b6, .ref b7, .ref b8, .ref b9, .int (nI isf)])), (b1, .inl (cL, 36, .inl (nA ba))), (b2, .inl (cL, 36, .inl (nA vi))), (b3, .inl (cI, 36, .inl (nA to))), (b4, .inl (cI, 6, .inl (mA rw))), (b5, .inl (cI, 6, .inl (mA li))), (b6, .inl (cI, 36, .inl (nA gi))), (b7, .inl (cI, 36, .inl (nA fl))), (b8, .inl (cI, 36, .inl (nA fo))), (b9, .inl (cI, 36, .inl (nA my)))]) (wr := []) (rest := []) [0, 1, 2, 3, 4, 5, 6, 7, 8, 9] [] hP hD hS hA rfl rfl (by decide) (by decide) (rn_V E (As := [.int (nI x), .int (nI w), .int (nI h), .int (nI u - 1)]) m_MD_enough km_MD_109 (c_MD_enough l D cI cL a b1 b2 b3 b4 b5 b6 b7 b8 b9 w h g bg tl sp th isf ba vi to rw li gi fl fo my x w h u (by omega) (fun k hk => ix_col hw6 hh6 (by omega) hk) (by omega) hmy _) ⟨rfl, rfl, by dsimp only; omega, by dsimp only; omega⟩ (hP.sub [0, 1, 2, 3, 4, 5, 6, 7, 8, 9] rfl) (hD.sub [0, 1, 2, 3, 4, 5, 6, 7, 8, 9] (by decide) rfl) (q0 := 0) (ci := 5) rfl rfl rfl hl.1 rfl (Nat.le_of_ble_eq_true rfl) ⟨Nat.le_of_ble_eq_true rfl, Nat.le_of_ble_eq_true rfl⟩ d_MD_goesOn_117) (fun r_3 u_2 H locs hw hP hD hS => ?_)
      obtain ⟨rfl, rfl⟩ := hw
      have hP : va_P D classes [(a, .inr (5, [.int (nI w), .int (nI h), .int (nI (w * h)), .int (nI g), .ref b1, .ref b2, .ref b3, .int (nI bg), .int (nI tl), .int (nI sp), .int (nI th), .ref b4, .ref b5, .ref b6, .ref b7, .ref b8, .ref b9, .int (nI isf)])), (b1, .inl (cL, 36, .inl (nA ba))), (b2, .inl (cL, 36, .inl (nA vi))), (b3, .inl (cI, 36, .inl (nA to))), (b4, .inl (cI, 6, .inl (mA rw))), (b5, .inl (cI, 6, .inl (mA li))), (b6, .inl (cI, 36, .inl (nA gi))), (b7, .inl (cI, 36, .inl (nA fl))), (b8, .inl (cI, 36, .inl (nA fo))), (b9, .inl (cI, 36, .inl (nA my)))] H := hP
      have hD : va_D A [(a, .inr (5, [.int (nI w), .int (nI h), .int (nI (w * h)), .int (nI g), .ref b1, .ref b2, .ref b3, .int (nI bg), .int (nI tl), .int (nI sp), .int (nI th), .ref b4, .ref b5, .ref b6, .ref b7, .ref b8, .ref b9, .int (nI isf)])), (b1, .inl (cL, 36, .inl (nA ba))), (b2, .inl (cL, 36, .inl (nA vi))), (b3, .inl (cI, 36, .inl (nA to))), (b4, .inl (cI, 6, .inl (mA rw))), (b5, .inl (cI, 6, .inl (mA li))), (b6, .inl (cI, 36, .inl (nA gi))), (b7, .inl (cI, 36, .inl (nA fl))), (b8, .inl (cI, 36, .inl (nA fo))), (b9, .inl (cI, 36, .inl (nA my)))] := hD
      refine nr_if_ne (tgt := 125) hx hb d_MD_goesOn_120 (by decide) (by omega) (fun h_4 => ?_) (fun h_4 => ?_)
      · refine nr_iinc (lv' := [(2, .int (nI (x + 1))), (0, .ref a), (1, .int (nI u - 1))]) hx hb d_MD_goesOn_125 hl (k := 2) rfl (by decide) rfl (fun ls hl => ?_)
        refine lv_goto (tgt := 98) hx hb d_MD_goesOn_128 (by decide) ?_
        exact ih (x + 1) (by omega) (by omega) (by rw [mCo, if_pos (by omega), if_neg (by omega)] at hq; exact hq) _ _ hP hD hS ls (lv_sub hl [1, 2, 0] rfl)
      · refine lv_iconst (v := nI 0) hx hb d_MD_goesOn_123 (by decide) ?_
        exact rt_z E hP hD hS (by decide) (by rw [mCo, if_pos (by omega), if_pos (by omega)] at hq; exact hq) d_MD_goesOn_124
set_option maxHeartbeats 1000000 in
set_option maxRecDepth 100000 in
theorem L_MD_grow {p : Program} {l : Launch} {e : Env} {s : State} {m : MethodId} {args : Array Value} {below : List Frame} {meth : Method} {c : Code} {A : Nat → Prop} {D : va_G} {cI cL : ClassId} {c0 : Cond} {post : Int32 → va_W → Prop} (a b1 b2 b3 b4 b5 b6 b7 b8 b9 w h g bg tl sp th isf : Nat) (ba vi to rw li gi fl fo my : Nat → Nat) (u : Nat) (hu : u ≤ w * h) (hw1 : 1 ≤ w) (hw6 : w ≤ 6) (hh6 : h ≤ 6) (hg : g ≤ 6) (hfl : ∀ k, fl k ≤ 7) (hgi : ∀ k, gi k ≤ 6) (hmy : ∀ k, my k < 128) (E : En p s m args meth c b_MD_goesOn 3 (c0 :: Om) R_MD (some .boolean) A D [(cI, .int), (cL, .boolean)]) : ∀ (m1 : Nat) (y : Nat), y ≤ h → h < y + m1 → post (nI (if mRo w h my u m1 y = 0 then 0 else mCo w h my u 7 0)) [(a, .inr (5, [.int (nI w), .int (nI h), .int (nI (w * h)), .int (nI g), .ref b1, .ref b2, .ref b3, .int (nI bg), .int (nI tl), .int (nI sp), .int (nI th), .ref b4, .ref b5, .ref b6, .ref b7, .ref b8, .ref b9, .int (nI isf)])), (b1, .inl (cL, 36, .inl (nA ba))), (b2, .inl (cL, 36, .inl (nA vi))), (b3, .inl (cI, 36, .inl (nA to))), (b4, .inl (cI, 6, .inl (mA rw))), (b5, .inl (cI, 6, .inl (mA li))), (b6, .inl (cI, 36, .inl (nA gi))), (b7, .inl (cI, 36, .inl (nA fl))), (b8, .inl (cI, 36, .inl (nA fo))), (b9, .inl (cI, 36, .inl (nA my)))] → ∀ (H : Heap) (locs : List Loc), va_P D classes [(a, .inr (5, [.int (nI w), .int (nI h), .int (nI (w * h)), .int (nI g), .ref b1, .ref b2, .ref b3, .int (nI bg), .int (nI tl), .int (nI sp), .int (nI th), .ref b4, .ref b5, .ref b6, .ref b7, .ref b8, .ref b9, .int (nI isf)])), (b1, .inl (cL, 36, .inl (nA ba))), (b2, .inl (cL, 36, .inl (nA vi))), (b3, .inl (cI, 36, .inl (nA to))), (b4, .inl (cI, 6, .inl (mA rw))), (b5, .inl (cI, 6, .inl (mA li))), (b6, .inl (cI, 36, .inl (nA gi))), (b7, .inl (cI, 36, .inl (nA fl))), (b8, .inl (cI, 36, .inl (nA fo))), (b9, .inl (cI, 36, .inl (nA my)))] H → va_D A [(a, .inr (5, [.int (nI w), .int (nI h), .int (nI (w * h)), .int (nI g), .ref b1, .ref b2, .ref b3, .int (nI bg), .int (nI tl), .int (nI sp), .int (nI th), .ref b4, .ref b5, .ref b6, .ref b7, .ref b8, .ref b9, .int (nI isf)])), (b1, .inl (cL, 36, .inl (nA ba))), (b2, .inl (cL, 36, .inl (nA vi))), (b3, .inl (cI, 36, .inl (nA to))), (b4, .inl (cI, 6, .inl (mA rw))), (b5, .inl (cI, 6, .inl (mA li))), (b6, .inl (cI, 36, .inl (nA gi))), (b7, .inl (cI, 36, .inl (nA fl))), (b8, .inl (cI, 36, .inl (nA fo))), (b9, .inl (cI, 36, .inl (nA my)))] → va_S A s.heap H locs → ∀ ls : Array Slot, lv_has ls 3 [(0, .ref a), (1, .int (nI u - 1)), (2, .int (nI y))] → W p l e { frames := 2, cells := 0, slots := 0, locals := 50 } s m args below meth c H locs 0 0 (MQ below (qI D [(cI, .int), (cL, .boolean)] post A) args s 0 0 A) (F0 m 61 ls []) := by
  obtain ⟨hx, hb, hml, hown, hts, hr, hlk, hA, hK, hN⟩ := id E
  have ho : ∀ q ∈ Om, q.before _ s = true := fun q h => hts q (List.mem_cons_of_mem _ h)
  intro m1
  induction m1 with
  | zero =>
    intro y h1 h2 hq
    exact absurd h2 (by omega)
  | succ m1 ih =>
    intro y h1 h2 hq H locs hP hD hS ls hl
    refine lv_iload_n hx hb d_MD_goesOn_61 rfl (lv_at hl 2 rfl) ?_
    have h36 := wh36 hw6 hh6
    refine lv_aload_n hx hb d_MD_goesOn_62 rfl (lv_at hl 0 rfl) ?_
    refine va_get (D := D) (ci := 5) (v := .int (nI h)) (C := R_MD) (T := F_MD) (N := 18) hx hb ho j_MD hown hK hP 0 rfl rfl 1 (by decide) (ho _ kf_MD_46) (fun _ h9 => h9) rfl d_MD_goesOn_63 ?_
    refine nr_icmp_ge (tgt := 96) hx hb d_MD_goesOn_66 (by decide) (by omega) (by omega) (fun h_1 => ?_) (fun h_1 => ?_)
    · refine lv_iconst (v := nI 0) hx hb d_MD_goesOn_96 (by decide) ?_
      refine lv_istore_n (lv' := [(2, .int (nI 0)), (0, .ref a), (1, .int (nI u - 1))]) hx hb d_MD_goesOn_97 rfl hl (by decide) rfl (fun ls hl => ?_)
      exact L_MD_gcol a b1 b2 b3 b4 b5 b6 b7 b8 b9 w h g bg tl sp th isf ba vi to rw li gi fl fo my u hu hw1 hw6 hh6 hg hfl hgi hmy E 7 0 (by omega) (by omega) (by rw [show mRo w h my u (m1 + 1) y = 1 by rw [mRo, if_neg (by omega)], if_neg (by decide)] at hq; exact hq) _ _ hP hD hS ls (lv_sub hl [1, 2, 0] rfl)
    · refine lv_aload_n hx hb d_MD_goesOn_69 rfl (lv_at hl 0 rfl) ?_
      refine lv_aload_n hx hb d_MD_goesOn_70 rfl (lv_at hl 0 rfl) ?_
      refine va_get (D := D) (ci := 5) (v := .int (nI w)) (C := R_MD) (T := F_MD) (N := 18) hx hb ho j_MD hown hK hP 0 rfl rfl 0 (by decide) (ho _ kf_MD_42) (fun _ h9 => h9) rfl d_MD_goesOn_71 ?_
      refine lv_iload_n hx hb d_MD_goesOn_74 rfl (lv_at hl 2 rfl) ?_
      refine nr_imul hx hb d_MD_goesOn_75 ?_
      refine lv_iconst (v := nI 1) hx hb d_MD_goesOn_76 (by decide) ?_
      refine lv_aload_n hx hb d_MD_goesOn_77 rfl (lv_at hl 0 rfl) ?_
      refine va_get (D := D) (ci := 5) (v := .int (nI w)) (C := R_MD) (T := F_MD) (N := 18) hx hb ho j_MD hown hK hP 0 rfl rfl 0 (by decide) (ho _ kf_MD_42) (fun _ h9 => h9) rfl d_MD_goesOn_78 ?_
      refine lv_iload_n hx hb d_MD_goesOn_81 rfl (lv_at hl 1 rfl) ?_
      have he1 := mEn_1 my (w * y) 1 w u
      refine af_i (wc := [(a, .inr (5, [.int (nI w), .int (nI h), .int (nI (w * h)), .int (nI g), .ref b1, .ref b2, .ref b3, .int (nI bg), .int (nI tl), .int (nI sp), .int (nI th), .ref b4, .ref b5, .ref b6, .ref b7, .ref b8, .ref b9, .int (nI isf)])), (b1, .inl (cL, 36, .inl (nA ba))), (b2, .inl (cL, 36, .inl (nA vi))), (b3, .inl (cI, 36, .inl (nA to))), (b4, .inl (cI, 6, .inl (mA rw))), (b5, .inl (cI, 6, .inl (mA li))), (b6, .inl (cI, 36, .inl (nA gi))), (b7, .inl (cI, 36, .inl (nA fl))), (b8, .inl (cI, 36, .inl (nA fo))), (b9, .inl (cI, 36, .inl (nA my)))]) (wr := []) (rest := []) [0, 1, 2, 3, 4, 5, 6, 7, 8, 9] [] hP hD hS hA rfl rfl (by decide) (by decide) (rn_V E (As := [.int (nI (w * y)), .int (nI 1), .int (nI w), .int (nI u - 1)]) m_MD_enough km_MD_109 (c_MD_enough l D cI cL a b1 b2 b3 b4 b5 b6 b7 b8 b9 w h g bg tl sp th isf ba vi to rw li gi fl fo my (w * y) 1 w u (by omega) (fun k hk => ix_row hw6 hh6 (by omega) hk) (by omega) hmy _) ⟨rfl, rfl, by dsimp only; omega, by dsimp only; omega⟩ (hP.sub [0, 1, 2, 3, 4, 5, 6, 7, 8, 9] rfl) (hD.sub [0, 1, 2, 3, 4, 5, 6, 7, 8, 9] (by decide) rfl) (q0 := 0) (ci := 5) rfl rfl rfl hl.1 rfl (Nat.le_of_ble_eq_true rfl) ⟨Nat.le_of_ble_eq_true rfl, Nat.le_of_ble_eq_true rfl⟩ d_MD_goesOn_82) (fun r_3 u_2 H locs hw hP hD hS => ?_)
      obtain ⟨rfl, rfl⟩ := hw
      have hP : va_P D classes [(a, .inr (5, [.int (nI w), .int (nI h), .int (nI (w * h)), .int (nI g), .ref b1, .ref b2, .ref b3, .int (nI bg), .int (nI tl), .int (nI sp), .int (nI th), .ref b4, .ref b5, .ref b6, .ref b7, .ref b8, .ref b9, .int (nI isf)])), (b1, .inl (cL, 36, .inl (nA ba))), (b2, .inl (cL, 36, .inl (nA vi))), (b3, .inl (cI, 36, .inl (nA to))), (b4, .inl (cI, 6, .inl (mA rw))), (b5, .inl (cI, 6, .inl (mA li))), (b6, .inl (cI, 36, .inl (nA gi))), (b7, .inl (cI, 36, .inl (nA fl))), (b8, .inl (cI, 36, .inl (nA fo))), (b9, .inl (cI, 36, .inl (nA my)))] H := hP
      have hD : va_D A [(a, .inr (5, [.int (nI w), .int (nI h), .int (nI (w * h)), .int (nI g), .ref b1, .ref b2, .ref b3, .int (nI bg), .int (nI tl), .int (nI sp), .int (nI th), .ref b4, .ref b5, .ref b6, .ref b7, .ref b8, .ref b9, .int (nI isf)])), (b1, .inl (cL, 36, .inl (nA ba))), (b2, .inl (cL, 36, .inl (nA vi))), (b3, .inl (cI, 36, .inl (nA to))), (b4, .inl (cI, 6, .inl (mA rw))), (b5, .inl (cI, 6, .inl (mA li))), (b6, .inl (cI, 36, .inl (nA gi))), (b7, .inl (cI, 36, .inl (nA fl))), (b8, .inl (cI, 36, .inl (nA fo))), (b9, .inl (cI, 36, .inl (nA my)))] := hD
      refine nr_if_ne (tgt := 90) hx hb d_MD_goesOn_85 (by decide) (by omega) (fun h_4 => ?_) (fun h_4 => ?_)
      · refine nr_iinc (lv' := [(2, .int (nI (y + 1))), (0, .ref a), (1, .int (nI u - 1))]) hx hb d_MD_goesOn_90 hl (k := 2) rfl (by decide) rfl (fun ls hl => ?_)
        refine lv_goto (tgt := 61) hx hb d_MD_goesOn_93 (by decide) ?_
        exact ih (y + 1) (by omega) (by omega) (by rw [show mRo w h my u (m1 + 1) y = mRo w h my u m1 (y + 1) by rw [mRo, if_pos (by omega), if_neg (by omega)]] at hq; exact hq) _ _ hP hD hS ls (lv_sub hl [1, 2, 0] rfl)
      · refine lv_iconst (v := nI 0) hx hb d_MD_goesOn_88 (by decide) ?_
        exact rt_z E hP hD hS (by decide) (by rw [show mRo w h my u (m1 + 1) y = 0 by rw [mRo, if_pos (by omega), if_pos (by omega)], if_pos rfl] at hq; exact hq) d_MD_goesOn_89
set_option maxHeartbeats 1000000 in
set_option maxRecDepth 100000 in
theorem L_MD_gzer {p : Program} {l : Launch} {e : Env} {s : State} {m : MethodId} {args : Array Value} {below : List Frame} {meth : Method} {c : Code} {A : Nat → Prop} {D : va_G} {cI cL : ClassId} {c0 : Cond} {post : Int32 → va_W → Prop} (a b1 b2 b3 b4 b5 b6 b7 b8 b9 w h g bg tl sp th isf : Nat) (ba vi to rw li gi fl fo my : Nat → Nat) (u : Nat) (hu : u ≤ w * h) (hw1 : 1 ≤ w) (hw6 : w ≤ 6) (hh6 : h ≤ 6) (hg : g ≤ 6) (hfl : ∀ k, fl k ≤ 7) (hgi : ∀ k, gi k ≤ 6) (hmy : ∀ k, my k < 128) (E : En p s m args meth c b_MD_goesOn 3 (c0 :: Om) R_MD (some .boolean) A D [(cI, .int), (cL, .boolean)]) : ∀ (m1 : Nat) (cc0 : Nat), cc0 ≤ w * h → w * h < cc0 + m1 → post (nI (if mZr (w * h) my m1 cc0 = 0 then 0 else if mRo w h my u 7 0 = 0 then 0 else mCo w h my u 7 0)) [(a, .inr (5, [.int (nI w), .int (nI h), .int (nI (w * h)), .int (nI g), .ref b1, .ref b2, .ref b3, .int (nI bg), .int (nI tl), .int (nI sp), .int (nI th), .ref b4, .ref b5, .ref b6, .ref b7, .ref b8, .ref b9, .int (nI isf)])), (b1, .inl (cL, 36, .inl (nA ba))), (b2, .inl (cL, 36, .inl (nA vi))), (b3, .inl (cI, 36, .inl (nA to))), (b4, .inl (cI, 6, .inl (mA rw))), (b5, .inl (cI, 6, .inl (mA li))), (b6, .inl (cI, 36, .inl (nA gi))), (b7, .inl (cI, 36, .inl (nA fl))), (b8, .inl (cI, 36, .inl (nA fo))), (b9, .inl (cI, 36, .inl (nA my)))] → ∀ (H : Heap) (locs : List Loc), va_P D classes [(a, .inr (5, [.int (nI w), .int (nI h), .int (nI (w * h)), .int (nI g), .ref b1, .ref b2, .ref b3, .int (nI bg), .int (nI tl), .int (nI sp), .int (nI th), .ref b4, .ref b5, .ref b6, .ref b7, .ref b8, .ref b9, .int (nI isf)])), (b1, .inl (cL, 36, .inl (nA ba))), (b2, .inl (cL, 36, .inl (nA vi))), (b3, .inl (cI, 36, .inl (nA to))), (b4, .inl (cI, 6, .inl (mA rw))), (b5, .inl (cI, 6, .inl (mA li))), (b6, .inl (cI, 36, .inl (nA gi))), (b7, .inl (cI, 36, .inl (nA fl))), (b8, .inl (cI, 36, .inl (nA fo))), (b9, .inl (cI, 36, .inl (nA my)))] H → va_D A [(a, .inr (5, [.int (nI w), .int (nI h), .int (nI (w * h)), .int (nI g), .ref b1, .ref b2, .ref b3, .int (nI bg), .int (nI tl), .int (nI sp), .int (nI th), .ref b4, .ref b5, .ref b6, .ref b7, .ref b8, .ref b9, .int (nI isf)])), (b1, .inl (cL, 36, .inl (nA ba))), (b2, .inl (cL, 36, .inl (nA vi))), (b3, .inl (cI, 36, .inl (nA to))), (b4, .inl (cI, 6, .inl (mA rw))), (b5, .inl (cI, 6, .inl (mA li))), (b6, .inl (cI, 36, .inl (nA gi))), (b7, .inl (cI, 36, .inl (nA fl))), (b8, .inl (cI, 36, .inl (nA fo))), (b9, .inl (cI, 36, .inl (nA my)))] → va_S A s.heap H locs → ∀ ls : Array Slot, lv_has ls 3 [(0, .ref a), (1, .int (nI u - 1)), (2, .int (nI cc0))] → W p l e { frames := 2, cells := 0, slots := 0, locals := 50 } s m args below meth c H locs 0 0 (MQ below (qI D [(cI, .int), (cL, .boolean)] post A) args s 0 0 A) (F0 m 34 ls []) := by
  obtain ⟨hx, hb, hml, hown, hts, hr, hlk, hA, hK, hN⟩ := id E
  have ho : ∀ q ∈ Om, q.before _ s = true := fun q h => hts q (List.mem_cons_of_mem _ h)
  intro m1
  induction m1 with
  | zero =>
    intro cc0 h1 h2 hq
    exact absurd h2 (by omega)
  | succ m1 ih =>
    intro cc0 h1 h2 hq H locs hP hD hS ls hl
    refine lv_iload_n hx hb d_MD_goesOn_34 rfl (lv_at hl 2 rfl) ?_
    have h36 := wh36 hw6 hh6
    have hm9 := hmy cc0
    refine lv_aload_n hx hb d_MD_goesOn_35 rfl (lv_at hl 0 rfl) ?_
    refine va_get (D := D) (ci := 5) (v := .int (nI (w * h))) (C := R_MD) (T := F_MD) (N := 18) hx hb ho j_MD hown hK hP 0 rfl rfl 2 (by decide) (ho _ kf_MD_49) (fun _ h9 => h9) rfl d_MD_goesOn_36 ?_
    refine nr_icmp_ge (tgt := 59) hx hb d_MD_goesOn_39 (by decide) (by omega) (by omega) (fun h_1 => ?_) (fun h_1 => ?_)
    · refine lv_iconst (v := nI 0) hx hb d_MD_goesOn_59 (by decide) ?_
      refine lv_istore_n (lv' := [(2, .int (nI 0)), (0, .ref a), (1, .int (nI u - 1))]) hx hb d_MD_goesOn_60 rfl hl (by decide) rfl (fun ls hl => ?_)
      exact L_MD_grow a b1 b2 b3 b4 b5 b6 b7 b8 b9 w h g bg tl sp th isf ba vi to rw li gi fl fo my u hu hw1 hw6 hh6 hg hfl hgi hmy E 7 0 (by omega) (by omega) (by rw [show mZr (w * h) my (m1 + 1) cc0 = 1 by rw [mZr, if_neg (by omega)], if_neg (by decide)] at hq; exact hq) _ _ hP hD hS ls (lv_sub hl [1, 2, 0] rfl)
    · refine lv_aload_n hx hb d_MD_goesOn_42 rfl (lv_at hl 0 rfl) ?_
      refine va_get (D := D) (ci := 5) (v := .ref b9) (C := R_MD) (T := F_MD) (N := 18) hx hb ho j_MD hown hK hP 0 rfl rfl 16 (by decide) (ho _ kf_MD_35) (fun _ h9 => h9) rfl d_MD_goesOn_43 ?_
      refine lv_iload_n hx hb d_MD_goesOn_46 rfl (lv_at hl 2 rfl) ?_
      refine nr_ialdN hx hb hK hP 9 0 rfl rfl (i := cc0) (by omega) (by decide) d_MD_goesOn_47 ?_
      refine nr_if_ne (tgt := 53) hx hb d_MD_goesOn_48 (by decide) (by omega) (fun h_2 => ?_) (fun h_2 => ?_)
      · refine nr_iinc (lv' := [(2, .int (nI (cc0 + 1))), (0, .ref a), (1, .int (nI u - 1))]) hx hb d_MD_goesOn_53 hl (k := 2) rfl (by decide) rfl (fun ls hl => ?_)
        refine lv_goto (tgt := 34) hx hb d_MD_goesOn_56 (by decide) ?_
        exact ih (cc0 + 1) (by omega) (by omega) (by rw [show mZr (w * h) my (m1 + 1) cc0 = mZr (w * h) my m1 (cc0 + 1) by rw [mZr, if_pos (by omega), if_neg (by omega)]] at hq; exact hq) _ _ hP hD hS ls (lv_sub hl [1, 2, 0] rfl)
      · refine lv_iconst (v := nI 0) hx hb d_MD_goesOn_51 (by decide) ?_
        exact rt_z E hP hD hS (by decide) (by rw [show mZr (w * h) my (m1 + 1) cc0 = 0 by rw [mZr, if_pos (by omega), if_pos (by omega)], if_pos rfl] at hq; exact hq) d_MD_goesOn_52
set_option maxHeartbeats 1000000 in
set_option maxRecDepth 100000 in
theorem L_MD_gmay {p : Program} {l : Launch} {e : Env} {s : State} {m : MethodId} {args : Array Value} {below : List Frame} {meth : Method} {c : Code} {A : Nat → Prop} {D : va_G} {cI cL : ClassId} {c0 : Cond} {post : Int32 → va_W → Prop} (a b1 b2 b3 b4 b5 b6 b7 b8 b9 w h g bg tl sp th isf : Nat) (ba vi to rw li gi fl fo : Nat → Nat) (u : Nat) (hu : u ≤ w * h) (hw1 : 1 ≤ w) (hw6 : w ≤ 6) (hh6 : h ≤ 6) (hg : g ≤ 6) (hfl : ∀ k, fl k ≤ 7) (hgi : ∀ k, gi k ≤ 6) (E : En p s m args meth c b_MD_goesOn 3 (c0 :: Om) R_MD (some .boolean) A D [(cI, .int), (cL, .boolean)]) : ∀ (m1 : Nat) (cc0 : Nat) (my : Nat → Nat), cc0 ≤ w * h → w * h < cc0 + m1 → (∀ k, my k < 128) → post (nI (mG2 w h (mMy w (w * h) g fl gi u m1 cc0 my) u)) [(a, .inr (5, [.int (nI w), .int (nI h), .int (nI (w * h)), .int (nI g), .ref b1, .ref b2, .ref b3, .int (nI bg), .int (nI tl), .int (nI sp), .int (nI th), .ref b4, .ref b5, .ref b6, .ref b7, .ref b8, .ref b9, .int (nI isf)])), (b1, .inl (cL, 36, .inl (nA ba))), (b2, .inl (cL, 36, .inl (nA vi))), (b3, .inl (cI, 36, .inl (nA to))), (b4, .inl (cI, 6, .inl (mA rw))), (b5, .inl (cI, 6, .inl (mA li))), (b6, .inl (cI, 36, .inl (nA gi))), (b7, .inl (cI, 36, .inl (nA fl))), (b8, .inl (cI, 36, .inl (nA fo))), (b9, .inl (cI, 36, .inl (nA (mMy w (w * h) g fl gi u m1 cc0 my))))] → ∀ (H : Heap) (locs : List Loc), va_P D classes [(a, .inr (5, [.int (nI w), .int (nI h), .int (nI (w * h)), .int (nI g), .ref b1, .ref b2, .ref b3, .int (nI bg), .int (nI tl), .int (nI sp), .int (nI th), .ref b4, .ref b5, .ref b6, .ref b7, .ref b8, .ref b9, .int (nI isf)])), (b1, .inl (cL, 36, .inl (nA ba))), (b2, .inl (cL, 36, .inl (nA vi))), (b3, .inl (cI, 36, .inl (nA to))), (b4, .inl (cI, 6, .inl (mA rw))), (b5, .inl (cI, 6, .inl (mA li))), (b6, .inl (cI, 36, .inl (nA gi))), (b7, .inl (cI, 36, .inl (nA fl))), (b8, .inl (cI, 36, .inl (nA fo))), (b9, .inl (cI, 36, .inl (nA my)))] H → va_D A [(a, .inr (5, [.int (nI w), .int (nI h), .int (nI (w * h)), .int (nI g), .ref b1, .ref b2, .ref b3, .int (nI bg), .int (nI tl), .int (nI sp), .int (nI th), .ref b4, .ref b5, .ref b6, .ref b7, .ref b8, .ref b9, .int (nI isf)])), (b1, .inl (cL, 36, .inl (nA ba))), (b2, .inl (cL, 36, .inl (nA vi))), (b3, .inl (cI, 36, .inl (nA to))), (b4, .inl (cI, 6, .inl (mA rw))), (b5, .inl (cI, 6, .inl (mA li))), (b6, .inl (cI, 36, .inl (nA gi))), (b7, .inl (cI, 36, .inl (nA fl))), (b8, .inl (cI, 36, .inl (nA fo))), (b9, .inl (cI, 36, .inl (nA my)))] → va_S A s.heap H locs → ∀ ls : Array Slot, lv_has ls 3 [(0, .ref a), (1, .int (nI u - 1)), (2, .int (nI cc0))] → W p l e { frames := 2, cells := 0, slots := 0, locals := 50 } s m args below meth c H locs 0 0 (MQ below (qI D [(cI, .int), (cL, .boolean)] post A) args s 0 0 A) (F0 m 4 ls []) := by
  obtain ⟨hx, hb, hml, hown, hts, hr, hlk, hA, hK, hN⟩ := id E
  have ho : ∀ q ∈ Om, q.before _ s = true := fun q h => hts q (List.mem_cons_of_mem _ h)
  intro m1
  induction m1 with
  | zero =>
    intro cc0 my h1 h2 hmy hq
    exact absurd h2 (by omega)
  | succ m1 ih =>
    intro cc0 my h1 h2 hmy hq H locs hP hD hS ls hl
    refine lv_iload_n hx hb d_MD_goesOn_4 rfl (lv_at hl 2 rfl) ?_
    have h36 := wh36 hw6 hh6
    refine lv_aload_n hx hb d_MD_goesOn_5 rfl (lv_at hl 0 rfl) ?_
    refine va_get (D := D) (ci := 5) (v := .int (nI (w * h))) (C := R_MD) (T := F_MD) (N := 18) hx hb ho j_MD hown hK hP 0 rfl rfl 2 (by decide) (ho _ kf_MD_49) (fun _ h9 => h9) rfl d_MD_goesOn_6 ?_
    refine nr_icmp_ge (tgt := 30) hx hb d_MD_goesOn_9 (by decide) (by omega) (by omega) (fun h_1 => ?_) (fun h_1 => ?_)
    · refine lv_iload_n hx hb d_MD_goesOn_30 rfl (lv_at hl 1 rfl) ?_
      refine lv_iconst (v := 1) hx hb d_MD_goesOn_31 (by decide) ?_
      refine lv_iadd hx hb d_MD_goesOn_32 ?_
      rw [show nI u - 1 + 1 = nI u from Int32.sub_add_cancel _ _]
      refine lv_istore_n (lv' := [(2, .int (nI u)), (0, .ref a), (1, .int (nI u - 1))]) hx hb d_MD_goesOn_33 rfl hl (by decide) rfl (fun ls hl => ?_)
      exact L_MD_gzer a b1 b2 b3 b4 b5 b6 b7 b8 b9 w h g bg tl sp th isf ba vi to rw li gi fl fo my u hu hw1 hw6 hh6 hg hfl hgi hmy E (w * h + 1) u (by omega) (by omega) (by rw [show mMy w (w * h) g fl gi u (m1 + 1) cc0 my = my by rw [mMy, if_neg (by omega)]] at hq; exact hq) _ _ hP hD hS ls (lv_sub hl [1, 2, 0] rfl)
    · refine lv_aload_n hx hb d_MD_goesOn_12 rfl (lv_at hl 0 rfl) ?_
      refine va_get (D := D) (ci := 5) (v := .ref b9) (C := R_MD) (T := F_MD) (N := 18) hx hb ho j_MD hown hK hP 0 rfl rfl 16 (by decide) (ho _ kf_MD_35) (fun _ h9 => h9) rfl d_MD_goesOn_13 ?_
      refine lv_iload_n hx hb d_MD_goesOn_16 rfl (lv_at hl 2 rfl) ?_
      refine lv_aload_n hx hb d_MD_goesOn_17 rfl (lv_at hl 0 rfl) ?_
      refine lv_iload_n hx hb d_MD_goesOn_18 rfl (lv_at hl 2 rfl) ?_
      refine lv_iload_n hx hb d_MD_goesOn_19 rfl (lv_at hl 1 rfl) ?_
      refine af_i (wc := [(a, .inr (5, [.int (nI w), .int (nI h), .int (nI (w * h)), .int (nI g), .ref b1, .ref b2, .ref b3, .int (nI bg), .int (nI tl), .int (nI sp), .int (nI th), .ref b4, .ref b5, .ref b6, .ref b7, .ref b8, .ref b9, .int (nI isf)])), (b1, .inl (cL, 36, .inl (nA ba))), (b2, .inl (cL, 36, .inl (nA vi))), (b3, .inl (cI, 36, .inl (nA to))), (b4, .inl (cI, 6, .inl (mA rw))), (b5, .inl (cI, 6, .inl (mA li))), (b6, .inl (cI, 36, .inl (nA gi))), (b7, .inl (cI, 36, .inl (nA fl))), (b8, .inl (cI, 36, .inl (nA fo))), (b9, .inl (cI, 36, .inl (nA my)))]) (wr := []) (rest := [.int (nI cc0), .ref b9]) [0, 1, 2, 3, 4, 5, 6, 7, 8, 9] [] hP hD hS hA rfl rfl (by decide) (by decide) (rn_V E (As := [.int (nI cc0), .int (nI u - 1)]) m_MD_free km_MD_106 (c_MD_free l D cI cL a b1 b2 b3 b4 b5 b6 b7 b8 b9 w h g bg tl sp th isf ba vi to rw li gi fl fo my cc0 u (by omega) (by omega) hw1 hw6 hh6 hg hfl hgi _) ⟨rfl, rfl, by dsimp only; omega, by dsimp only; omega⟩ (hP.sub [0, 1, 2, 3, 4, 5, 6, 7, 8, 9] rfl) (hD.sub [0, 1, 2, 3, 4, 5, 6, 7, 8, 9] (by decide) rfl) (q0 := 0) (ci := 5) rfl rfl rfl hl.1 rfl (Nat.le_of_ble_eq_true rfl) ⟨Nat.le_of_ble_eq_true rfl, Nat.le_of_ble_eq_true rfl⟩ d_MD_goesOn_20) (fun r_3 u_2 H locs hw hP hD hS => ?_)
      obtain ⟨rfl, rfl⟩ := hw
      have hP : va_P D classes [(a, .inr (5, [.int (nI w), .int (nI h), .int (nI (w * h)), .int (nI g), .ref b1, .ref b2, .ref b3, .int (nI bg), .int (nI tl), .int (nI sp), .int (nI th), .ref b4, .ref b5, .ref b6, .ref b7, .ref b8, .ref b9, .int (nI isf)])), (b1, .inl (cL, 36, .inl (nA ba))), (b2, .inl (cL, 36, .inl (nA vi))), (b3, .inl (cI, 36, .inl (nA to))), (b4, .inl (cI, 6, .inl (mA rw))), (b5, .inl (cI, 6, .inl (mA li))), (b6, .inl (cI, 36, .inl (nA gi))), (b7, .inl (cI, 36, .inl (nA fl))), (b8, .inl (cI, 36, .inl (nA fo))), (b9, .inl (cI, 36, .inl (nA my)))] H := hP
      have hD : va_D A [(a, .inr (5, [.int (nI w), .int (nI h), .int (nI (w * h)), .int (nI g), .ref b1, .ref b2, .ref b3, .int (nI bg), .int (nI tl), .int (nI sp), .int (nI th), .ref b4, .ref b5, .ref b6, .ref b7, .ref b8, .ref b9, .int (nI isf)])), (b1, .inl (cL, 36, .inl (nA ba))), (b2, .inl (cL, 36, .inl (nA vi))), (b3, .inl (cI, 36, .inl (nA to))), (b4, .inl (cI, 6, .inl (mA rw))), (b5, .inl (cI, 6, .inl (mA li))), (b6, .inl (cI, 36, .inl (nA gi))), (b7, .inl (cI, 36, .inl (nA fl))), (b8, .inl (cI, 36, .inl (nA fo))), (b9, .inl (cI, 36, .inl (nA my)))] := hD
      refine nr_iast hx hb hK hP hD hS 9 0 rfl rfl (i := cc0) (x := mFree w (w * h) g fl gi cc0 u) (by omega) (by decide) d_MD_goesOn_23 (fun H locs hP hD hS => ?_)
      have hP : va_P D classes [(a, .inr (5, [.int (nI w), .int (nI h), .int (nI (w * h)), .int (nI g), .ref b1, .ref b2, .ref b3, .int (nI bg), .int (nI tl), .int (nI sp), .int (nI th), .ref b4, .ref b5, .ref b6, .ref b7, .ref b8, .ref b9, .int (nI isf)])), (b1, .inl (cL, 36, .inl (nA ba))), (b2, .inl (cL, 36, .inl (nA vi))), (b3, .inl (cI, 36, .inl (nA to))), (b4, .inl (cI, 6, .inl (mA rw))), (b5, .inl (cI, 6, .inl (mA li))), (b6, .inl (cI, 36, .inl (nA gi))), (b7, .inl (cI, 36, .inl (nA fl))), (b8, .inl (cI, 36, .inl (nA fo))), (b9, .inl (cI, 36, .inl (nA (va_up my cc0 (mFree w (w * h) g fl gi cc0 u)))))] H := hP
      have hD : va_D A [(a, .inr (5, [.int (nI w), .int (nI h), .int (nI (w * h)), .int (nI g), .ref b1, .ref b2, .ref b3, .int (nI bg), .int (nI tl), .int (nI sp), .int (nI th), .ref b4, .ref b5, .ref b6, .ref b7, .ref b8, .ref b9, .int (nI isf)])), (b1, .inl (cL, 36, .inl (nA ba))), (b2, .inl (cL, 36, .inl (nA vi))), (b3, .inl (cI, 36, .inl (nA to))), (b4, .inl (cI, 6, .inl (mA rw))), (b5, .inl (cI, 6, .inl (mA li))), (b6, .inl (cI, 36, .inl (nA gi))), (b7, .inl (cI, 36, .inl (nA fl))), (b8, .inl (cI, 36, .inl (nA fo))), (b9, .inl (cI, 36, .inl (nA (va_up my cc0 (mFree w (w * h) g fl gi cc0 u)))))] := hD
      refine nr_iinc (lv' := [(2, .int (nI (cc0 + 1))), (0, .ref a), (1, .int (nI u - 1))]) hx hb d_MD_goesOn_24 hl (k := 2) rfl (by decide) rfl (fun ls hl => ?_)
      refine lv_goto (tgt := 4) hx hb d_MD_goesOn_27 (by decide) ?_
      exact ih (cc0 + 1) (va_up my cc0 (mFree w (w * h) g fl gi cc0 u)) (by omega) (by omega) (up_lt hmy (mFree_lt hg)) (by rw [show mMy w (w * h) g fl gi u (m1 + 1) cc0 my = mMy w (w * h) g fl gi u m1 (cc0 + 1) (va_up my cc0 (mFree w (w * h) g fl gi cc0 u)) by rw [mMy, if_pos (by omega)]] at hq; exact hq) _ _ hP hD hS ls (lv_sub hl [1, 2, 0] rfl)
set_option maxHeartbeats 1000000 in
set_option maxRecDepth 100000 in
theorem c_MD_goesOn (l : Launch) (D : va_G) (cI cL : ClassId) (a b1 b2 b3 b4 b5 b6 b7 b8 b9 w h g bg tl sp th isf : Nat) (ba vi to rw li gi fl fo my : Nat → Nat) (u : Nat) (hu : u ≤ w * h) (hw1 : 1 ≤ w) (hw6 : w ≤ 6) (hh6 : h ≤ 6) (hg : g ≤ 6) (hfl : ∀ k, fl k ≤ 7) (hgi : ∀ k, gi k ≤ 6) (hmy : ∀ k, my k < 128) : CI l y_MD_goesOn (.code y_MD_goesOn b_MD_goesOn 3 (some .boolean) :: Om) { frames := 2, cells := 0, slots := 0, locals := 50 } D [(a, .inr (5, [.int (nI w), .int (nI h), .int (nI (w * h)), .int (nI g), .ref b1, .ref b2, .ref b3, .int (nI bg), .int (nI tl), .int (nI sp), .int (nI th), .ref b4, .ref b5, .ref b6, .ref b7, .ref b8, .ref b9, .int (nI isf)])), (b1, .inl (cL, 36, .inl (nA ba))), (b2, .inl (cL, 36, .inl (nA vi))), (b3, .inl (cI, 36, .inl (nA to))), (b4, .inl (cI, 6, .inl (mA rw))), (b5, .inl (cI, 6, .inl (mA li))), (b6, .inl (cI, 36, .inl (nA gi))), (b7, .inl (cI, 36, .inl (nA fl))), (b8, .inl (cI, 36, .inl (nA fo))), (b9, .inl (cI, 36, .inl (nA my)))] [(cI, .int), (cL, .boolean)] [.ref a, .int (nI u - 1)] (fun r u1 => r = nI (mGn w h g fl gi u my) ∧ u1 = [(a, .inr (5, [.int (nI w), .int (nI h), .int (nI (w * h)), .int (nI g), .ref b1, .ref b2, .ref b3, .int (nI bg), .int (nI tl), .int (nI sp), .int (nI th), .ref b4, .ref b5, .ref b6, .ref b7, .ref b8, .ref b9, .int (nI isf)])), (b1, .inl (cL, 36, .inl (nA ba))), (b2, .inl (cL, 36, .inl (nA vi))), (b3, .inl (cI, 36, .inl (nA to))), (b4, .inl (cI, 6, .inl (mA rw))), (b5, .inl (cI, 6, .inl (mA li))), (b6, .inl (cI, 36, .inl (nA gi))), (b7, .inl (cI, 36, .inl (nA fl))), (b8, .inl (cI, 36, .inl (nA fo))), (b9, .inl (cI, 36, .inl (nA (mMz w h g fl gi u my))))]) := by
  refine en_of (cc := b_MD_goesOn) (Qc := qI D [(cI, .int), (cL, .boolean)] (fun r u1 => r = nI (mGn w h g fl gi u my) ∧ u1 = [(a, .inr (5, [.int (nI w), .int (nI h), .int (nI (w * h)), .int (nI g), .ref b1, .ref b2, .ref b3, .int (nI bg), .int (nI tl), .int (nI sp), .int (nI th), .ref b4, .ref b5, .ref b6, .ref b7, .ref b8, .ref b9, .int (nI isf)])), (b1, .inl (cL, 36, .inl (nA ba))), (b2, .inl (cL, 36, .inl (nA vi))), (b3, .inl (cI, 36, .inl (nA to))), (b4, .inl (cI, 6, .inl (mA rw))), (b5, .inl (cI, 6, .inl (mA li))), (b6, .inl (cI, 36, .inl (nA gi))), (b7, .inl (cI, 36, .inl (nA fl))), (b8, .inl (cI, 36, .inl (nA fo))), (b9, .inl (cI, 36, .inl (nA (mMz w h g fl gi u my))))])) (by decide) rfl (Nat.le_of_ble_eq_true rfl) ?_
  intro p e s m below meth c A E hnm hP hD hS ls hl
  have hl : lv_has ls 3 [(0, .ref a), (1, .int (nI u - 1))] := hl
  obtain ⟨hx, hb, hml, hown, hts, hr, hlk, hA, hK, hN⟩ := id E
  have ho : ∀ q ∈ Om, q.before _ s = true := fun q h => hts q (List.mem_cons_of_mem _ h)
  refine lv_iload_n hx hb d_MD_goesOn_0 rfl (lv_at hl 1 rfl) ?_
  refine lv_iconst (v := 1) hx hb d_MD_goesOn_1 (by decide) ?_
  refine lv_iadd hx hb d_MD_goesOn_2 ?_
  rw [show nI u - 1 + 1 = nI u from Int32.sub_add_cancel _ _]
  refine lv_istore_n (lv' := [(2, .int (nI u)), (0, .ref a), (1, .int (nI u - 1))]) hx hb d_MD_goesOn_3 rfl hl (by decide) rfl (fun ls hl => ?_)
  exact L_MD_gmay a b1 b2 b3 b4 b5 b6 b7 b8 b9 w h g bg tl sp th isf ba vi to rw li gi fl fo u hu hw1 hw6 hh6 hg hfl hgi E (w * h + 1) u my (by omega) (by omega) hmy ⟨rfl, rfl⟩ _ _ hP hD hS ls (lv_sub hl [1, 2, 0] rfl)
def mF1 (w : Nat) (fl gi : Nat → Nat) (k v : Nat) : Nat → Nat → Nat
  | 0, _ => 1
  | m + 1, i => if i < w then (if i + w * (k / w) ≠ k ∧ mAtc fl gi k (i + w * (k / w)) = v then 0 else mF1 w fl gi k v m (i + 1)) else 1
def mF2 (w h : Nat) (fl gi : Nat → Nat) (k v : Nat) : Nat → Nat → Nat
  | 0, _ => if gi k = 0 ∨ gi k = v then 1 else 0
  | m + 1, i => if i < h then (if k % w + w * i ≠ k ∧ mAtc fl gi k (k % w + w * i) = v then 0 else mF2 w h fl gi k v m (i + 1)) else (if gi k = 0 ∨ gi k = v then 1 else 0)
def mFit (w h : Nat) (fl gi : Nat → Nat) (k v : Nat) : Nat := if mF1 w fl gi k v 7 0 = 0 then 0 else mF2 w h fl gi k v 7 0
theorem mF2_1 (w h : Nat) (fl gi : Nat → Nat) (k v : Nat) : ∀ m i, mF2 w h fl gi k v m i ≤ 1 := by
  intro m
  induction m with
  | zero => intro i; rw [mF2]; split <;> omega
  | succ m ih =>
    intro i
    rw [mF2]
    split
    · split
      · omega
      · exact ih _
    · split <;> omega
theorem mFit_1 (w h : Nat) (fl gi : Nat → Nat) (k v : Nat) : mFit w h fl gi k v ≤ 1 := by
  unfold mFit
  split
  · omega
  · exact mF2_1 _ _ _ _ _ _ _ _
theorem dv_lt {w h k : Nat} (hk : k < w * h) : k / w < h := Nat.div_lt_of_lt_mul hk
set_option maxHeartbeats 1000000 in
set_option maxRecDepth 100000 in
theorem L_MD_fit2 {p : Program} {l : Launch} {e : Env} {s : State} {m : MethodId} {args : Array Value} {below : List Frame} {meth : Method} {c : Code} {A : Nat → Prop} {D : va_G} {cI cL : ClassId} {c0 : Cond} {post : Int32 → va_W → Prop} (a b1 b2 b3 b4 b5 b6 b7 b8 b9 w h g bg tl sp th isf : Nat) (ba vi to rw li gi fl fo my : Nat → Nat) (k v : Nat) (hk : k < w * h) (hv : v ≤ 7) (hw1 : 1 ≤ w) (hw6 : w ≤ 6) (hh6 : h ≤ 6) (hg : g ≤ 6) (hfl : ∀ k, fl k ≤ 7) (hgi : ∀ k, gi k ≤ 6) (E : En p s m args meth c b_MD_fits 7 (c0 :: Om) R_MD (some .boolean) A D [(cI, .int), (cL, .boolean)]) : ∀ (m1 : Nat) (i : Nat), i ≤ h → h < i + m1 → post (nI (mF2 w h fl gi k v m1 i)) [(a, .inr (5, [.int (nI w), .int (nI h), .int (nI (w * h)), .int (nI g), .ref b1, .ref b2, .ref b3, .int (nI bg), .int (nI tl), .int (nI sp), .int (nI th), .ref b4, .ref b5, .ref b6, .ref b7, .ref b8, .ref b9, .int (nI isf)])), (b1, .inl (cL, 36, .inl (nA ba))), (b2, .inl (cL, 36, .inl (nA vi))), (b3, .inl (cI, 36, .inl (nA to))), (b4, .inl (cI, 6, .inl (mA rw))), (b5, .inl (cI, 6, .inl (mA li))), (b6, .inl (cI, 36, .inl (nA gi))), (b7, .inl (cI, 36, .inl (nA fl))), (b8, .inl (cI, 36, .inl (nA fo))), (b9, .inl (cI, 36, .inl (nA my)))] → ∀ (H : Heap) (locs : List Loc), va_P D classes [(a, .inr (5, [.int (nI w), .int (nI h), .int (nI (w * h)), .int (nI g), .ref b1, .ref b2, .ref b3, .int (nI bg), .int (nI tl), .int (nI sp), .int (nI th), .ref b4, .ref b5, .ref b6, .ref b7, .ref b8, .ref b9, .int (nI isf)])), (b1, .inl (cL, 36, .inl (nA ba))), (b2, .inl (cL, 36, .inl (nA vi))), (b3, .inl (cI, 36, .inl (nA to))), (b4, .inl (cI, 6, .inl (mA rw))), (b5, .inl (cI, 6, .inl (mA li))), (b6, .inl (cI, 36, .inl (nA gi))), (b7, .inl (cI, 36, .inl (nA fl))), (b8, .inl (cI, 36, .inl (nA fo))), (b9, .inl (cI, 36, .inl (nA my)))] H → va_D A [(a, .inr (5, [.int (nI w), .int (nI h), .int (nI (w * h)), .int (nI g), .ref b1, .ref b2, .ref b3, .int (nI bg), .int (nI tl), .int (nI sp), .int (nI th), .ref b4, .ref b5, .ref b6, .ref b7, .ref b8, .ref b9, .int (nI isf)])), (b1, .inl (cL, 36, .inl (nA ba))), (b2, .inl (cL, 36, .inl (nA vi))), (b3, .inl (cI, 36, .inl (nA to))), (b4, .inl (cI, 6, .inl (mA rw))), (b5, .inl (cI, 6, .inl (mA li))), (b6, .inl (cI, 36, .inl (nA gi))), (b7, .inl (cI, 36, .inl (nA fl))), (b8, .inl (cI, 36, .inl (nA fo))), (b9, .inl (cI, 36, .inl (nA my)))] → va_S A s.heap H locs → ∀ ls : Array Slot, lv_has ls 7 [(0, .ref a), (1, .int (nI k)), (2, .int (nI v)), (3, .int (nI (k % w))), (4, .int (nI (k / w))), (5, .int (nI i))] → W p l e { frames := 0, cells := 0, slots := 0, locals := 0 } s m args below meth c H locs 0 0 (MQ below (qI D [(cI, .int), (cL, .boolean)] post A) args s 0 0 A) (F0 m 83 ls []) := by
  obtain ⟨hx, hb, hml, hown, hts, hr, hlk, hA, hK, hN⟩ := id E
  have ho : ∀ q ∈ Om, q.before _ s = true := fun q h => hts q (List.mem_cons_of_mem _ h)
  intro m1
  induction m1 with
  | zero =>
    intro i h1 h2 hq
    exact absurd h2 (by omega)
  | succ m1 ih =>
    intro i h1 h2 hq H locs hP hD hS ls hl
    refine lv_iload hx hb d_MD_fits_83 (lv_at hl 5 rfl) ?_
    have e2 : k % w < w := Nat.mod_lt _ hw1
    have e4 := dv_lt hk
    have h36 := wh36 hw6 hh6
    refine lv_aload_n hx hb d_MD_fits_85 rfl (lv_at hl 0 rfl) ?_
    refine va_get (D := D) (ci := 5) (v := .int (nI h)) (C := R_MD) (T := F_MD) (N := 18) hx hb ho j_MD hown hK hP 0 rfl rfl 1 (by decide) (ho _ kf_MD_46) (fun _ h9 => h9) rfl d_MD_fits_86 ?_
    refine nr_icmp_ge (tgt := 144) hx hb d_MD_fits_89 (by decide) (by omega) (by omega) (fun h_1 => ?_) (fun h_1 => ?_)
    · have hgk := hgi k
      refine lv_aload_n hx hb d_MD_fits_144 rfl (lv_at hl 0 rfl) ?_
      refine va_get (D := D) (ci := 5) (v := .ref b6) (C := R_MD) (T := F_MD) (N := 18) hx hb ho j_MD hown hK hP 0 rfl rfl 13 (by decide) (ho _ kf_MD_26) (fun _ h9 => h9) rfl d_MD_fits_145 ?_
      refine lv_iload_n hx hb d_MD_fits_148 rfl (lv_at hl 1 rfl) ?_
      refine nr_ialdN hx hb hK hP 6 0 rfl rfl (i := k) (by omega) (by decide) d_MD_fits_149 ?_
      refine nr_if_eq (tgt := 163) hx hb d_MD_fits_150 (by decide) (by omega) (fun h_2 => ?_) (fun h_2 => ?_)
      · refine lv_iconst (v := nI 1) hx hb d_MD_fits_163 (by decide) ?_
        refine lv_goto (tgt := 168) hx hb d_MD_fits_164 (by decide) ?_
        exact rt_z E hP hD hS (by decide) (by rw [mF2, if_neg (by omega), if_pos (by omega)] at hq; exact hq) d_MD_fits_168
      · refine lv_aload_n hx hb d_MD_fits_153 rfl (lv_at hl 0 rfl) ?_
        refine va_get (D := D) (ci := 5) (v := .ref b6) (C := R_MD) (T := F_MD) (N := 18) hx hb ho j_MD hown hK hP 0 rfl rfl 13 (by decide) (ho _ kf_MD_26) (fun _ h9 => h9) rfl d_MD_fits_154 ?_
        refine lv_iload_n hx hb d_MD_fits_157 rfl (lv_at hl 1 rfl) ?_
        refine nr_ialdN hx hb hK hP 6 0 rfl rfl (i := k) (by omega) (by decide) d_MD_fits_158 ?_
        refine lv_iload_n hx hb d_MD_fits_159 rfl (lv_at hl 2 rfl) ?_
        refine nr_icmp_ne (tgt := 167) hx hb d_MD_fits_160 (by decide) (by omega) (by omega) (fun h_3 => ?_) (fun h_3 => ?_)
        · refine lv_iconst (v := nI 0) hx hb d_MD_fits_167 (by decide) ?_
          exact rt_z E hP hD hS (by decide) (by rw [mF2, if_neg (by omega), if_neg (by omega)] at hq; exact hq) d_MD_fits_168
        · refine lv_iconst (v := nI 1) hx hb d_MD_fits_163 (by decide) ?_
          refine lv_goto (tgt := 168) hx hb d_MD_fits_164 (by decide) ?_
          exact rt_z E hP hD hS (by decide) (by rw [mF2, if_neg (by omega), if_pos (by omega)] at hq; exact hq) d_MD_fits_168
    · have hce := ce_in e2 (show i < h by omega)
      have hf9 := hfl (k % w + w * i)
      have hg9 := hgi (k % w + w * i)
      refine lv_iload_n hx hb d_MD_fits_92 rfl (lv_at hl 3 rfl) ?_
      refine lv_aload_n hx hb d_MD_fits_93 rfl (lv_at hl 0 rfl) ?_
      refine va_get (D := D) (ci := 5) (v := .int (nI w)) (C := R_MD) (T := F_MD) (N := 18) hx hb ho j_MD hown hK hP 0 rfl rfl 0 (by decide) (ho _ kf_MD_42) (fun _ h9 => h9) rfl d_MD_fits_94 ?_
      refine lv_iload hx hb d_MD_fits_97 (lv_at hl 5 rfl) ?_
      refine nr_imul hx hb d_MD_fits_99 ?_
      refine nr_iadd hx hb d_MD_fits_100 ?_
      refine lv_istore (lv' := [(6, .int (nI ((k % w) + (w * i)))), (0, .ref a), (1, .int (nI k)), (2, .int (nI v)), (3, .int (nI (k % w))), (4, .int (nI (k / w))), (5, .int (nI i))]) hx hb d_MD_fits_101 hl (by decide) rfl (fun ls hl => ?_)
      refine lv_iload hx hb d_MD_fits_103 (lv_at hl 0 rfl) ?_
      refine lv_iload_n hx hb d_MD_fits_105 rfl (lv_at hl 2 rfl) ?_
      refine nr_icmp_eq (tgt := 138) hx hb d_MD_fits_106 (by decide) (by omega) (by omega) (fun h_4 => ?_) (fun h_4 => ?_)
      · refine nr_iinc (lv' := [(5, .int (nI (i + 1))), (6, .int (nI ((k % w) + (w * i)))), (0, .ref a), (1, .int (nI k)), (2, .int (nI v)), (3, .int (nI (k % w))), (4, .int (nI (k / w)))]) hx hb d_MD_fits_138 hl (k := 6) rfl (by decide) rfl (fun ls hl => ?_)
        refine lv_goto (tgt := 83) hx hb d_MD_fits_141 (by decide) ?_
        exact ih (i + 1) (by omega) (by omega) (by rw [mF2, if_pos (by omega), if_neg (by rintro ⟨z1, z2⟩; first | omega | (rw [show mAtc fl gi k (k % w + w * i) = fl (k % w + w * i) from if_pos (by omega)] at z2; omega) | (rw [show mAtc fl gi k (k % w + w * i) = gi (k % w + w * i) from if_neg (by omega)] at z2; omega))] at hq; exact hq) _ _ hP hD hS ls (lv_sub hl [2, 3, 4, 5, 6, 0] rfl)
      · refine lv_iload hx hb d_MD_fits_109 (lv_at hl 0 rfl) ?_
        refine lv_iload_n hx hb d_MD_fits_111 rfl (lv_at hl 2 rfl) ?_
        refine nr_icmp_ge (tgt := 125) hx hb d_MD_fits_112 (by decide) (by omega) (by omega) (fun h_5 => ?_) (fun h_5 => ?_)
        · refine lv_aload_n hx hb d_MD_fits_125 rfl (lv_at hl 1 rfl) ?_
          refine va_get (D := D) (ci := 5) (v := .ref b6) (C := R_MD) (T := F_MD) (N := 18) hx hb ho j_MD hown hK hP 0 rfl rfl 13 (by decide) (ho _ kf_MD_26) (fun _ h9 => h9) rfl d_MD_fits_126 ?_
          refine lv_iload hx hb d_MD_fits_129 (lv_at hl 0 rfl) ?_
          refine nr_ialdN hx hb hK hP 6 0 rfl rfl (i := (k % w) + (w * i)) (by omega) (by decide) d_MD_fits_131 ?_
          refine lv_iload_n hx hb d_MD_fits_132 rfl (lv_at hl 3 rfl) ?_
          refine nr_icmp_ne (tgt := 138) hx hb d_MD_fits_133 (by decide) (by omega) (by omega) (fun h_6 => ?_) (fun h_6 => ?_)
          · refine nr_iinc (lv' := [(5, .int (nI (i + 1))), (6, .int (nI ((k % w) + (w * i)))), (0, .ref a), (1, .int (nI k)), (2, .int (nI v)), (3, .int (nI (k % w))), (4, .int (nI (k / w)))]) hx hb d_MD_fits_138 hl (k := 6) rfl (by decide) rfl (fun ls hl => ?_)
            refine lv_goto (tgt := 83) hx hb d_MD_fits_141 (by decide) ?_
            exact ih (i + 1) (by omega) (by omega) (by rw [mF2, if_pos (by omega), if_neg (by rintro ⟨z1, z2⟩; first | omega | (rw [show mAtc fl gi k (k % w + w * i) = fl (k % w + w * i) from if_pos (by omega)] at z2; omega) | (rw [show mAtc fl gi k (k % w + w * i) = gi (k % w + w * i) from if_neg (by omega)] at z2; omega))] at hq; exact hq) _ _ hP hD hS ls (lv_sub hl [2, 3, 4, 5, 6, 0] rfl)
          · refine lv_iconst (v := nI 0) hx hb d_MD_fits_136 (by decide) ?_
            exact rt_z E hP hD hS (by decide) (by rw [mF2, if_pos (by omega), if_pos ⟨by omega, by first | (rw [show mAtc fl gi k (k % w + w * i) = fl (k % w + w * i) from if_pos (by omega)]; omega) | (rw [show mAtc fl gi k (k % w + w * i) = gi (k % w + w * i) from if_neg (by omega)]; omega)⟩] at hq; exact hq) d_MD_fits_137
        · refine lv_aload_n hx hb d_MD_fits_115 rfl (lv_at hl 1 rfl) ?_
          refine va_get (D := D) (ci := 5) (v := .ref b7) (C := R_MD) (T := F_MD) (N := 18) hx hb ho j_MD hown hK hP 0 rfl rfl 14 (by decide) (ho _ kf_MD_29) (fun _ h9 => h9) rfl d_MD_fits_116 ?_
          refine lv_iload hx hb d_MD_fits_119 (lv_at hl 0 rfl) ?_
          refine nr_ialdN hx hb hK hP 7 0 rfl rfl (i := (k % w) + (w * i)) (by omega) (by decide) d_MD_fits_121 ?_
          refine lv_goto (tgt := 132) hx hb d_MD_fits_122 (by decide) ?_
          refine lv_iload_n hx hb d_MD_fits_132 rfl (lv_at hl 3 rfl) ?_
          refine nr_icmp_ne (tgt := 138) hx hb d_MD_fits_133 (by decide) (by omega) (by omega) (fun h_7 => ?_) (fun h_7 => ?_)
          · refine nr_iinc (lv' := [(5, .int (nI (i + 1))), (6, .int (nI ((k % w) + (w * i)))), (0, .ref a), (1, .int (nI k)), (2, .int (nI v)), (3, .int (nI (k % w))), (4, .int (nI (k / w)))]) hx hb d_MD_fits_138 hl (k := 6) rfl (by decide) rfl (fun ls hl => ?_)
            refine lv_goto (tgt := 83) hx hb d_MD_fits_141 (by decide) ?_
            exact ih (i + 1) (by omega) (by omega) (by rw [mF2, if_pos (by omega), if_neg (by rintro ⟨z1, z2⟩; first | omega | (rw [show mAtc fl gi k (k % w + w * i) = fl (k % w + w * i) from if_pos (by omega)] at z2; omega) | (rw [show mAtc fl gi k (k % w + w * i) = gi (k % w + w * i) from if_neg (by omega)] at z2; omega))] at hq; exact hq) _ _ hP hD hS ls (lv_sub hl [2, 3, 4, 5, 6, 0] rfl)
          · refine lv_iconst (v := nI 0) hx hb d_MD_fits_136 (by decide) ?_
            exact rt_z E hP hD hS (by decide) (by rw [mF2, if_pos (by omega), if_pos ⟨by omega, by first | (rw [show mAtc fl gi k (k % w + w * i) = fl (k % w + w * i) from if_pos (by omega)]; omega) | (rw [show mAtc fl gi k (k % w + w * i) = gi (k % w + w * i) from if_neg (by omega)]; omega)⟩] at hq; exact hq) d_MD_fits_137
set_option maxHeartbeats 1000000 in
set_option maxRecDepth 100000 in
theorem L_MD_fit1 {p : Program} {l : Launch} {e : Env} {s : State} {m : MethodId} {args : Array Value} {below : List Frame} {meth : Method} {c : Code} {A : Nat → Prop} {D : va_G} {cI cL : ClassId} {c0 : Cond} {post : Int32 → va_W → Prop} (a b1 b2 b3 b4 b5 b6 b7 b8 b9 w h g bg tl sp th isf : Nat) (ba vi to rw li gi fl fo my : Nat → Nat) (k v : Nat) (hk : k < w * h) (hv : v ≤ 7) (hw1 : 1 ≤ w) (hw6 : w ≤ 6) (hh6 : h ≤ 6) (hg : g ≤ 6) (hfl : ∀ k, fl k ≤ 7) (hgi : ∀ k, gi k ≤ 6) (E : En p s m args meth c b_MD_fits 7 (c0 :: Om) R_MD (some .boolean) A D [(cI, .int), (cL, .boolean)]) : ∀ (m1 : Nat) (i : Nat), i ≤ w → w < i + m1 → post (nI (if mF1 w fl gi k v m1 i = 0 then 0 else mF2 w h fl gi k v 7 0)) [(a, .inr (5, [.int (nI w), .int (nI h), .int (nI (w * h)), .int (nI g), .ref b1, .ref b2, .ref b3, .int (nI bg), .int (nI tl), .int (nI sp), .int (nI th), .ref b4, .ref b5, .ref b6, .ref b7, .ref b8, .ref b9, .int (nI isf)])), (b1, .inl (cL, 36, .inl (nA ba))), (b2, .inl (cL, 36, .inl (nA vi))), (b3, .inl (cI, 36, .inl (nA to))), (b4, .inl (cI, 6, .inl (mA rw))), (b5, .inl (cI, 6, .inl (mA li))), (b6, .inl (cI, 36, .inl (nA gi))), (b7, .inl (cI, 36, .inl (nA fl))), (b8, .inl (cI, 36, .inl (nA fo))), (b9, .inl (cI, 36, .inl (nA my)))] → ∀ (H : Heap) (locs : List Loc), va_P D classes [(a, .inr (5, [.int (nI w), .int (nI h), .int (nI (w * h)), .int (nI g), .ref b1, .ref b2, .ref b3, .int (nI bg), .int (nI tl), .int (nI sp), .int (nI th), .ref b4, .ref b5, .ref b6, .ref b7, .ref b8, .ref b9, .int (nI isf)])), (b1, .inl (cL, 36, .inl (nA ba))), (b2, .inl (cL, 36, .inl (nA vi))), (b3, .inl (cI, 36, .inl (nA to))), (b4, .inl (cI, 6, .inl (mA rw))), (b5, .inl (cI, 6, .inl (mA li))), (b6, .inl (cI, 36, .inl (nA gi))), (b7, .inl (cI, 36, .inl (nA fl))), (b8, .inl (cI, 36, .inl (nA fo))), (b9, .inl (cI, 36, .inl (nA my)))] H → va_D A [(a, .inr (5, [.int (nI w), .int (nI h), .int (nI (w * h)), .int (nI g), .ref b1, .ref b2, .ref b3, .int (nI bg), .int (nI tl), .int (nI sp), .int (nI th), .ref b4, .ref b5, .ref b6, .ref b7, .ref b8, .ref b9, .int (nI isf)])), (b1, .inl (cL, 36, .inl (nA ba))), (b2, .inl (cL, 36, .inl (nA vi))), (b3, .inl (cI, 36, .inl (nA to))), (b4, .inl (cI, 6, .inl (mA rw))), (b5, .inl (cI, 6, .inl (mA li))), (b6, .inl (cI, 36, .inl (nA gi))), (b7, .inl (cI, 36, .inl (nA fl))), (b8, .inl (cI, 36, .inl (nA fo))), (b9, .inl (cI, 36, .inl (nA my)))] → va_S A s.heap H locs → ∀ ls : Array Slot, lv_has ls 7 [(0, .ref a), (1, .int (nI k)), (2, .int (nI v)), (3, .int (nI (k % w))), (4, .int (nI (k / w))), (5, .int (nI i))] → W p l e { frames := 0, cells := 0, slots := 0, locals := 0 } s m args below meth c H locs 0 0 (MQ below (qI D [(cI, .int), (cL, .boolean)] post A) args s 0 0 A) (F0 m 18 ls []) := by
  obtain ⟨hx, hb, hml, hown, hts, hr, hlk, hA, hK, hN⟩ := id E
  have ho : ∀ q ∈ Om, q.before _ s = true := fun q h => hts q (List.mem_cons_of_mem _ h)
  intro m1
  induction m1 with
  | zero =>
    intro i h1 h2 hq
    exact absurd h2 (by omega)
  | succ m1 ih =>
    intro i h1 h2 hq H locs hP hD hS ls hl
    refine lv_iload hx hb d_MD_fits_18 (lv_at hl 5 rfl) ?_
    have e2 : k % w < w := Nat.mod_lt _ hw1
    have e4 := dv_lt hk
    have h36 := wh36 hw6 hh6
    refine lv_aload_n hx hb d_MD_fits_20 rfl (lv_at hl 0 rfl) ?_
    refine va_get (D := D) (ci := 5) (v := .int (nI w)) (C := R_MD) (T := F_MD) (N := 18) hx hb ho j_MD hown hK hP 0 rfl rfl 0 (by decide) (ho _ kf_MD_42) (fun _ h9 => h9) rfl d_MD_fits_21 ?_
    refine nr_icmp_ge (tgt := 80) hx hb d_MD_fits_24 (by decide) (by omega) (by omega) (fun h_1 => ?_) (fun h_1 => ?_)
    · refine lv_iconst (v := nI 0) hx hb d_MD_fits_80 (by decide) ?_
      refine lv_istore (lv' := [(5, .int (nI 0)), (0, .ref a), (1, .int (nI k)), (2, .int (nI v)), (3, .int (nI (k % w))), (4, .int (nI (k / w)))]) hx hb d_MD_fits_81 hl (by decide) rfl (fun ls hl => ?_)
      exact L_MD_fit2 a b1 b2 b3 b4 b5 b6 b7 b8 b9 w h g bg tl sp th isf ba vi to rw li gi fl fo my k v hk hv hw1 hw6 hh6 hg hfl hgi E 7 0 (by omega) (by omega) (by rw [show mF1 w fl gi k v (m1 + 1) i = 1 by rw [mF1, if_neg (by omega)], if_neg (by decide)] at hq; exact hq) _ _ hP hD hS ls (lv_sub hl [1, 2, 3, 4, 5, 0] rfl)
    · have hce := ce_in (show i < w by omega) e4
      have hf9 := hfl (i + w * (k / w))
      have hg9 := hgi (i + w * (k / w))
      refine lv_iload hx hb d_MD_fits_27 (lv_at hl 5 rfl) ?_
      refine lv_aload_n hx hb d_MD_fits_29 rfl (lv_at hl 0 rfl) ?_
      refine va_get (D := D) (ci := 5) (v := .int (nI w)) (C := R_MD) (T := F_MD) (N := 18) hx hb ho j_MD hown hK hP 0 rfl rfl 0 (by decide) (ho _ kf_MD_42) (fun _ h9 => h9) rfl d_MD_fits_30 ?_
      refine lv_iload hx hb d_MD_fits_33 (lv_at hl 4 rfl) ?_
      refine nr_imul hx hb d_MD_fits_35 ?_
      refine nr_iadd hx hb d_MD_fits_36 ?_
      refine lv_istore (lv' := [(6, .int (nI (i + (w * (k / w))))), (0, .ref a), (1, .int (nI k)), (2, .int (nI v)), (3, .int (nI (k % w))), (4, .int (nI (k / w))), (5, .int (nI i))]) hx hb d_MD_fits_37 hl (by decide) rfl (fun ls hl => ?_)
      refine lv_iload hx hb d_MD_fits_39 (lv_at hl 0 rfl) ?_
      refine lv_iload_n hx hb d_MD_fits_41 rfl (lv_at hl 2 rfl) ?_
      refine nr_icmp_eq (tgt := 74) hx hb d_MD_fits_42 (by decide) (by omega) (by omega) (fun h_2 => ?_) (fun h_2 => ?_)
      · refine nr_iinc (lv' := [(5, .int (nI (i + 1))), (6, .int (nI (i + (w * (k / w))))), (0, .ref a), (1, .int (nI k)), (2, .int (nI v)), (3, .int (nI (k % w))), (4, .int (nI (k / w)))]) hx hb d_MD_fits_74 hl (k := 6) rfl (by decide) rfl (fun ls hl => ?_)
        refine lv_goto (tgt := 18) hx hb d_MD_fits_77 (by decide) ?_
        exact ih (i + 1) (by omega) (by omega) (by rw [show mF1 w fl gi k v (m1 + 1) i = mF1 w fl gi k v m1 (i + 1) by rw [mF1, if_pos (by omega), if_neg (by rintro ⟨z1, z2⟩; first | omega | (rw [show mAtc fl gi k (i + w * (k / w)) = fl (i + w * (k / w)) from if_pos (by omega)] at z2; omega) | (rw [show mAtc fl gi k (i + w * (k / w)) = gi (i + w * (k / w)) from if_neg (by omega)] at z2; omega))]] at hq; exact hq) _ _ hP hD hS ls (lv_sub hl [2, 3, 4, 5, 6, 0] rfl)
      · refine lv_iload hx hb d_MD_fits_45 (lv_at hl 0 rfl) ?_
        refine lv_iload_n hx hb d_MD_fits_47 rfl (lv_at hl 2 rfl) ?_
        refine nr_icmp_ge (tgt := 61) hx hb d_MD_fits_48 (by decide) (by omega) (by omega) (fun h_3 => ?_) (fun h_3 => ?_)
        · refine lv_aload_n hx hb d_MD_fits_61 rfl (lv_at hl 1 rfl) ?_
          refine va_get (D := D) (ci := 5) (v := .ref b6) (C := R_MD) (T := F_MD) (N := 18) hx hb ho j_MD hown hK hP 0 rfl rfl 13 (by decide) (ho _ kf_MD_26) (fun _ h9 => h9) rfl d_MD_fits_62 ?_
          refine lv_iload hx hb d_MD_fits_65 (lv_at hl 0 rfl) ?_
          refine nr_ialdN hx hb hK hP 6 0 rfl rfl (i := i + (w * (k / w))) (by omega) (by decide) d_MD_fits_67 ?_
          refine lv_iload_n hx hb d_MD_fits_68 rfl (lv_at hl 3 rfl) ?_
          refine nr_icmp_ne (tgt := 74) hx hb d_MD_fits_69 (by decide) (by omega) (by omega) (fun h_4 => ?_) (fun h_4 => ?_)
          · refine nr_iinc (lv' := [(5, .int (nI (i + 1))), (6, .int (nI (i + (w * (k / w))))), (0, .ref a), (1, .int (nI k)), (2, .int (nI v)), (3, .int (nI (k % w))), (4, .int (nI (k / w)))]) hx hb d_MD_fits_74 hl (k := 6) rfl (by decide) rfl (fun ls hl => ?_)
            refine lv_goto (tgt := 18) hx hb d_MD_fits_77 (by decide) ?_
            exact ih (i + 1) (by omega) (by omega) (by rw [show mF1 w fl gi k v (m1 + 1) i = mF1 w fl gi k v m1 (i + 1) by rw [mF1, if_pos (by omega), if_neg (by rintro ⟨z1, z2⟩; first | omega | (rw [show mAtc fl gi k (i + w * (k / w)) = fl (i + w * (k / w)) from if_pos (by omega)] at z2; omega) | (rw [show mAtc fl gi k (i + w * (k / w)) = gi (i + w * (k / w)) from if_neg (by omega)] at z2; omega))]] at hq; exact hq) _ _ hP hD hS ls (lv_sub hl [2, 3, 4, 5, 6, 0] rfl)
          · refine lv_iconst (v := nI 0) hx hb d_MD_fits_72 (by decide) ?_
            exact rt_z E hP hD hS (by decide) (by rw [show mF1 w fl gi k v (m1 + 1) i = 0 by rw [mF1, if_pos (by omega), if_pos ⟨by omega, by first | (rw [show mAtc fl gi k (i + w * (k / w)) = fl (i + w * (k / w)) from if_pos (by omega)]; omega) | (rw [show mAtc fl gi k (i + w * (k / w)) = gi (i + w * (k / w)) from if_neg (by omega)]; omega)⟩], if_pos rfl] at hq; exact hq) d_MD_fits_73
        · refine lv_aload_n hx hb d_MD_fits_51 rfl (lv_at hl 1 rfl) ?_
          refine va_get (D := D) (ci := 5) (v := .ref b7) (C := R_MD) (T := F_MD) (N := 18) hx hb ho j_MD hown hK hP 0 rfl rfl 14 (by decide) (ho _ kf_MD_29) (fun _ h9 => h9) rfl d_MD_fits_52 ?_
          refine lv_iload hx hb d_MD_fits_55 (lv_at hl 0 rfl) ?_
          refine nr_ialdN hx hb hK hP 7 0 rfl rfl (i := i + (w * (k / w))) (by omega) (by decide) d_MD_fits_57 ?_
          refine lv_goto (tgt := 68) hx hb d_MD_fits_58 (by decide) ?_
          refine lv_iload_n hx hb d_MD_fits_68 rfl (lv_at hl 3 rfl) ?_
          refine nr_icmp_ne (tgt := 74) hx hb d_MD_fits_69 (by decide) (by omega) (by omega) (fun h_5 => ?_) (fun h_5 => ?_)
          · refine nr_iinc (lv' := [(5, .int (nI (i + 1))), (6, .int (nI (i + (w * (k / w))))), (0, .ref a), (1, .int (nI k)), (2, .int (nI v)), (3, .int (nI (k % w))), (4, .int (nI (k / w)))]) hx hb d_MD_fits_74 hl (k := 6) rfl (by decide) rfl (fun ls hl => ?_)
            refine lv_goto (tgt := 18) hx hb d_MD_fits_77 (by decide) ?_
            exact ih (i + 1) (by omega) (by omega) (by rw [show mF1 w fl gi k v (m1 + 1) i = mF1 w fl gi k v m1 (i + 1) by rw [mF1, if_pos (by omega), if_neg (by rintro ⟨z1, z2⟩; first | omega | (rw [show mAtc fl gi k (i + w * (k / w)) = fl (i + w * (k / w)) from if_pos (by omega)] at z2; omega) | (rw [show mAtc fl gi k (i + w * (k / w)) = gi (i + w * (k / w)) from if_neg (by omega)] at z2; omega))]] at hq; exact hq) _ _ hP hD hS ls (lv_sub hl [2, 3, 4, 5, 6, 0] rfl)
          · refine lv_iconst (v := nI 0) hx hb d_MD_fits_72 (by decide) ?_
            exact rt_z E hP hD hS (by decide) (by rw [show mF1 w fl gi k v (m1 + 1) i = 0 by rw [mF1, if_pos (by omega), if_pos ⟨by omega, by first | (rw [show mAtc fl gi k (i + w * (k / w)) = fl (i + w * (k / w)) from if_pos (by omega)]; omega) | (rw [show mAtc fl gi k (i + w * (k / w)) = gi (i + w * (k / w)) from if_neg (by omega)]; omega)⟩], if_pos rfl] at hq; exact hq) d_MD_fits_73
set_option maxHeartbeats 1000000 in
set_option maxRecDepth 100000 in
theorem c_MD_fits (l : Launch) (D : va_G) (cI cL : ClassId) (a b1 b2 b3 b4 b5 b6 b7 b8 b9 w h g bg tl sp th isf : Nat) (ba vi to rw li gi fl fo my : Nat → Nat) (k v : Nat) (hk : k < w * h) (hv : v ≤ 7) (hw1 : 1 ≤ w) (hw6 : w ≤ 6) (hh6 : h ≤ 6) (hg : g ≤ 6) (hfl : ∀ k, fl k ≤ 7) (hgi : ∀ k, gi k ≤ 6) : CI l y_MD_fits (.code y_MD_fits b_MD_fits 7 (some .boolean) :: Om) { frames := 0, cells := 0, slots := 0, locals := 0 } D [(a, .inr (5, [.int (nI w), .int (nI h), .int (nI (w * h)), .int (nI g), .ref b1, .ref b2, .ref b3, .int (nI bg), .int (nI tl), .int (nI sp), .int (nI th), .ref b4, .ref b5, .ref b6, .ref b7, .ref b8, .ref b9, .int (nI isf)])), (b1, .inl (cL, 36, .inl (nA ba))), (b2, .inl (cL, 36, .inl (nA vi))), (b3, .inl (cI, 36, .inl (nA to))), (b4, .inl (cI, 6, .inl (mA rw))), (b5, .inl (cI, 6, .inl (mA li))), (b6, .inl (cI, 36, .inl (nA gi))), (b7, .inl (cI, 36, .inl (nA fl))), (b8, .inl (cI, 36, .inl (nA fo))), (b9, .inl (cI, 36, .inl (nA my)))] [(cI, .int), (cL, .boolean)] [.ref a, .int (nI k), .int (nI v)] (fun r u1 => r = nI (mFit w h fl gi k v) ∧ u1 = [(a, .inr (5, [.int (nI w), .int (nI h), .int (nI (w * h)), .int (nI g), .ref b1, .ref b2, .ref b3, .int (nI bg), .int (nI tl), .int (nI sp), .int (nI th), .ref b4, .ref b5, .ref b6, .ref b7, .ref b8, .ref b9, .int (nI isf)])), (b1, .inl (cL, 36, .inl (nA ba))), (b2, .inl (cL, 36, .inl (nA vi))), (b3, .inl (cI, 36, .inl (nA to))), (b4, .inl (cI, 6, .inl (mA rw))), (b5, .inl (cI, 6, .inl (mA li))), (b6, .inl (cI, 36, .inl (nA gi))), (b7, .inl (cI, 36, .inl (nA fl))), (b8, .inl (cI, 36, .inl (nA fo))), (b9, .inl (cI, 36, .inl (nA my)))]) := by
  refine en_of (cc := b_MD_fits) (Qc := qI D [(cI, .int), (cL, .boolean)] (fun r u1 => r = nI (mFit w h fl gi k v) ∧ u1 = [(a, .inr (5, [.int (nI w), .int (nI h), .int (nI (w * h)), .int (nI g), .ref b1, .ref b2, .ref b3, .int (nI bg), .int (nI tl), .int (nI sp), .int (nI th), .ref b4, .ref b5, .ref b6, .ref b7, .ref b8, .ref b9, .int (nI isf)])), (b1, .inl (cL, 36, .inl (nA ba))), (b2, .inl (cL, 36, .inl (nA vi))), (b3, .inl (cI, 36, .inl (nA to))), (b4, .inl (cI, 6, .inl (mA rw))), (b5, .inl (cI, 6, .inl (mA li))), (b6, .inl (cI, 36, .inl (nA gi))), (b7, .inl (cI, 36, .inl (nA fl))), (b8, .inl (cI, 36, .inl (nA fo))), (b9, .inl (cI, 36, .inl (nA my)))])) (by decide) rfl (Nat.le_of_ble_eq_true rfl) ?_
  intro p e s m below meth c A E hnm hP hD hS ls hl
  have hl : lv_has ls 7 [(0, .ref a), (1, .int (nI k)), (2, .int (nI v))] := hl
  obtain ⟨hx, hb, hml, hown, hts, hr, hlk, hA, hK, hN⟩ := id E
  have ho : ∀ q ∈ Om, q.before _ s = true := fun q h => hts q (List.mem_cons_of_mem _ h)
  have e2 : k % w < w := Nat.mod_lt _ hw1
  have e4 := dv_lt hk
  have h36 := wh36 hw6 hh6
  refine lv_iload_n hx hb d_MD_fits_0 rfl (lv_at hl 1 rfl) ?_
  refine lv_aload_n hx hb d_MD_fits_1 rfl (lv_at hl 0 rfl) ?_
  refine va_get (D := D) (ci := 5) (v := .int (nI w)) (C := R_MD) (T := F_MD) (N := 18) hx hb ho j_MD hown hK hP 0 rfl rfl 0 (by decide) (ho _ kf_MD_42) (fun _ h9 => h9) rfl d_MD_fits_2 ?_
  refine nr_irem hx hb d_MD_fits_5 (by omega) (by omega) (by omega) ?_
  refine lv_istore_n (lv' := [(3, .int (nI (k % w))), (0, .ref a), (1, .int (nI k)), (2, .int (nI v))]) hx hb d_MD_fits_6 rfl hl (by decide) rfl (fun ls hl => ?_)
  refine lv_iload_n hx hb d_MD_fits_7 rfl (lv_at hl 2 rfl) ?_
  refine lv_aload_n hx hb d_MD_fits_8 rfl (lv_at hl 1 rfl) ?_
  refine va_get (D := D) (ci := 5) (v := .int (nI w)) (C := R_MD) (T := F_MD) (N := 18) hx hb ho j_MD hown hK hP 0 rfl rfl 0 (by decide) (ho _ kf_MD_42) (fun _ h9 => h9) rfl d_MD_fits_9 ?_
  refine nr_idiv hx hb d_MD_fits_12 (by omega) (by omega) (by omega) ?_
  refine lv_istore (lv' := [(4, .int (nI (k / w))), (3, .int (nI (k % w))), (0, .ref a), (1, .int (nI k)), (2, .int (nI v))]) hx hb d_MD_fits_13 hl (by decide) rfl (fun ls hl => ?_)
  refine lv_iconst (v := nI 0) hx hb d_MD_fits_15 (by decide) ?_
  refine lv_istore (lv' := [(5, .int (nI 0)), (4, .int (nI (k / w))), (3, .int (nI (k % w))), (0, .ref a), (1, .int (nI k)), (2, .int (nI v))]) hx hb d_MD_fits_16 hl (by decide) rfl (fun ls hl => ?_)
  exact L_MD_fit1 a b1 b2 b3 b4 b5 b6 b7 b8 b9 w h g bg tl sp th isf ba vi to rw li gi fl fo my k v hk hv hw1 hw6 hh6 hg hfl hgi E 7 0 (by omega) (by omega) ⟨rfl, rfl⟩ _ _ hP hD hS ls (lv_sub hl [3, 4, 5, 2, 1, 0] rfl)
