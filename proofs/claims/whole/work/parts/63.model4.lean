/-! the reference: search from its entry, tour -/
theorem rZ_zero {b : Nat} : ∀ m k f, b < k + m → (∀ j, j < k → f j = 0) → ∀ j, j < b → rZ m k b f j = 0 := by
  intro m
  induction m with
  | zero => intro k f h hf j hj; exact hf j (by omega)
  | succ m ih =>
    intro k f h hf j hj
    rw [rZ]
    split
    · refine ih _ _ (by omega) (fun i hi => ?_) j hj
      rcases Nat.lt_or_ge i k with q | q
      · rw [va_up_ne f 0 (by omega)]; exact hf i q
      · rw [show i = k by omega, va_up_self]
    · exact hf j (by omega)
theorem rZ_le {b c : Nat} : ∀ m k f, (∀ j, f j ≤ c) → ∀ j, rZ m k b f j ≤ c := by
  intro m
  induction m with
  | zero => intro k f hf; exact hf
  | succ m ih =>
    intro k f hf
    rw [rZ]
    split
    · exact ih _ _ (up_le hf (Nat.zero_le c))
    · exact hf
theorem sumv_zero {f : Nat → Nat} : ∀ n, (∀ j, j < n → f j = 0) → sumv f n = 0 := by
  intro n
  induction n with
  | zero => intro _; rfl
  | succ n ih => intro h; rw [sumv, ih (fun j hj => h j (by omega)), h n (by omega)]
/-- visited and path as the search begins -/
def mV0 (n bg : Nat) (vi : Nat → Nat) : Nat → Nat := va_up (rZ (n + 1) 0 n vi) bg 1
theorem mpi_0 {n bg : Nat} {vi to : Nat → Nat} (hv : ∀ j, vi j ≤ 1) (ht : ∀ j, to j < 36) (hb : bg < n) (hn : n ≤ 36) : MPi n 1 (mV0 n bg vi) (va_up to 0 bg) := by
  have z := rZ_zero (b := n) (n + 1) 0 vi (by omega) (fun j hj => by omega)
  have e := sumv_up (rZ (n + 1) 0 n vi) (c := bg) (x := 1) n hb
  rw [z bg hb, sumv_zero n z] at e
  refine ⟨up_le (rZ_le _ _ _ hv) (Nat.le_refl 1), up_lt ht (by omega), e, ?_, fun i j hij hj => by omega⟩
  intro i hi
  rw [show i = 0 by omega, va_up_self]
  exact ⟨hb, va_up_self _ _ _⟩
theorem mOp_le (n : Nat) (ba : Nat → Nat) : mOp n ba ≤ n + 1 := by
  have := mCt_le n (fun c => decide (ba c = 0)) (n + 1) 0 0
  unfold mOp
  omega
set_option maxHeartbeats 1000000 in
set_option maxRecDepth 100000 in
theorem L_MD_clear {p : Program} {l : Launch} {e : Env} {s : State} {m : MethodId} {args : Array Value} {below : List Frame} {meth : Method} {c : Code} {A : Nat → Prop} {D : va_G} {cI cL : ClassId} {c0 : Cond} {post : Int32 → va_W → Prop} (a b1 b2 b3 b4 b5 b6 b7 b8 b9 w h g bg th isf : Nat) (ba rw li gi fl fo my : Nat → Nat) (to : Nat → Nat) (p0 cl most al : Nat) (hal : al ≤ 100) (hw1 : 1 ≤ w) (hw6 : w ≤ 6) (hh6 : h ≤ 6) (hp : p0 < 3) (hcl : cl ≤ 1) (hmost : most ≤ 100000) (hbg : bg < w * h) (hba : ∀ k, ba k ≤ 1) (hto : ∀ k, to k < 36) (E : En p s m args meth c b_MD_search 8 (c0 :: Om) R_MD (some .int) A D [(cI, .int), (cL, .boolean)]) : ∀ (m1 : Nat) (cc0 : Nat) (vi : Nat → Nat), cc0 ≤ w * h → w * h < cc0 + m1 → (∀ k, vi k ≤ 1) → MPi (w * h) 1 (va_up (rZ m1 cc0 (w * h) vi) bg 1) (va_up to 0 bg) → post (nI (mS w (w * h) p0 ba bg cl most al (2 * most + 2) 1 0 (va_up (rZ m1 cc0 (w * h) vi) bg 1, va_up to 0 bg, 0)).1) [(a, .inr (5, [.int (nI w), .int (nI h), .int (nI (w * h)), .int (nI g), .ref b1, .ref b2, .ref b3, .int (nI bg), .int (nI ((mS w (w * h) p0 ba bg cl most al (2 * most + 2) 1 0 (va_up (rZ m1 cc0 (w * h) vi) bg 1, va_up to 0 bg, 0)).2.1)), .int (nI ((mS w (w * h) p0 ba bg cl most al (2 * most + 2) 1 0 (va_up (rZ m1 cc0 (w * h) vi) bg 1, va_up to 0 bg, 0)).2.2.2.2)), .int (nI th), .ref b4, .ref b5, .ref b6, .ref b7, .ref b8, .ref b9, .int (nI isf)])), (b1, .inl (cL, 36, .inl (nA ba))), (b2, .inl (cL, 36, .inl (nA ((mS w (w * h) p0 ba bg cl most al (2 * most + 2) 1 0 (va_up (rZ m1 cc0 (w * h) vi) bg 1, va_up to 0 bg, 0)).2.2.1)))), (b3, .inl (cI, 36, .inl (nA ((mS w (w * h) p0 ba bg cl most al (2 * most + 2) 1 0 (va_up (rZ m1 cc0 (w * h) vi) bg 1, va_up to 0 bg, 0)).2.2.2.1)))), (b4, .inl (cI, 6, .inl (mA rw))), (b5, .inl (cI, 6, .inl (mA li))), (b6, .inl (cI, 36, .inl (nA gi))), (b7, .inl (cI, 36, .inl (nA fl))), (b8, .inl (cI, 36, .inl (nA fo))), (b9, .inl (cI, 36, .inl (nA my)))] → ∀ (H : Heap) (locs : List Loc), va_P D classes [(a, .inr (5, [.int (nI w), .int (nI h), .int (nI (w * h)), .int (nI g), .ref b1, .ref b2, .ref b3, .int (nI bg), .int (nI 0), .int (nI 0), .int (nI th), .ref b4, .ref b5, .ref b6, .ref b7, .ref b8, .ref b9, .int (nI isf)])), (b1, .inl (cL, 36, .inl (nA ba))), (b2, .inl (cL, 36, .inl (nA vi))), (b3, .inl (cI, 36, .inl (nA to))), (b4, .inl (cI, 6, .inl (mA rw))), (b5, .inl (cI, 6, .inl (mA li))), (b6, .inl (cI, 36, .inl (nA gi))), (b7, .inl (cI, 36, .inl (nA fl))), (b8, .inl (cI, 36, .inl (nA fo))), (b9, .inl (cI, 36, .inl (nA my)))] H → va_D A [(a, .inr (5, [.int (nI w), .int (nI h), .int (nI (w * h)), .int (nI g), .ref b1, .ref b2, .ref b3, .int (nI bg), .int (nI 0), .int (nI 0), .int (nI th), .ref b4, .ref b5, .ref b6, .ref b7, .ref b8, .ref b9, .int (nI isf)])), (b1, .inl (cL, 36, .inl (nA ba))), (b2, .inl (cL, 36, .inl (nA vi))), (b3, .inl (cI, 36, .inl (nA to))), (b4, .inl (cI, 6, .inl (mA rw))), (b5, .inl (cI, 6, .inl (mA li))), (b6, .inl (cI, 36, .inl (nA gi))), (b7, .inl (cI, 36, .inl (nA fl))), (b8, .inl (cI, 36, .inl (nA fo))), (b9, .inl (cI, 36, .inl (nA my)))] → va_S A s.heap H locs → ∀ ls : Array Slot, lv_has ls 8 [(0, .ref a), (1, .int (nI p0)), (2, .int (nI cl)), (3, .int (nI most)), (4, .int (nI al)), (5, .int (nI cc0))] → W p l e { frames := 4, cells := 0, slots := 0, locals := 118 } s m args below meth c H locs 0 0 (MQ below (qI D [(cI, .int), (cL, .boolean)] post A) args s 0 0 A) (F0 m 9 ls []) := by
  obtain ⟨hx, hb, hml, hown, hts, hr, hlk, hA, hK, hN⟩ := id E
  have ho : ∀ q ∈ Om, q.before _ s = true := fun q h => hts q (List.mem_cons_of_mem _ h)
  intro m1
  induction m1 with
  | zero =>
    intro cc0 vi h1 h2 hvi hmp hq
    exact absurd h2 (by omega)
  | succ m1 ih =>
    intro cc0 vi h1 h2 hvi hmp hq H locs hP hD hS ls hl
    refine lv_iload hx hb d_MD_search_9 (lv_at hl 5 rfl) ?_
    have h36 := wh36 hw6 hh6
    refine lv_aload_n hx hb d_MD_search_11 rfl (lv_at hl 0 rfl) ?_
    refine va_get (D := D) (ci := 5) (v := .int (nI (w * h))) (C := R_MD) (T := F_MD) (N := 18) hx hb ho j_MD hown hK hP 0 rfl rfl 2 (by decide) (ho _ kf_MD_49) (fun _ h9 => h9) rfl d_MD_search_12 ?_
    refine nr_icmp_ge (tgt := 32) hx hb d_MD_search_15 (by decide) (by omega) (by omega) (fun h_1 => ?_) (fun h_1 => ?_)
    · refine lv_aload_n hx hb d_MD_search_32 rfl (lv_at hl 0 rfl) ?_
      refine va_get (D := D) (ci := 5) (v := .ref b2) (C := R_MD) (T := F_MD) (N := 18) hx hb ho j_MD hown hK hP 0 rfl rfl 5 (by decide) (ho _ kf_MD_13) (fun _ h9 => h9) rfl d_MD_search_33 ?_
      refine lv_aload_n hx hb d_MD_search_36 rfl (lv_at hl 0 rfl) ?_
      refine va_get (D := D) (ci := 5) (v := .int (nI bg)) (C := R_MD) (T := F_MD) (N := 18) hx hb ho j_MD hown hK hP 0 rfl rfl 7 (by decide) (ho _ kf_MD_65) (fun _ h9 => h9) rfl d_MD_search_37 ?_
      refine lv_iconst (v := nI 1) hx hb d_MD_search_40 (by decide) ?_
      refine nr_zast hx hb hK hP hD hS 2 1 rfl rfl (i := bg) (x := 1) (by omega) (by decide) (by omega) d_MD_search_41 (fun H locs hP hD hS => ?_)
      have hP : va_P D classes [(a, .inr (5, [.int (nI w), .int (nI h), .int (nI (w * h)), .int (nI g), .ref b1, .ref b2, .ref b3, .int (nI bg), .int (nI 0), .int (nI 0), .int (nI th), .ref b4, .ref b5, .ref b6, .ref b7, .ref b8, .ref b9, .int (nI isf)])), (b1, .inl (cL, 36, .inl (nA ba))), (b2, .inl (cL, 36, .inl (nA (va_up vi bg 1)))), (b3, .inl (cI, 36, .inl (nA to))), (b4, .inl (cI, 6, .inl (mA rw))), (b5, .inl (cI, 6, .inl (mA li))), (b6, .inl (cI, 36, .inl (nA gi))), (b7, .inl (cI, 36, .inl (nA fl))), (b8, .inl (cI, 36, .inl (nA fo))), (b9, .inl (cI, 36, .inl (nA my)))] H := hP
      have hD : va_D A [(a, .inr (5, [.int (nI w), .int (nI h), .int (nI (w * h)), .int (nI g), .ref b1, .ref b2, .ref b3, .int (nI bg), .int (nI 0), .int (nI 0), .int (nI th), .ref b4, .ref b5, .ref b6, .ref b7, .ref b8, .ref b9, .int (nI isf)])), (b1, .inl (cL, 36, .inl (nA ba))), (b2, .inl (cL, 36, .inl (nA (va_up vi bg 1)))), (b3, .inl (cI, 36, .inl (nA to))), (b4, .inl (cI, 6, .inl (mA rw))), (b5, .inl (cI, 6, .inl (mA li))), (b6, .inl (cI, 36, .inl (nA gi))), (b7, .inl (cI, 36, .inl (nA fl))), (b8, .inl (cI, 36, .inl (nA fo))), (b9, .inl (cI, 36, .inl (nA my)))] := hD
      refine lv_aload_n hx hb d_MD_search_42 rfl (lv_at hl 0 rfl) ?_
      refine va_get (D := D) (ci := 5) (v := .ref b3) (C := R_MD) (T := F_MD) (N := 18) hx hb ho j_MD hown hK hP 0 rfl rfl 6 (by decide) (ho _ kf_MD_16) (fun _ h9 => h9) rfl d_MD_search_43 ?_
      refine lv_iconst (v := nI 0) hx hb d_MD_search_46 (by decide) ?_
      refine lv_aload_n hx hb d_MD_search_47 rfl (lv_at hl 0 rfl) ?_
      refine va_get (D := D) (ci := 5) (v := .int (nI bg)) (C := R_MD) (T := F_MD) (N := 18) hx hb ho j_MD hown hK hP 0 rfl rfl 7 (by decide) (ho _ kf_MD_65) (fun _ h9 => h9) rfl d_MD_search_48 ?_
      refine nr_iast hx hb hK hP hD hS 3 0 rfl rfl (i := 0) (x := bg) (by omega) (by decide) d_MD_search_51 (fun H locs hP hD hS => ?_)
      have hP : va_P D classes [(a, .inr (5, [.int (nI w), .int (nI h), .int (nI (w * h)), .int (nI g), .ref b1, .ref b2, .ref b3, .int (nI bg), .int (nI 0), .int (nI 0), .int (nI th), .ref b4, .ref b5, .ref b6, .ref b7, .ref b8, .ref b9, .int (nI isf)])), (b1, .inl (cL, 36, .inl (nA ba))), (b2, .inl (cL, 36, .inl (nA (va_up vi bg 1)))), (b3, .inl (cI, 36, .inl (nA (va_up to 0 bg)))), (b4, .inl (cI, 6, .inl (mA rw))), (b5, .inl (cI, 6, .inl (mA li))), (b6, .inl (cI, 36, .inl (nA gi))), (b7, .inl (cI, 36, .inl (nA fl))), (b8, .inl (cI, 36, .inl (nA fo))), (b9, .inl (cI, 36, .inl (nA my)))] H := hP
      have hD : va_D A [(a, .inr (5, [.int (nI w), .int (nI h), .int (nI (w * h)), .int (nI g), .ref b1, .ref b2, .ref b3, .int (nI bg), .int (nI 0), .int (nI 0), .int (nI th), .ref b4, .ref b5, .ref b6, .ref b7, .ref b8, .ref b9, .int (nI isf)])), (b1, .inl (cL, 36, .inl (nA ba))), (b2, .inl (cL, 36, .inl (nA (va_up vi bg 1)))), (b3, .inl (cI, 36, .inl (nA (va_up to 0 bg)))), (b4, .inl (cI, 6, .inl (mA rw))), (b5, .inl (cI, 6, .inl (mA li))), (b6, .inl (cI, 36, .inl (nA gi))), (b7, .inl (cI, 36, .inl (nA fl))), (b8, .inl (cI, 36, .inl (nA fo))), (b9, .inl (cI, 36, .inl (nA my)))] := hD
      refine lv_iconst (v := nI 1) hx hb d_MD_search_52 (by decide) ?_
      refine lv_istore (lv' := [(5, .int (nI 1)), (0, .ref a), (1, .int (nI p0)), (2, .int (nI cl)), (3, .int (nI most)), (4, .int (nI al))]) hx hb d_MD_search_53 hl (by decide) rfl (fun ls hl => ?_)
      refine lv_iconst (v := (-1)) hx hb d_MD_search_55 (by decide) ?_
      refine lv_istore (lv' := [(6, .int (-1)), (5, .int (nI 1)), (0, .ref a), (1, .int (nI p0)), (2, .int (nI cl)), (3, .int (nI most)), (4, .int (nI al))]) hx hb d_MD_search_56 hl (by decide) rfl (fun ls hl => ?_)
      have hl2 : lv_has ls 8 [(0, .ref a), (1, .int (nI p0)), (2, .int (nI cl)), (3, .int (nI most)), (4, .int (nI al)), (5, .int (nI 1)), (6, .int (-1))] := lv_sub hl [2, 3, 4, 5, 6, 1, 0] rfl
      have hl2 : lv_has ls 8 [(0, .ref a), (1, .int (nI p0)), (2, .int (nI cl)), (3, .int (nI most)), (4, .int (nI al)), (5, .int (nI 1)), (6, .int (nI 0 - 1))] := by rw [show nI 0 - 1 = (-1 : Int32) by decide]; exact hl2
      exact L_MD_search a b1 b2 b3 b4 b5 b6 b7 b8 b9 w h g bg th isf ba rw li gi fl fo my p0 cl most al hw1 hw6 hh6 hp hcl hmost hal (by omega) hba E (2 * most + 2) 1 0 (va_up (vi) bg 1) (va_up to 0 bg) 0 (by omega) (by omega) (by omega) (by rw [rZ_e (by omega)] at hmp; exact hmp) (by rw [rZ_e (by omega)] at hq; exact hq) _ _ hP hD hS ls hl2
    · refine lv_aload_n hx hb d_MD_search_18 rfl (lv_at hl 0 rfl) ?_
      refine va_get (D := D) (ci := 5) (v := .ref b2) (C := R_MD) (T := F_MD) (N := 18) hx hb ho j_MD hown hK hP 0 rfl rfl 5 (by decide) (ho _ kf_MD_13) (fun _ h9 => h9) rfl d_MD_search_19 ?_
      refine lv_iload hx hb d_MD_search_22 (lv_at hl 5 rfl) ?_
      refine lv_iconst (v := nI 0) hx hb d_MD_search_24 (by decide) ?_
      refine nr_zast hx hb hK hP hD hS 2 1 rfl rfl (i := cc0) (x := 0) (by omega) (by decide) (by omega) d_MD_search_25 (fun H locs hP hD hS => ?_)
      have hP : va_P D classes [(a, .inr (5, [.int (nI w), .int (nI h), .int (nI (w * h)), .int (nI g), .ref b1, .ref b2, .ref b3, .int (nI bg), .int (nI 0), .int (nI 0), .int (nI th), .ref b4, .ref b5, .ref b6, .ref b7, .ref b8, .ref b9, .int (nI isf)])), (b1, .inl (cL, 36, .inl (nA ba))), (b2, .inl (cL, 36, .inl (nA (va_up vi cc0 0)))), (b3, .inl (cI, 36, .inl (nA to))), (b4, .inl (cI, 6, .inl (mA rw))), (b5, .inl (cI, 6, .inl (mA li))), (b6, .inl (cI, 36, .inl (nA gi))), (b7, .inl (cI, 36, .inl (nA fl))), (b8, .inl (cI, 36, .inl (nA fo))), (b9, .inl (cI, 36, .inl (nA my)))] H := hP
      have hD : va_D A [(a, .inr (5, [.int (nI w), .int (nI h), .int (nI (w * h)), .int (nI g), .ref b1, .ref b2, .ref b3, .int (nI bg), .int (nI 0), .int (nI 0), .int (nI th), .ref b4, .ref b5, .ref b6, .ref b7, .ref b8, .ref b9, .int (nI isf)])), (b1, .inl (cL, 36, .inl (nA ba))), (b2, .inl (cL, 36, .inl (nA (va_up vi cc0 0)))), (b3, .inl (cI, 36, .inl (nA to))), (b4, .inl (cI, 6, .inl (mA rw))), (b5, .inl (cI, 6, .inl (mA li))), (b6, .inl (cI, 36, .inl (nA gi))), (b7, .inl (cI, 36, .inl (nA fl))), (b8, .inl (cI, 36, .inl (nA fo))), (b9, .inl (cI, 36, .inl (nA my)))] := hD
      refine nr_iinc (lv' := [(5, .int (nI (cc0 + 1))), (0, .ref a), (1, .int (nI p0)), (2, .int (nI cl)), (3, .int (nI most)), (4, .int (nI al))]) hx hb d_MD_search_26 hl (k := 5) rfl (by decide) rfl (fun ls hl => ?_)
      refine lv_goto (tgt := 9) hx hb d_MD_search_29 (by decide) ?_
      exact ih (cc0 + 1) (va_up vi cc0 0) (by omega) (by omega) (up_le hvi (Nat.zero_le 1)) (by rw [rZ_s (by omega)] at hq hmp; exact hmp) (by rw [rZ_s (by omega)] at hq; exact hq) _ _ hP hD hS ls (lv_sub hl [1, 2, 3, 4, 5, 0] rfl)
/-- the whole search -/
def mSr (w n p : Nat) (ba : Nat → Nat) (bg cl most : Nat) (vi to : Nat → Nat) : Nat × Nat × M3 := mS w n p ba bg cl most (mOp n ba) (2 * most + 2) 1 0 (mV0 n bg vi, va_up to 0 bg, 0)
set_option maxHeartbeats 1000000 in
set_option maxRecDepth 100000 in
theorem c_MD_search (l : Launch) (D : va_G) (cI cL : ClassId) (a b1 b2 b3 b4 b5 b6 b7 b8 b9 w h g bg th isf : Nat) (ba rw li gi fl fo my : Nat → Nat) (vi to : Nat → Nat) (p0 cl most : Nat) (hw1 : 1 ≤ w) (hw6 : w ≤ 6) (hh6 : h ≤ 6) (hp : p0 < 3) (hcl : cl ≤ 1) (hmost : most ≤ 100000) (hbg : bg < w * h) (hba : ∀ k, ba k ≤ 1) (hto : ∀ k, to k < 36) (hvi : ∀ k, vi k ≤ 1) : CI l y_MD_search (.code y_MD_search b_MD_search 8 (some .int) :: Om) { frames := 4, cells := 0, slots := 0, locals := 118 } D [(a, .inr (5, [.int (nI w), .int (nI h), .int (nI (w * h)), .int (nI g), .ref b1, .ref b2, .ref b3, .int (nI bg), .int (nI 0), .int (nI 0), .int (nI th), .ref b4, .ref b5, .ref b6, .ref b7, .ref b8, .ref b9, .int (nI isf)])), (b1, .inl (cL, 36, .inl (nA ba))), (b2, .inl (cL, 36, .inl (nA vi))), (b3, .inl (cI, 36, .inl (nA to))), (b4, .inl (cI, 6, .inl (mA rw))), (b5, .inl (cI, 6, .inl (mA li))), (b6, .inl (cI, 36, .inl (nA gi))), (b7, .inl (cI, 36, .inl (nA fl))), (b8, .inl (cI, 36, .inl (nA fo))), (b9, .inl (cI, 36, .inl (nA my)))] [(cI, .int), (cL, .boolean)] [.ref a, .int (nI p0), .int (nI cl), .int (nI most)] (fun r u => r = nI (mSr w (w * h) p0 ba bg cl most vi to).1 ∧ u = [(a, .inr (5, [.int (nI w), .int (nI h), .int (nI (w * h)), .int (nI g), .ref b1, .ref b2, .ref b3, .int (nI bg), .int (nI ((mSr w (w * h) p0 ba bg cl most vi to).2.1)), .int (nI ((mSr w (w * h) p0 ba bg cl most vi to).2.2.2.2)), .int (nI th), .ref b4, .ref b5, .ref b6, .ref b7, .ref b8, .ref b9, .int (nI isf)])), (b1, .inl (cL, 36, .inl (nA ba))), (b2, .inl (cL, 36, .inl (nA ((mSr w (w * h) p0 ba bg cl most vi to).2.2.1)))), (b3, .inl (cI, 36, .inl (nA ((mSr w (w * h) p0 ba bg cl most vi to).2.2.2.1)))), (b4, .inl (cI, 6, .inl (mA rw))), (b5, .inl (cI, 6, .inl (mA li))), (b6, .inl (cI, 36, .inl (nA gi))), (b7, .inl (cI, 36, .inl (nA fl))), (b8, .inl (cI, 36, .inl (nA fo))), (b9, .inl (cI, 36, .inl (nA my)))]) := by
  refine en_of (cc := b_MD_search) (Qc := qI D [(cI, .int), (cL, .boolean)] (fun r u => r = nI (mSr w (w * h) p0 ba bg cl most vi to).1 ∧ u = [(a, .inr (5, [.int (nI w), .int (nI h), .int (nI (w * h)), .int (nI g), .ref b1, .ref b2, .ref b3, .int (nI bg), .int (nI ((mSr w (w * h) p0 ba bg cl most vi to).2.1)), .int (nI ((mSr w (w * h) p0 ba bg cl most vi to).2.2.2.2)), .int (nI th), .ref b4, .ref b5, .ref b6, .ref b7, .ref b8, .ref b9, .int (nI isf)])), (b1, .inl (cL, 36, .inl (nA ba))), (b2, .inl (cL, 36, .inl (nA ((mSr w (w * h) p0 ba bg cl most vi to).2.2.1)))), (b3, .inl (cI, 36, .inl (nA ((mSr w (w * h) p0 ba bg cl most vi to).2.2.2.1)))), (b4, .inl (cI, 6, .inl (mA rw))), (b5, .inl (cI, 6, .inl (mA li))), (b6, .inl (cI, 36, .inl (nA gi))), (b7, .inl (cI, 36, .inl (nA fl))), (b8, .inl (cI, 36, .inl (nA fo))), (b9, .inl (cI, 36, .inl (nA my)))])) (by decide) rfl (Nat.le_of_ble_eq_true rfl) ?_
  intro p e s m below meth c A E hnm hP hD hS ls hl
  have hl : lv_has ls 8 [(0, .ref a), (1, .int (nI p0)), (2, .int (nI cl)), (3, .int (nI most))] := hl
  obtain ⟨hx, hb, hml, hown, hts, hr, hlk, hA, hK, hN⟩ := id E
  have ho : ∀ q ∈ Om, q.before _ s = true := fun q h => hts q (List.mem_cons_of_mem _ h)
  have h36 := wh36 hw6 hh6
  have hol := mOp_le (w * h) ba
  refine lv_aload_n hx hb d_MD_search_0 rfl (lv_at hl 0 rfl) ?_
  refine af_i (wc := [(a, .inr (5, [.int (nI w), .int (nI h), .int (nI (w * h)), .int (nI g), .ref b1, .ref b2, .ref b3, .int (nI bg), .int (nI 0), .int (nI 0), .int (nI th), .ref b4, .ref b5, .ref b6, .ref b7, .ref b8, .ref b9, .int (nI isf)])), (b1, .inl (cL, 36, .inl (nA ba))), (b2, .inl (cL, 36, .inl (nA vi))), (b3, .inl (cI, 36, .inl (nA to))), (b4, .inl (cI, 6, .inl (mA rw))), (b5, .inl (cI, 6, .inl (mA li))), (b6, .inl (cI, 36, .inl (nA gi))), (b7, .inl (cI, 36, .inl (nA fl))), (b8, .inl (cI, 36, .inl (nA fo))), (b9, .inl (cI, 36, .inl (nA my)))]) (wr := []) (rest := []) [0, 1, 2, 3, 4, 5, 6, 7, 8, 9] [] hP hD hS hA rfl rfl (by decide) (by decide) (rn_V E (As := []) m_MD_open km_MD_79 (c_MD_open l D cI cL a b1 b2 b3 b4 b5 b6 b7 b8 b9 w h g bg 0 0 th isf ba vi to rw li gi fl fo my hw1 hw6 hh6 hba _) ⟨rfl, rfl, by dsimp only; omega, by dsimp only; omega⟩ (hP.sub [0, 1, 2, 3, 4, 5, 6, 7, 8, 9] rfl) (hD.sub [0, 1, 2, 3, 4, 5, 6, 7, 8, 9] (by decide) rfl) (q0 := 0) (ci := 5) rfl rfl rfl hl.1 rfl (Nat.le_of_ble_eq_true rfl) ⟨Nat.le_of_ble_eq_true rfl, Nat.le_of_ble_eq_true rfl⟩ d_MD_search_1) (fun r_2 u_1 H locs hw hP hD hS => ?_)
  obtain ⟨rfl, rfl⟩ := hw
  have hP : va_P D classes [(a, .inr (5, [.int (nI w), .int (nI h), .int (nI (w * h)), .int (nI g), .ref b1, .ref b2, .ref b3, .int (nI bg), .int (nI 0), .int (nI 0), .int (nI th), .ref b4, .ref b5, .ref b6, .ref b7, .ref b8, .ref b9, .int (nI isf)])), (b1, .inl (cL, 36, .inl (nA ba))), (b2, .inl (cL, 36, .inl (nA vi))), (b3, .inl (cI, 36, .inl (nA to))), (b4, .inl (cI, 6, .inl (mA rw))), (b5, .inl (cI, 6, .inl (mA li))), (b6, .inl (cI, 36, .inl (nA gi))), (b7, .inl (cI, 36, .inl (nA fl))), (b8, .inl (cI, 36, .inl (nA fo))), (b9, .inl (cI, 36, .inl (nA my)))] H := hP
  have hD : va_D A [(a, .inr (5, [.int (nI w), .int (nI h), .int (nI (w * h)), .int (nI g), .ref b1, .ref b2, .ref b3, .int (nI bg), .int (nI 0), .int (nI 0), .int (nI th), .ref b4, .ref b5, .ref b6, .ref b7, .ref b8, .ref b9, .int (nI isf)])), (b1, .inl (cL, 36, .inl (nA ba))), (b2, .inl (cL, 36, .inl (nA vi))), (b3, .inl (cI, 36, .inl (nA to))), (b4, .inl (cI, 6, .inl (mA rw))), (b5, .inl (cI, 6, .inl (mA li))), (b6, .inl (cI, 36, .inl (nA gi))), (b7, .inl (cI, 36, .inl (nA fl))), (b8, .inl (cI, 36, .inl (nA fo))), (b9, .inl (cI, 36, .inl (nA my)))] := hD
  refine lv_istore (lv' := [(4, .int (nI (mOp (w * h) ba))), (0, .ref a), (1, .int (nI p0)), (2, .int (nI cl)), (3, .int (nI most))]) hx hb d_MD_search_4 hl (by decide) rfl (fun ls hl => ?_)
  refine lv_iconst (v := nI 0) hx hb d_MD_search_6 (by decide) ?_
  refine lv_istore (lv' := [(5, .int (nI 0)), (4, .int (nI (mOp (w * h) ba))), (0, .ref a), (1, .int (nI p0)), (2, .int (nI cl)), (3, .int (nI most))]) hx hb d_MD_search_7 hl (by decide) rfl (fun ls hl => ?_)
  exact L_MD_clear a b1 b2 b3 b4 b5 b6 b7 b8 b9 w h g bg th isf ba rw li gi fl fo my to p0 cl most (mOp (w * h) ba) (by omega) hw1 hw6 hh6 hp hcl hmost hbg hba hto E (w * h + 1) 0 vi (by omega) (by omega) hvi (mpi_0 hvi hto hbg h36) ⟨rfl, rfl⟩ _ _ hP hD hS ls (lv_sub hl [2, 3, 4, 5, 1, 0] rfl)
set_option maxHeartbeats 1000000 in
set_option maxRecDepth 100000 in
theorem c_MD_tourOut (l : Launch) (D : va_G) (cI cL : ClassId) (a b1 b2 b3 b4 b5 b6 b7 b8 b9 w h g bg tl sp th isf : Nat) (ba vi to rw li gi fl fo my : Nat → Nat) (x y : Int32) (cl : Nat) (hout : x < 0 ∨ ¬ x ≤ nI 2 ∨ y < 0 ∨ ¬ y ≤ nI 100000) : CI l y_MD_tour (.code y_MD_tour b_MD_tour 4 (some .int) :: Om) { frames := 5, cells := 0, slots := 0, locals := 145 } D [(a, .inr (5, [.int (nI w), .int (nI h), .int (nI (w * h)), .int (nI g), .ref b1, .ref b2, .ref b3, .int (nI bg), .int (nI tl), .int (nI sp), .int (nI th), .ref b4, .ref b5, .ref b6, .ref b7, .ref b8, .ref b9, .int (nI isf)])), (b1, .inl (cL, 36, .inl (nA ba))), (b2, .inl (cL, 36, .inl (nA vi))), (b3, .inl (cI, 36, .inl (nA to))), (b4, .inl (cI, 6, .inl (mA rw))), (b5, .inl (cI, 6, .inl (mA li))), (b6, .inl (cI, 36, .inl (nA gi))), (b7, .inl (cI, 36, .inl (nA fl))), (b8, .inl (cI, 36, .inl (nA fo))), (b9, .inl (cI, 36, .inl (nA my)))] [(cI, .int), (cL, .boolean)] [.ref a, .int x, .int (nI cl), .int y] (fun r u => r = -1 ∧ u = [(a, .inr (5, [.int (nI w), .int (nI h), .int (nI (w * h)), .int (nI g), .ref b1, .ref b2, .ref b3, .int (nI bg), .int (nI tl), .int (nI sp), .int (nI 0), .ref b4, .ref b5, .ref b6, .ref b7, .ref b8, .ref b9, .int (nI isf)])), (b1, .inl (cL, 36, .inl (nA ba))), (b2, .inl (cL, 36, .inl (nA vi))), (b3, .inl (cI, 36, .inl (nA to))), (b4, .inl (cI, 6, .inl (mA rw))), (b5, .inl (cI, 6, .inl (mA li))), (b6, .inl (cI, 36, .inl (nA gi))), (b7, .inl (cI, 36, .inl (nA fl))), (b8, .inl (cI, 36, .inl (nA fo))), (b9, .inl (cI, 36, .inl (nA my)))]) := by
  refine en_of (cc := b_MD_tour) (Qc := qI D [(cI, .int), (cL, .boolean)] (fun r u => r = -1 ∧ u = [(a, .inr (5, [.int (nI w), .int (nI h), .int (nI (w * h)), .int (nI g), .ref b1, .ref b2, .ref b3, .int (nI bg), .int (nI tl), .int (nI sp), .int (nI 0), .ref b4, .ref b5, .ref b6, .ref b7, .ref b8, .ref b9, .int (nI isf)])), (b1, .inl (cL, 36, .inl (nA ba))), (b2, .inl (cL, 36, .inl (nA vi))), (b3, .inl (cI, 36, .inl (nA to))), (b4, .inl (cI, 6, .inl (mA rw))), (b5, .inl (cI, 6, .inl (mA li))), (b6, .inl (cI, 36, .inl (nA gi))), (b7, .inl (cI, 36, .inl (nA fl))), (b8, .inl (cI, 36, .inl (nA fo))), (b9, .inl (cI, 36, .inl (nA my)))])) (by decide) rfl (Nat.le_of_ble_eq_true rfl) ?_
  intro p e s m below meth c A E hnm hP hD hS ls hl
  have hl : lv_has ls 4 [(0, .ref a), (1, .int x), (2, .int (nI cl)), (3, .int y)] := hl
  obtain ⟨hx, hb, hml, hown, hts, hr, hlk, hA, hK, hN⟩ := id E
  have ho : ∀ q ∈ Om, q.before _ s = true := fun q h => hts q (List.mem_cons_of_mem _ h)
  refine lv_aload_n hx hb d_MD_tour_0 rfl (lv_at hl 0 rfl) ?_
  refine lv_iconst (v := nI 0) hx hb d_MD_tour_1 (by decide) ?_
  refine va_put (D := D) (ci := 5) (v := .int (nI 0)) (ty := .int) (C := R_MD) (T := F_MD) (N := 18) hx hb ho j_MD t_MD t_MD_ok n_MD hown hK hP hD hS 0 rfl rfl 10 (by decide) (ho _ kf_MD_55) (fun _ h9 => h9) rfl (by decide +kernel) rfl rfl (Nat.le_of_ble_eq_true rfl) d_MD_tour_2 (fun H locs hP hD hS => ?_)
  have hP : va_P D classes [(a, .inr (5, [.int (nI w), .int (nI h), .int (nI (w * h)), .int (nI g), .ref b1, .ref b2, .ref b3, .int (nI bg), .int (nI tl), .int (nI sp), .int (nI 0), .ref b4, .ref b5, .ref b6, .ref b7, .ref b8, .ref b9, .int (nI isf)])), (b1, .inl (cL, 36, .inl (nA ba))), (b2, .inl (cL, 36, .inl (nA vi))), (b3, .inl (cI, 36, .inl (nA to))), (b4, .inl (cI, 6, .inl (mA rw))), (b5, .inl (cI, 6, .inl (mA li))), (b6, .inl (cI, 36, .inl (nA gi))), (b7, .inl (cI, 36, .inl (nA fl))), (b8, .inl (cI, 36, .inl (nA fo))), (b9, .inl (cI, 36, .inl (nA my)))] H := hP
  have hD : va_D A [(a, .inr (5, [.int (nI w), .int (nI h), .int (nI (w * h)), .int (nI g), .ref b1, .ref b2, .ref b3, .int (nI bg), .int (nI tl), .int (nI sp), .int (nI 0), .ref b4, .ref b5, .ref b6, .ref b7, .ref b8, .ref b9, .int (nI isf)])), (b1, .inl (cL, 36, .inl (nA ba))), (b2, .inl (cL, 36, .inl (nA vi))), (b3, .inl (cI, 36, .inl (nA to))), (b4, .inl (cI, 6, .inl (mA rw))), (b5, .inl (cI, 6, .inl (mA li))), (b6, .inl (cI, 36, .inl (nA gi))), (b7, .inl (cI, 36, .inl (nA fl))), (b8, .inl (cI, 36, .inl (nA fo))), (b9, .inl (cI, 36, .inl (nA my)))] := hD
  refine lv_iload_n hx hb d_MD_tour_5 rfl (lv_at hl 1 rfl) ?_
  refine lv_if_lt (tgt := 24) hx hb d_MD_tour_6 (by decide) (fun h_1 => ?_) (fun h_1 => ?_)
  · refine lv_iconst (v := (-1)) hx hb d_MD_tour_24 (by decide) ?_
    exact rt_i E hP hD hS ⟨rfl, rfl⟩ d_MD_tour_25
  · refine lv_iload_n hx hb d_MD_tour_9 rfl (lv_at hl 1 rfl) ?_
    refine lv_iconst (v := nI 2) hx hb d_MD_tour_10 (by decide) ?_
    refine lv_icmp_gt (tgt := 24) hx hb d_MD_tour_11 (by decide) (fun h_2 => ?_) (fun h_2 => ?_)
    · refine lv_iconst (v := (-1)) hx hb d_MD_tour_24 (by decide) ?_
      exact rt_i E hP hD hS ⟨rfl, rfl⟩ d_MD_tour_25
    · refine lv_iload_n hx hb d_MD_tour_14 rfl (lv_at hl 3 rfl) ?_
      refine lv_if_lt (tgt := 24) hx hb d_MD_tour_15 (by decide) (fun h_3 => ?_) (fun h_3 => ?_)
      · refine lv_iconst (v := (-1)) hx hb d_MD_tour_24 (by decide) ?_
        exact rt_i E hP hD hS ⟨rfl, rfl⟩ d_MD_tour_25
      · refine lv_iload_n hx hb d_MD_tour_18 rfl (lv_at hl 3 rfl) ?_
        refine lv_ldc (v := nI 100000) hx hb hown (ho _ ki_MD_90) d_MD_tour_19 ?_
        refine lv_icmp_le (tgt := 26) hx hb d_MD_tour_21 (by decide) (fun h_4 => ?_) (fun h_4 => ?_)
        · exact absurd hout (by rintro (q | q | q | q); contradiction; exact q (Int32.not_lt.mp (by assumption)); contradiction; contradiction)
        · refine lv_iconst (v := (-1)) hx hb d_MD_tour_24 (by decide) ?_
          exact rt_i E hP hD hS ⟨rfl, rfl⟩ d_MD_tour_25
set_option maxHeartbeats 1000000 in
set_option maxRecDepth 100000 in
theorem c_MD_tourBarred (l : Launch) (D : va_G) (cI cL : ClassId) (a b1 b2 b3 b4 b5 b6 b7 b8 b9 w h g bg tl sp th isf : Nat) (ba vi to rw li gi fl fo my : Nat → Nat) (p0 cl most : Nat) (hw1 : 1 ≤ w) (hw6 : w ≤ 6) (hh6 : h ≤ 6) (hp : p0 < 3) (hcl : cl ≤ 1) (hmost : most ≤ 100000) (hbg : bg < w * h) (hba : ∀ k, ba k ≤ 1) (hb0 : ba bg = 1) : CI l y_MD_tour (.code y_MD_tour b_MD_tour 4 (some .int) :: Om) { frames := 5, cells := 0, slots := 0, locals := 145 } D [(a, .inr (5, [.int (nI w), .int (nI h), .int (nI (w * h)), .int (nI g), .ref b1, .ref b2, .ref b3, .int (nI bg), .int (nI tl), .int (nI sp), .int (nI th), .ref b4, .ref b5, .ref b6, .ref b7, .ref b8, .ref b9, .int (nI isf)])), (b1, .inl (cL, 36, .inl (nA ba))), (b2, .inl (cL, 36, .inl (nA vi))), (b3, .inl (cI, 36, .inl (nA to))), (b4, .inl (cI, 6, .inl (mA rw))), (b5, .inl (cI, 6, .inl (mA li))), (b6, .inl (cI, 36, .inl (nA gi))), (b7, .inl (cI, 36, .inl (nA fl))), (b8, .inl (cI, 36, .inl (nA fo))), (b9, .inl (cI, 36, .inl (nA my)))] [(cI, .int), (cL, .boolean)] [.ref a, .int (nI p0), .int (nI cl), .int (nI most)] (fun r u => r = nI 1 ∧ u = [(a, .inr (5, [.int (nI w), .int (nI h), .int (nI (w * h)), .int (nI g), .ref b1, .ref b2, .ref b3, .int (nI bg), .int (nI 0), .int (nI 0), .int (nI 0), .ref b4, .ref b5, .ref b6, .ref b7, .ref b8, .ref b9, .int (nI isf)])), (b1, .inl (cL, 36, .inl (nA ba))), (b2, .inl (cL, 36, .inl (nA vi))), (b3, .inl (cI, 36, .inl (nA to))), (b4, .inl (cI, 6, .inl (mA rw))), (b5, .inl (cI, 6, .inl (mA li))), (b6, .inl (cI, 36, .inl (nA gi))), (b7, .inl (cI, 36, .inl (nA fl))), (b8, .inl (cI, 36, .inl (nA fo))), (b9, .inl (cI, 36, .inl (nA my)))]) := by
  refine en_of (cc := b_MD_tour) (Qc := qI D [(cI, .int), (cL, .boolean)] (fun r u => r = nI 1 ∧ u = [(a, .inr (5, [.int (nI w), .int (nI h), .int (nI (w * h)), .int (nI g), .ref b1, .ref b2, .ref b3, .int (nI bg), .int (nI 0), .int (nI 0), .int (nI 0), .ref b4, .ref b5, .ref b6, .ref b7, .ref b8, .ref b9, .int (nI isf)])), (b1, .inl (cL, 36, .inl (nA ba))), (b2, .inl (cL, 36, .inl (nA vi))), (b3, .inl (cI, 36, .inl (nA to))), (b4, .inl (cI, 6, .inl (mA rw))), (b5, .inl (cI, 6, .inl (mA li))), (b6, .inl (cI, 36, .inl (nA gi))), (b7, .inl (cI, 36, .inl (nA fl))), (b8, .inl (cI, 36, .inl (nA fo))), (b9, .inl (cI, 36, .inl (nA my)))])) (by decide) rfl (Nat.le_of_ble_eq_true rfl) ?_
  intro p e s m below meth c A E hnm hP hD hS ls hl
  have hl : lv_has ls 4 [(0, .ref a), (1, .int (nI p0)), (2, .int (nI cl)), (3, .int (nI most))] := hl
  obtain ⟨hx, hb, hml, hown, hts, hr, hlk, hA, hK, hN⟩ := id E
  have ho : ∀ q ∈ Om, q.before _ s = true := fun q h => hts q (List.mem_cons_of_mem _ h)
  have h36 := wh36 hw6 hh6
  refine lv_aload_n hx hb d_MD_tour_0 rfl (lv_at hl 0 rfl) ?_
  refine lv_iconst (v := nI 0) hx hb d_MD_tour_1 (by decide) ?_
  refine va_put (D := D) (ci := 5) (v := .int (nI 0)) (ty := .int) (C := R_MD) (T := F_MD) (N := 18) hx hb ho j_MD t_MD t_MD_ok n_MD hown hK hP hD hS 0 rfl rfl 10 (by decide) (ho _ kf_MD_55) (fun _ h9 => h9) rfl (by decide +kernel) rfl rfl (Nat.le_of_ble_eq_true rfl) d_MD_tour_2 (fun H locs hP hD hS => ?_)
  have hP : va_P D classes [(a, .inr (5, [.int (nI w), .int (nI h), .int (nI (w * h)), .int (nI g), .ref b1, .ref b2, .ref b3, .int (nI bg), .int (nI tl), .int (nI sp), .int (nI 0), .ref b4, .ref b5, .ref b6, .ref b7, .ref b8, .ref b9, .int (nI isf)])), (b1, .inl (cL, 36, .inl (nA ba))), (b2, .inl (cL, 36, .inl (nA vi))), (b3, .inl (cI, 36, .inl (nA to))), (b4, .inl (cI, 6, .inl (mA rw))), (b5, .inl (cI, 6, .inl (mA li))), (b6, .inl (cI, 36, .inl (nA gi))), (b7, .inl (cI, 36, .inl (nA fl))), (b8, .inl (cI, 36, .inl (nA fo))), (b9, .inl (cI, 36, .inl (nA my)))] H := hP
  have hD : va_D A [(a, .inr (5, [.int (nI w), .int (nI h), .int (nI (w * h)), .int (nI g), .ref b1, .ref b2, .ref b3, .int (nI bg), .int (nI tl), .int (nI sp), .int (nI 0), .ref b4, .ref b5, .ref b6, .ref b7, .ref b8, .ref b9, .int (nI isf)])), (b1, .inl (cL, 36, .inl (nA ba))), (b2, .inl (cL, 36, .inl (nA vi))), (b3, .inl (cI, 36, .inl (nA to))), (b4, .inl (cI, 6, .inl (mA rw))), (b5, .inl (cI, 6, .inl (mA li))), (b6, .inl (cI, 36, .inl (nA gi))), (b7, .inl (cI, 36, .inl (nA fl))), (b8, .inl (cI, 36, .inl (nA fo))), (b9, .inl (cI, 36, .inl (nA my)))] := hD
  refine lv_iload_n hx hb d_MD_tour_5 rfl (lv_at hl 1 rfl) ?_
  refine nr_if_lt (tgt := 24) hx hb d_MD_tour_6 (by decide) (by omega) ?_
  refine lv_iload_n hx hb d_MD_tour_9 rfl (lv_at hl 1 rfl) ?_
  refine lv_iconst (v := nI 2) hx hb d_MD_tour_10 (by decide) ?_
  refine nr_icmp_gt (tgt := 24) hx hb d_MD_tour_11 (by decide) (by omega) (by omega) (fun h9 => absurd h9 (by omega)) (fun _ => ?_)
  refine lv_iload_n hx hb d_MD_tour_14 rfl (lv_at hl 3 rfl) ?_
  refine nr_if_lt (tgt := 24) hx hb d_MD_tour_15 (by decide) (by omega) ?_
  refine lv_iload_n hx hb d_MD_tour_18 rfl (lv_at hl 3 rfl) ?_
  refine lv_ldc (v := nI 100000) hx hb hown (ho _ ki_MD_90) d_MD_tour_19 ?_
  refine nr_icmp_le (tgt := 26) hx hb d_MD_tour_21 (by decide) (by omega) (by omega) (fun _ => ?_) (fun h9 => absurd h9 (by omega))
  refine lv_aload_n hx hb d_MD_tour_26 rfl (lv_at hl 0 rfl) ?_
  refine lv_iconst (v := nI 0) hx hb d_MD_tour_27 (by decide) ?_
  refine va_put (D := D) (ci := 5) (v := .int (nI 0)) (ty := .int) (C := R_MD) (T := F_MD) (N := 18) hx hb ho j_MD t_MD t_MD_ok n_MD hown hK hP hD hS 0 rfl rfl 8 (by decide) (ho _ kf_MD_62) (fun _ h9 => h9) rfl (by decide +kernel) rfl rfl (Nat.le_of_ble_eq_true rfl) d_MD_tour_28 (fun H locs hP hD hS => ?_)
  have hP : va_P D classes [(a, .inr (5, [.int (nI w), .int (nI h), .int (nI (w * h)), .int (nI g), .ref b1, .ref b2, .ref b3, .int (nI bg), .int (nI 0), .int (nI sp), .int (nI 0), .ref b4, .ref b5, .ref b6, .ref b7, .ref b8, .ref b9, .int (nI isf)])), (b1, .inl (cL, 36, .inl (nA ba))), (b2, .inl (cL, 36, .inl (nA vi))), (b3, .inl (cI, 36, .inl (nA to))), (b4, .inl (cI, 6, .inl (mA rw))), (b5, .inl (cI, 6, .inl (mA li))), (b6, .inl (cI, 36, .inl (nA gi))), (b7, .inl (cI, 36, .inl (nA fl))), (b8, .inl (cI, 36, .inl (nA fo))), (b9, .inl (cI, 36, .inl (nA my)))] H := hP
  have hD : va_D A [(a, .inr (5, [.int (nI w), .int (nI h), .int (nI (w * h)), .int (nI g), .ref b1, .ref b2, .ref b3, .int (nI bg), .int (nI 0), .int (nI sp), .int (nI 0), .ref b4, .ref b5, .ref b6, .ref b7, .ref b8, .ref b9, .int (nI isf)])), (b1, .inl (cL, 36, .inl (nA ba))), (b2, .inl (cL, 36, .inl (nA vi))), (b3, .inl (cI, 36, .inl (nA to))), (b4, .inl (cI, 6, .inl (mA rw))), (b5, .inl (cI, 6, .inl (mA li))), (b6, .inl (cI, 36, .inl (nA gi))), (b7, .inl (cI, 36, .inl (nA fl))), (b8, .inl (cI, 36, .inl (nA fo))), (b9, .inl (cI, 36, .inl (nA my)))] := hD
  refine lv_aload_n hx hb d_MD_tour_31 rfl (lv_at hl 0 rfl) ?_
  refine lv_iconst (v := nI 0) hx hb d_MD_tour_32 (by decide) ?_
  refine va_put (D := D) (ci := 5) (v := .int (nI 0)) (ty := .int) (C := R_MD) (T := F_MD) (N := 18) hx hb ho j_MD t_MD t_MD_ok n_MD hown hK hP hD hS 0 rfl rfl 9 (by decide) (ho _ kf_MD_87) (fun _ h9 => h9) rfl (by decide +kernel) rfl rfl (Nat.le_of_ble_eq_true rfl) d_MD_tour_33 (fun H locs hP hD hS => ?_)
  have hP : va_P D classes [(a, .inr (5, [.int (nI w), .int (nI h), .int (nI (w * h)), .int (nI g), .ref b1, .ref b2, .ref b3, .int (nI bg), .int (nI 0), .int (nI 0), .int (nI 0), .ref b4, .ref b5, .ref b6, .ref b7, .ref b8, .ref b9, .int (nI isf)])), (b1, .inl (cL, 36, .inl (nA ba))), (b2, .inl (cL, 36, .inl (nA vi))), (b3, .inl (cI, 36, .inl (nA to))), (b4, .inl (cI, 6, .inl (mA rw))), (b5, .inl (cI, 6, .inl (mA li))), (b6, .inl (cI, 36, .inl (nA gi))), (b7, .inl (cI, 36, .inl (nA fl))), (b8, .inl (cI, 36, .inl (nA fo))), (b9, .inl (cI, 36, .inl (nA my)))] H := hP
  have hD : va_D A [(a, .inr (5, [.int (nI w), .int (nI h), .int (nI (w * h)), .int (nI g), .ref b1, .ref b2, .ref b3, .int (nI bg), .int (nI 0), .int (nI 0), .int (nI 0), .ref b4, .ref b5, .ref b6, .ref b7, .ref b8, .ref b9, .int (nI isf)])), (b1, .inl (cL, 36, .inl (nA ba))), (b2, .inl (cL, 36, .inl (nA vi))), (b3, .inl (cI, 36, .inl (nA to))), (b4, .inl (cI, 6, .inl (mA rw))), (b5, .inl (cI, 6, .inl (mA li))), (b6, .inl (cI, 36, .inl (nA gi))), (b7, .inl (cI, 36, .inl (nA fl))), (b8, .inl (cI, 36, .inl (nA fo))), (b9, .inl (cI, 36, .inl (nA my)))] := hD
  refine lv_aload_n hx hb d_MD_tour_36 rfl (lv_at hl 0 rfl) ?_
  refine va_get (D := D) (ci := 5) (v := .ref b1) (C := R_MD) (T := F_MD) (N := 18) hx hb ho j_MD hown hK hP 0 rfl rfl 4 (by decide) (ho _ kf_MD_7) (fun _ h9 => h9) rfl d_MD_tour_37 ?_
  refine lv_aload_n hx hb d_MD_tour_40 rfl (lv_at hl 0 rfl) ?_
  refine va_get (D := D) (ci := 5) (v := .int (nI bg)) (C := R_MD) (T := F_MD) (N := 18) hx hb ho j_MD hown hK hP 0 rfl rfl 7 (by decide) (ho _ kf_MD_65) (fun _ h9 => h9) rfl d_MD_tour_41 ?_
  refine nr_zald hx hb hK hP 1 1 rfl rfl (i := bg) (by omega) (by decide) d_MD_tour_44 ?_
  refine nr_if_eq (tgt := 52) hx hb d_MD_tour_45 (by decide) (by omega) (fun h9 => absurd h9 (by omega)) (fun _ => ?_)
  refine lv_iconst (v := nI 1) hx hb d_MD_tour_48 (by decide) ?_
  refine lv_goto (tgt := 59) hx hb d_MD_tour_49 (by decide) ?_
  exact rt_i E hP hD hS ⟨rfl, rfl⟩ d_MD_tour_59
set_option maxHeartbeats 1000000 in
set_option maxRecDepth 100000 in
theorem c_MD_tourRun (l : Launch) (D : va_G) (cI cL : ClassId) (a b1 b2 b3 b4 b5 b6 b7 b8 b9 w h g bg tl sp th isf : Nat) (ba vi to rw li gi fl fo my : Nat → Nat) (p0 cl most : Nat) (hw1 : 1 ≤ w) (hw6 : w ≤ 6) (hh6 : h ≤ 6) (hp : p0 < 3) (hcl : cl ≤ 1) (hmost : most ≤ 100000) (hbg : bg < w * h) (hba : ∀ k, ba k ≤ 1) (hb0 : ba bg = 0) (hto : ∀ k, to k < 36) (hvi : ∀ k, vi k ≤ 1) : CI l y_MD_tour (.code y_MD_tour b_MD_tour 4 (some .int) :: Om) { frames := 5, cells := 0, slots := 0, locals := 145 } D [(a, .inr (5, [.int (nI w), .int (nI h), .int (nI (w * h)), .int (nI g), .ref b1, .ref b2, .ref b3, .int (nI bg), .int (nI tl), .int (nI sp), .int (nI th), .ref b4, .ref b5, .ref b6, .ref b7, .ref b8, .ref b9, .int (nI isf)])), (b1, .inl (cL, 36, .inl (nA ba))), (b2, .inl (cL, 36, .inl (nA vi))), (b3, .inl (cI, 36, .inl (nA to))), (b4, .inl (cI, 6, .inl (mA rw))), (b5, .inl (cI, 6, .inl (mA li))), (b6, .inl (cI, 36, .inl (nA gi))), (b7, .inl (cI, 36, .inl (nA fl))), (b8, .inl (cI, 36, .inl (nA fo))), (b9, .inl (cI, 36, .inl (nA my)))] [(cI, .int), (cL, .boolean)] [.ref a, .int (nI p0), .int (nI cl), .int (nI most)] (fun r u => r = nI (mSr w (w * h) p0 ba bg cl most vi to).1 ∧ u = [(a, .inr (5, [.int (nI w), .int (nI h), .int (nI (w * h)), .int (nI g), .ref b1, .ref b2, .ref b3, .int (nI bg), .int (nI ((mSr w (w * h) p0 ba bg cl most vi to).2.1)), .int (nI ((mSr w (w * h) p0 ba bg cl most vi to).2.2.2.2)), .int (nI 0), .ref b4, .ref b5, .ref b6, .ref b7, .ref b8, .ref b9, .int (nI isf)])), (b1, .inl (cL, 36, .inl (nA ba))), (b2, .inl (cL, 36, .inl (nA ((mSr w (w * h) p0 ba bg cl most vi to).2.2.1)))), (b3, .inl (cI, 36, .inl (nA ((mSr w (w * h) p0 ba bg cl most vi to).2.2.2.1)))), (b4, .inl (cI, 6, .inl (mA rw))), (b5, .inl (cI, 6, .inl (mA li))), (b6, .inl (cI, 36, .inl (nA gi))), (b7, .inl (cI, 36, .inl (nA fl))), (b8, .inl (cI, 36, .inl (nA fo))), (b9, .inl (cI, 36, .inl (nA my)))]) := by
  refine en_of (cc := b_MD_tour) (Qc := qI D [(cI, .int), (cL, .boolean)] (fun r u => r = nI (mSr w (w * h) p0 ba bg cl most vi to).1 ∧ u = [(a, .inr (5, [.int (nI w), .int (nI h), .int (nI (w * h)), .int (nI g), .ref b1, .ref b2, .ref b3, .int (nI bg), .int (nI ((mSr w (w * h) p0 ba bg cl most vi to).2.1)), .int (nI ((mSr w (w * h) p0 ba bg cl most vi to).2.2.2.2)), .int (nI 0), .ref b4, .ref b5, .ref b6, .ref b7, .ref b8, .ref b9, .int (nI isf)])), (b1, .inl (cL, 36, .inl (nA ba))), (b2, .inl (cL, 36, .inl (nA ((mSr w (w * h) p0 ba bg cl most vi to).2.2.1)))), (b3, .inl (cI, 36, .inl (nA ((mSr w (w * h) p0 ba bg cl most vi to).2.2.2.1)))), (b4, .inl (cI, 6, .inl (mA rw))), (b5, .inl (cI, 6, .inl (mA li))), (b6, .inl (cI, 36, .inl (nA gi))), (b7, .inl (cI, 36, .inl (nA fl))), (b8, .inl (cI, 36, .inl (nA fo))), (b9, .inl (cI, 36, .inl (nA my)))])) (by decide) rfl (Nat.le_of_ble_eq_true rfl) ?_
  intro p e s m below meth c A E hnm hP hD hS ls hl
  have hl : lv_has ls 4 [(0, .ref a), (1, .int (nI p0)), (2, .int (nI cl)), (3, .int (nI most))] := hl
  obtain ⟨hx, hb, hml, hown, hts, hr, hlk, hA, hK, hN⟩ := id E
  have ho : ∀ q ∈ Om, q.before _ s = true := fun q h => hts q (List.mem_cons_of_mem _ h)
  have h36 := wh36 hw6 hh6
  refine lv_aload_n hx hb d_MD_tour_0 rfl (lv_at hl 0 rfl) ?_
  refine lv_iconst (v := nI 0) hx hb d_MD_tour_1 (by decide) ?_
  refine va_put (D := D) (ci := 5) (v := .int (nI 0)) (ty := .int) (C := R_MD) (T := F_MD) (N := 18) hx hb ho j_MD t_MD t_MD_ok n_MD hown hK hP hD hS 0 rfl rfl 10 (by decide) (ho _ kf_MD_55) (fun _ h9 => h9) rfl (by decide +kernel) rfl rfl (Nat.le_of_ble_eq_true rfl) d_MD_tour_2 (fun H locs hP hD hS => ?_)
  have hP : va_P D classes [(a, .inr (5, [.int (nI w), .int (nI h), .int (nI (w * h)), .int (nI g), .ref b1, .ref b2, .ref b3, .int (nI bg), .int (nI tl), .int (nI sp), .int (nI 0), .ref b4, .ref b5, .ref b6, .ref b7, .ref b8, .ref b9, .int (nI isf)])), (b1, .inl (cL, 36, .inl (nA ba))), (b2, .inl (cL, 36, .inl (nA vi))), (b3, .inl (cI, 36, .inl (nA to))), (b4, .inl (cI, 6, .inl (mA rw))), (b5, .inl (cI, 6, .inl (mA li))), (b6, .inl (cI, 36, .inl (nA gi))), (b7, .inl (cI, 36, .inl (nA fl))), (b8, .inl (cI, 36, .inl (nA fo))), (b9, .inl (cI, 36, .inl (nA my)))] H := hP
  have hD : va_D A [(a, .inr (5, [.int (nI w), .int (nI h), .int (nI (w * h)), .int (nI g), .ref b1, .ref b2, .ref b3, .int (nI bg), .int (nI tl), .int (nI sp), .int (nI 0), .ref b4, .ref b5, .ref b6, .ref b7, .ref b8, .ref b9, .int (nI isf)])), (b1, .inl (cL, 36, .inl (nA ba))), (b2, .inl (cL, 36, .inl (nA vi))), (b3, .inl (cI, 36, .inl (nA to))), (b4, .inl (cI, 6, .inl (mA rw))), (b5, .inl (cI, 6, .inl (mA li))), (b6, .inl (cI, 36, .inl (nA gi))), (b7, .inl (cI, 36, .inl (nA fl))), (b8, .inl (cI, 36, .inl (nA fo))), (b9, .inl (cI, 36, .inl (nA my)))] := hD
  refine lv_iload_n hx hb d_MD_tour_5 rfl (lv_at hl 1 rfl) ?_
  refine nr_if_lt (tgt := 24) hx hb d_MD_tour_6 (by decide) (by omega) ?_
  refine lv_iload_n hx hb d_MD_tour_9 rfl (lv_at hl 1 rfl) ?_
  refine lv_iconst (v := nI 2) hx hb d_MD_tour_10 (by decide) ?_
  refine nr_icmp_gt (tgt := 24) hx hb d_MD_tour_11 (by decide) (by omega) (by omega) (fun h9 => absurd h9 (by omega)) (fun _ => ?_)
  refine lv_iload_n hx hb d_MD_tour_14 rfl (lv_at hl 3 rfl) ?_
  refine nr_if_lt (tgt := 24) hx hb d_MD_tour_15 (by decide) (by omega) ?_
  refine lv_iload_n hx hb d_MD_tour_18 rfl (lv_at hl 3 rfl) ?_
  refine lv_ldc (v := nI 100000) hx hb hown (ho _ ki_MD_90) d_MD_tour_19 ?_
  refine nr_icmp_le (tgt := 26) hx hb d_MD_tour_21 (by decide) (by omega) (by omega) (fun _ => ?_) (fun h9 => absurd h9 (by omega))
  refine lv_aload_n hx hb d_MD_tour_26 rfl (lv_at hl 0 rfl) ?_
  refine lv_iconst (v := nI 0) hx hb d_MD_tour_27 (by decide) ?_
  refine va_put (D := D) (ci := 5) (v := .int (nI 0)) (ty := .int) (C := R_MD) (T := F_MD) (N := 18) hx hb ho j_MD t_MD t_MD_ok n_MD hown hK hP hD hS 0 rfl rfl 8 (by decide) (ho _ kf_MD_62) (fun _ h9 => h9) rfl (by decide +kernel) rfl rfl (Nat.le_of_ble_eq_true rfl) d_MD_tour_28 (fun H locs hP hD hS => ?_)
  have hP : va_P D classes [(a, .inr (5, [.int (nI w), .int (nI h), .int (nI (w * h)), .int (nI g), .ref b1, .ref b2, .ref b3, .int (nI bg), .int (nI 0), .int (nI sp), .int (nI 0), .ref b4, .ref b5, .ref b6, .ref b7, .ref b8, .ref b9, .int (nI isf)])), (b1, .inl (cL, 36, .inl (nA ba))), (b2, .inl (cL, 36, .inl (nA vi))), (b3, .inl (cI, 36, .inl (nA to))), (b4, .inl (cI, 6, .inl (mA rw))), (b5, .inl (cI, 6, .inl (mA li))), (b6, .inl (cI, 36, .inl (nA gi))), (b7, .inl (cI, 36, .inl (nA fl))), (b8, .inl (cI, 36, .inl (nA fo))), (b9, .inl (cI, 36, .inl (nA my)))] H := hP
  have hD : va_D A [(a, .inr (5, [.int (nI w), .int (nI h), .int (nI (w * h)), .int (nI g), .ref b1, .ref b2, .ref b3, .int (nI bg), .int (nI 0), .int (nI sp), .int (nI 0), .ref b4, .ref b5, .ref b6, .ref b7, .ref b8, .ref b9, .int (nI isf)])), (b1, .inl (cL, 36, .inl (nA ba))), (b2, .inl (cL, 36, .inl (nA vi))), (b3, .inl (cI, 36, .inl (nA to))), (b4, .inl (cI, 6, .inl (mA rw))), (b5, .inl (cI, 6, .inl (mA li))), (b6, .inl (cI, 36, .inl (nA gi))), (b7, .inl (cI, 36, .inl (nA fl))), (b8, .inl (cI, 36, .inl (nA fo))), (b9, .inl (cI, 36, .inl (nA my)))] := hD
  refine lv_aload_n hx hb d_MD_tour_31 rfl (lv_at hl 0 rfl) ?_
  refine lv_iconst (v := nI 0) hx hb d_MD_tour_32 (by decide) ?_
  refine va_put (D := D) (ci := 5) (v := .int (nI 0)) (ty := .int) (C := R_MD) (T := F_MD) (N := 18) hx hb ho j_MD t_MD t_MD_ok n_MD hown hK hP hD hS 0 rfl rfl 9 (by decide) (ho _ kf_MD_87) (fun _ h9 => h9) rfl (by decide +kernel) rfl rfl (Nat.le_of_ble_eq_true rfl) d_MD_tour_33 (fun H locs hP hD hS => ?_)
  have hP : va_P D classes [(a, .inr (5, [.int (nI w), .int (nI h), .int (nI (w * h)), .int (nI g), .ref b1, .ref b2, .ref b3, .int (nI bg), .int (nI 0), .int (nI 0), .int (nI 0), .ref b4, .ref b5, .ref b6, .ref b7, .ref b8, .ref b9, .int (nI isf)])), (b1, .inl (cL, 36, .inl (nA ba))), (b2, .inl (cL, 36, .inl (nA vi))), (b3, .inl (cI, 36, .inl (nA to))), (b4, .inl (cI, 6, .inl (mA rw))), (b5, .inl (cI, 6, .inl (mA li))), (b6, .inl (cI, 36, .inl (nA gi))), (b7, .inl (cI, 36, .inl (nA fl))), (b8, .inl (cI, 36, .inl (nA fo))), (b9, .inl (cI, 36, .inl (nA my)))] H := hP
  have hD : va_D A [(a, .inr (5, [.int (nI w), .int (nI h), .int (nI (w * h)), .int (nI g), .ref b1, .ref b2, .ref b3, .int (nI bg), .int (nI 0), .int (nI 0), .int (nI 0), .ref b4, .ref b5, .ref b6, .ref b7, .ref b8, .ref b9, .int (nI isf)])), (b1, .inl (cL, 36, .inl (nA ba))), (b2, .inl (cL, 36, .inl (nA vi))), (b3, .inl (cI, 36, .inl (nA to))), (b4, .inl (cI, 6, .inl (mA rw))), (b5, .inl (cI, 6, .inl (mA li))), (b6, .inl (cI, 36, .inl (nA gi))), (b7, .inl (cI, 36, .inl (nA fl))), (b8, .inl (cI, 36, .inl (nA fo))), (b9, .inl (cI, 36, .inl (nA my)))] := hD
  refine lv_aload_n hx hb d_MD_tour_36 rfl (lv_at hl 0 rfl) ?_
  refine va_get (D := D) (ci := 5) (v := .ref b1) (C := R_MD) (T := F_MD) (N := 18) hx hb ho j_MD hown hK hP 0 rfl rfl 4 (by decide) (ho _ kf_MD_7) (fun _ h9 => h9) rfl d_MD_tour_37 ?_
  refine lv_aload_n hx hb d_MD_tour_40 rfl (lv_at hl 0 rfl) ?_
  refine va_get (D := D) (ci := 5) (v := .int (nI bg)) (C := R_MD) (T := F_MD) (N := 18) hx hb ho j_MD hown hK hP 0 rfl rfl 7 (by decide) (ho _ kf_MD_65) (fun _ h9 => h9) rfl d_MD_tour_41 ?_
  refine nr_zald hx hb hK hP 1 1 rfl rfl (i := bg) (by omega) (by decide) d_MD_tour_44 ?_
  refine nr_if_eq (tgt := 52) hx hb d_MD_tour_45 (by decide) (by omega) (fun _ => ?_) (fun h9 => absurd h9 (by omega))
  refine lv_aload_n hx hb d_MD_tour_52 rfl (lv_at hl 0 rfl) ?_
  refine lv_iload_n hx hb d_MD_tour_53 rfl (lv_at hl 1 rfl) ?_
  refine lv_iload_n hx hb d_MD_tour_54 rfl (lv_at hl 2 rfl) ?_
  refine lv_iload_n hx hb d_MD_tour_55 rfl (lv_at hl 3 rfl) ?_
  refine af_i (wc := [(a, .inr (5, [.int (nI w), .int (nI h), .int (nI (w * h)), .int (nI g), .ref b1, .ref b2, .ref b3, .int (nI bg), .int (nI 0), .int (nI 0), .int (nI 0), .ref b4, .ref b5, .ref b6, .ref b7, .ref b8, .ref b9, .int (nI isf)])), (b1, .inl (cL, 36, .inl (nA ba))), (b2, .inl (cL, 36, .inl (nA vi))), (b3, .inl (cI, 36, .inl (nA to))), (b4, .inl (cI, 6, .inl (mA rw))), (b5, .inl (cI, 6, .inl (mA li))), (b6, .inl (cI, 36, .inl (nA gi))), (b7, .inl (cI, 36, .inl (nA fl))), (b8, .inl (cI, 36, .inl (nA fo))), (b9, .inl (cI, 36, .inl (nA my)))]) (wr := []) (rest := []) [0, 1, 2, 3, 4, 5, 6, 7, 8, 9] [] hP hD hS hA rfl rfl (by decide) (by decide) (rn_V E (As := [.int (nI p0), .int (nI cl), .int (nI most)]) m_MD_search km_MD_91 (c_MD_search l D cI cL a b1 b2 b3 b4 b5 b6 b7 b8 b9 w h g bg 0 isf ba rw li gi fl fo my vi to p0 cl most hw1 hw6 hh6 (by omega) (by omega) (by omega) hbg hba hto hvi _) ⟨rfl, rfl, by dsimp only; omega, by dsimp only; omega⟩ (hP.sub [0, 1, 2, 3, 4, 5, 6, 7, 8, 9] rfl) (hD.sub [0, 1, 2, 3, 4, 5, 6, 7, 8, 9] (by decide) rfl) (q0 := 0) (ci := 5) rfl rfl rfl hl.1 rfl (Nat.le_of_ble_eq_true rfl) ⟨Nat.le_of_ble_eq_true rfl, Nat.le_of_ble_eq_true rfl⟩ d_MD_tour_56) (fun r_2 u_1 H locs hw hP hD hS => ?_)
  obtain ⟨rfl, rfl⟩ := hw
  have hP : va_P D classes [(a, .inr (5, [.int (nI w), .int (nI h), .int (nI (w * h)), .int (nI g), .ref b1, .ref b2, .ref b3, .int (nI bg), .int (nI ((mSr w (w * h) p0 ba bg cl most vi to).2.1)), .int (nI ((mSr w (w * h) p0 ba bg cl most vi to).2.2.2.2)), .int (nI 0), .ref b4, .ref b5, .ref b6, .ref b7, .ref b8, .ref b9, .int (nI isf)])), (b1, .inl (cL, 36, .inl (nA ba))), (b2, .inl (cL, 36, .inl (nA ((mSr w (w * h) p0 ba bg cl most vi to).2.2.1)))), (b3, .inl (cI, 36, .inl (nA ((mSr w (w * h) p0 ba bg cl most vi to).2.2.2.1)))), (b4, .inl (cI, 6, .inl (mA rw))), (b5, .inl (cI, 6, .inl (mA li))), (b6, .inl (cI, 36, .inl (nA gi))), (b7, .inl (cI, 36, .inl (nA fl))), (b8, .inl (cI, 36, .inl (nA fo))), (b9, .inl (cI, 36, .inl (nA my)))] H := hP
  have hD : va_D A [(a, .inr (5, [.int (nI w), .int (nI h), .int (nI (w * h)), .int (nI g), .ref b1, .ref b2, .ref b3, .int (nI bg), .int (nI ((mSr w (w * h) p0 ba bg cl most vi to).2.1)), .int (nI ((mSr w (w * h) p0 ba bg cl most vi to).2.2.2.2)), .int (nI 0), .ref b4, .ref b5, .ref b6, .ref b7, .ref b8, .ref b9, .int (nI isf)])), (b1, .inl (cL, 36, .inl (nA ba))), (b2, .inl (cL, 36, .inl (nA ((mSr w (w * h) p0 ba bg cl most vi to).2.2.1)))), (b3, .inl (cI, 36, .inl (nA ((mSr w (w * h) p0 ba bg cl most vi to).2.2.2.1)))), (b4, .inl (cI, 6, .inl (mA rw))), (b5, .inl (cI, 6, .inl (mA li))), (b6, .inl (cI, 36, .inl (nA gi))), (b7, .inl (cI, 36, .inl (nA fl))), (b8, .inl (cI, 36, .inl (nA fo))), (b9, .inl (cI, 36, .inl (nA my)))] := hD
  exact rt_i E hP hD hS ⟨rfl, rfl⟩ d_MD_tour_59
