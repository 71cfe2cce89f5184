/-! the reference: ways on, the next cell, queens that stand, what fits -/
/-- counting the cells with a property -/
def mCt (n : Nat) (q : Nat → Bool) : Nat → Nat → Nat → Nat
  | 0, _, x => x
  | m + 1, c, x => if c < n then mCt n q m (c + 1) (if q c = true then x + 1 else x) else x
theorem mCt_le (n : Nat) (q : Nat → Bool) : ∀ m c x, mCt n q m c x ≤ x + m := by
  intro m
  induction m with
  | zero => intro c x; exact Nat.le_refl _
  | succ m ih =>
    intro c x
    rw [mCt]
    split
    · have := ih (c + 1) (if q c = true then x + 1 else x)
      have h2 : (if q c = true then x + 1 else x) ≤ x + 1 := by split <;> omega
      omega
    · omega
abbrev mWq (w p : Nat) (ba vi : Nat → Nat) (cell c : Nat) : Bool := decide (ba c = 0 ∧ vi c = 0 ∧ mGo w p cell c = 1)
abbrev mVq (w p : Nat) (ba : Nat → Nat) (cell c : Nat) : Bool := decide (ba c = 0 ∧ mGo w p cell c = 1)
/-- how many ways on from a cell -/
def mWo (w n p : Nat) (ba vi : Nat → Nat) (cell : Nat) : Nat := mCt n (mWq w p ba vi cell) (n + 1) 0 0
def mWy (w n p : Nat) (ba : Nat → Nat) (cell : Nat) : Nat := mCt n (mVq w p ba cell) (n + 1) 0 0
def mOp (n : Nat) (ba : Nat → Nat) : Nat := mCt n (fun c => decide (ba c = 0)) (n + 1) 0 0
theorem mWo_le (w n p : Nat) (ba vi : Nat → Nat) (cell : Nat) : mWo w n p ba vi cell ≤ n + 1 := by
  have := mCt_le n (mWq w p ba vi cell) (n + 1) 0 0
  unfold mWo
  omega
set_option maxHeartbeats 1000000 in
set_option maxRecDepth 100000 in
theorem L_MD_waysOn {p : Program} {l : Launch} {e : Env} {s : State} {m : MethodId} {args : Array Value} {below : List Frame} {meth : Method} {c : Code} {A : Nat → Prop} {D : va_G} {cI cL : ClassId} {c0 : Cond} {post : Int32 → va_W → Prop} (a b1 b2 b3 b4 b5 b6 b7 b8 b9 w h g bg tl sp th isf : Nat) (ba vi to rw li gi fl fo my : Nat → Nat) (p0 c1 : Nat) (hw1 : 1 ≤ w) (hw6 : w ≤ 6) (hh6 : h ≤ 6) (hp : p0 < 3) (hc1 : c1 < 36) (hba : ∀ k, ba k ≤ 1) (hvi : ∀ k, vi k ≤ 1) (E : En p s m args meth c b_MD_waysOn 5 (c0 :: Om) R_MD (some .int) A D [(cI, .int), (cL, .boolean)]) : ∀ (m1 : Nat) (cc0 : Nat) (x : Nat), cc0 ≤ w * h → w * h < cc0 + m1 → x ≤ cc0 → post (nI (mCt (w * h) (mWq w p0 ba vi c1) m1 cc0 x)) [(a, .inr (5, [.int (nI w), .int (nI h), .int (nI (w * h)), .int (nI g), .ref b1, .ref b2, .ref b3, .int (nI bg), .int (nI tl), .int (nI sp), .int (nI th), .ref b4, .ref b5, .ref b6, .ref b7, .ref b8, .ref b9, .int (nI isf)])), (b1, .inl (cL, 36, .inl (nA ba))), (b2, .inl (cL, 36, .inl (nA vi))), (b3, .inl (cI, 36, .inl (nA to))), (b4, .inl (cI, 6, .inl (mA rw))), (b5, .inl (cI, 6, .inl (mA li))), (b6, .inl (cI, 36, .inl (nA gi))), (b7, .inl (cI, 36, .inl (nA fl))), (b8, .inl (cI, 36, .inl (nA fo))), (b9, .inl (cI, 36, .inl (nA my)))] → ∀ (H : Heap) (locs : List Loc), va_P D classes [(a, .inr (5, [.int (nI w), .int (nI h), .int (nI (w * h)), .int (nI g), .ref b1, .ref b2, .ref b3, .int (nI bg), .int (nI tl), .int (nI sp), .int (nI th), .ref b4, .ref b5, .ref b6, .ref b7, .ref b8, .ref b9, .int (nI isf)])), (b1, .inl (cL, 36, .inl (nA ba))), (b2, .inl (cL, 36, .inl (nA vi))), (b3, .inl (cI, 36, .inl (nA to))), (b4, .inl (cI, 6, .inl (mA rw))), (b5, .inl (cI, 6, .inl (mA li))), (b6, .inl (cI, 36, .inl (nA gi))), (b7, .inl (cI, 36, .inl (nA fl))), (b8, .inl (cI, 36, .inl (nA fo))), (b9, .inl (cI, 36, .inl (nA my)))] H → va_D A [(a, .inr (5, [.int (nI w), .int (nI h), .int (nI (w * h)), .int (nI g), .ref b1, .ref b2, .ref b3, .int (nI bg), .int (nI tl), .int (nI sp), .int (nI th), .ref b4, .ref b5, .ref b6, .ref b7, .ref b8, .ref b9, .int (nI isf)])), (b1, .inl (cL, 36, .inl (nA ba))), (b2, .inl (cL, 36, .inl (nA vi))), (b3, .inl (cI, 36, .inl (nA to))), (b4, .inl (cI, 6, .inl (mA rw))), (b5, .inl (cI, 6, .inl (mA li))), (b6, .inl (cI, 36, .inl (nA gi))), (b7, .inl (cI, 36, .inl (nA fl))), (b8, .inl (cI, 36, .inl (nA fo))), (b9, .inl (cI, 36, .inl (nA my)))] → va_S A s.heap H locs → ∀ ls : Array Slot, lv_has ls 5 [(0, .ref a), (1, .int (nI p0)), (2, .int (nI c1)), (3, .int (nI x)), (4, .int (nI cc0))] → W p l e { frames := 2, cells := 0, slots := 0, locals := 65 } s m args below meth c H locs 0 0 (MQ below (qI D [(cI, .int), (cL, .boolean)] post A) args s 0 0 A) (F0 m 5 ls []) := by
  obtain ⟨hx, hb, hml, hown, hts, hr, hlk, hA, hK, hN⟩ := id E
  have ho : ∀ q ∈ Om, q.before _ s = true := fun q h => hts q (List.mem_cons_of_mem _ h)
  intro m1
  induction m1 with
  | zero =>
    intro cc0 x h1 h2 hx9 hq
    exact absurd h2 (by omega)
  | succ m1 ih =>
    intro cc0 x h1 h2 hx9 hq H locs hP hD hS ls hl
    refine lv_iload hx hb d_MD_waysOn_5 (lv_at hl 4 rfl) ?_
    have h36 := wh36 hw6 hh6
    refine lv_aload_n hx hb d_MD_waysOn_7 rfl (lv_at hl 0 rfl) ?_
    refine va_get (D := D) (ci := 5) (v := .int (nI (w * h))) (C := R_MD) (T := F_MD) (N := 18) hx hb ho j_MD hown hK hP 0 rfl rfl 2 (by decide) (ho _ kf_MD_49) (fun _ h9 => h9) rfl d_MD_waysOn_8 ?_
    refine nr_icmp_ge (tgt := 54) hx hb d_MD_waysOn_11 (by decide) (by omega) (by omega) (fun h_1 => ?_) (fun h_1 => ?_)
    · refine lv_iload_n hx hb d_MD_waysOn_54 rfl (lv_at hl 3 rfl) ?_
      exact rt_i E hP hD hS (by rw [mCt, if_neg (by omega)] at hq; exact hq) d_MD_waysOn_55
    · have h36 := wh36 hw6 hh6
      have hb1 := hba cc0
      have hv1 := hvi cc0
      refine lv_aload_n hx hb d_MD_waysOn_14 rfl (lv_at hl 0 rfl) ?_
      refine va_get (D := D) (ci := 5) (v := .ref b1) (C := R_MD) (T := F_MD) (N := 18) hx hb ho j_MD hown hK hP 0 rfl rfl 4 (by decide) (ho _ kf_MD_7) (fun _ h9 => h9) rfl d_MD_waysOn_15 ?_
      refine lv_iload hx hb d_MD_waysOn_18 (lv_at hl 4 rfl) ?_
      refine nr_zald hx hb hK hP 1 1 rfl rfl (i := cc0) (by omega) (by decide) d_MD_waysOn_20 ?_
      refine nr_if_ne (tgt := 48) hx hb d_MD_waysOn_21 (by decide) (by omega) (fun h_2 => ?_) (fun h_2 => ?_)
      · refine nr_iinc (lv' := [(4, .int (nI (cc0 + 1))), (0, .ref a), (1, .int (nI p0)), (2, .int (nI c1)), (3, .int (nI x))]) hx hb d_MD_waysOn_48 hl (k := 4) rfl (by decide) rfl (fun ls hl => ?_)
        refine lv_goto (tgt := 5) hx hb d_MD_waysOn_51 (by decide) ?_
        exact ih (cc0 + 1) x (by omega) (by omega) (by omega) (by rw [mCt, if_pos (by omega), if_neg (fun z => by have z := of_decide_eq_true z; omega)] at hq; exact hq) _ _ hP hD hS ls (lv_sub hl [1, 2, 3, 4, 0] rfl)
      · refine lv_aload_n hx hb d_MD_waysOn_24 rfl (lv_at hl 0 rfl) ?_
        refine va_get (D := D) (ci := 5) (v := .ref b2) (C := R_MD) (T := F_MD) (N := 18) hx hb ho j_MD hown hK hP 0 rfl rfl 5 (by decide) (ho _ kf_MD_13) (fun _ h9 => h9) rfl d_MD_waysOn_25 ?_
        refine lv_iload hx hb d_MD_waysOn_28 (lv_at hl 4 rfl) ?_
        refine nr_zald hx hb hK hP 2 1 rfl rfl (i := cc0) (by omega) (by decide) d_MD_waysOn_30 ?_
        refine nr_if_ne (tgt := 48) hx hb d_MD_waysOn_31 (by decide) (by omega) (fun h_3 => ?_) (fun h_3 => ?_)
        · refine nr_iinc (lv' := [(4, .int (nI (cc0 + 1))), (0, .ref a), (1, .int (nI p0)), (2, .int (nI c1)), (3, .int (nI x))]) hx hb d_MD_waysOn_48 hl (k := 4) rfl (by decide) rfl (fun ls hl => ?_)
          refine lv_goto (tgt := 5) hx hb d_MD_waysOn_51 (by decide) ?_
          exact ih (cc0 + 1) x (by omega) (by omega) (by omega) (by rw [mCt, if_pos (by omega), if_neg (fun z => by have z := of_decide_eq_true z; omega)] at hq; exact hq) _ _ hP hD hS ls (lv_sub hl [1, 2, 3, 4, 0] rfl)
        · refine lv_aload_n hx hb d_MD_waysOn_34 rfl (lv_at hl 0 rfl) ?_
          refine lv_iload_n hx hb d_MD_waysOn_35 rfl (lv_at hl 1 rfl) ?_
          refine lv_iload_n hx hb d_MD_waysOn_36 rfl (lv_at hl 2 rfl) ?_
          refine lv_iload hx hb d_MD_waysOn_37 (lv_at hl 4 rfl) ?_
          have hgo := mGo_1 w p0 c1 cc0
          refine af_i (wc := [(a, .inr (5, [.int (nI w), .int (nI h), .int (nI (w * h)), .int (nI g), .ref b1, .ref b2, .ref b3, .int (nI bg), .int (nI tl), .int (nI sp), .int (nI th), .ref b4, .ref b5, .ref b6, .ref b7, .ref b8, .ref b9, .int (nI isf)])), (b1, .inl (cL, 36, .inl (nA ba))), (b2, .inl (cL, 36, .inl (nA vi))), (b3, .inl (cI, 36, .inl (nA to))), (b4, .inl (cI, 6, .inl (mA rw))), (b5, .inl (cI, 6, .inl (mA li))), (b6, .inl (cI, 36, .inl (nA gi))), (b7, .inl (cI, 36, .inl (nA fl))), (b8, .inl (cI, 36, .inl (nA fo))), (b9, .inl (cI, 36, .inl (nA my)))]) (wr := []) (rest := []) [0, 1, 2, 3, 4, 5, 6, 7, 8, 9] [] hP hD hS hA rfl rfl (by decide) (by decide) (rn_V E (As := [.int (nI p0), .int (nI c1), .int (nI cc0)]) m_MD_goes km_MD_72 (c_MD_goes l D cI cL a b1 b2 b3 b4 b5 b6 b7 b8 b9 w h g bg tl sp th isf ba vi to rw li gi fl fo my p0 c1 cc0 hw1 hw6 hh6 (by omega) (by omega) (by omega) _) ⟨rfl, rfl, by dsimp only; omega, by dsimp only; omega⟩ (hP.sub [0, 1, 2, 3, 4, 5, 6, 7, 8, 9] rfl) (hD.sub [0, 1, 2, 3, 4, 5, 6, 7, 8, 9] (by decide) rfl) (q0 := 0) (ci := 5) rfl rfl rfl hl.1 rfl (Nat.le_of_ble_eq_true rfl) ⟨Nat.le_of_ble_eq_true rfl, Nat.le_of_ble_eq_true rfl⟩ d_MD_waysOn_39) (fun r_5 u_4 H locs hw hP hD hS => ?_)
          obtain ⟨rfl, rfl⟩ := hw
          have hP : va_P D classes [(a, .inr (5, [.int (nI w), .int (nI h), .int (nI (w * h)), .int (nI g), .ref b1, .ref b2, .ref b3, .int (nI bg), .int (nI tl), .int (nI sp), .int (nI th), .ref b4, .ref b5, .ref b6, .ref b7, .ref b8, .ref b9, .int (nI isf)])), (b1, .inl (cL, 36, .inl (nA ba))), (b2, .inl (cL, 36, .inl (nA vi))), (b3, .inl (cI, 36, .inl (nA to))), (b4, .inl (cI, 6, .inl (mA rw))), (b5, .inl (cI, 6, .inl (mA li))), (b6, .inl (cI, 36, .inl (nA gi))), (b7, .inl (cI, 36, .inl (nA fl))), (b8, .inl (cI, 36, .inl (nA fo))), (b9, .inl (cI, 36, .inl (nA my)))] H := hP
          have hD : va_D A [(a, .inr (5, [.int (nI w), .int (nI h), .int (nI (w * h)), .int (nI g), .ref b1, .ref b2, .ref b3, .int (nI bg), .int (nI tl), .int (nI sp), .int (nI th), .ref b4, .ref b5, .ref b6, .ref b7, .ref b8, .ref b9, .int (nI isf)])), (b1, .inl (cL, 36, .inl (nA ba))), (b2, .inl (cL, 36, .inl (nA vi))), (b3, .inl (cI, 36, .inl (nA to))), (b4, .inl (cI, 6, .inl (mA rw))), (b5, .inl (cI, 6, .inl (mA li))), (b6, .inl (cI, 36, .inl (nA gi))), (b7, .inl (cI, 36, .inl (nA fl))), (b8, .inl (cI, 36, .inl (nA fo))), (b9, .inl (cI, 36, .inl (nA my)))] := hD
          refine nr_if_eq (tgt := 48) hx hb d_MD_waysOn_42 (by decide) (by omega) (fun h_6 => ?_) (fun h_6 => ?_)
          · refine nr_iinc (lv' := [(4, .int (nI (cc0 + 1))), (0, .ref a), (1, .int (nI p0)), (2, .int (nI c1)), (3, .int (nI x))]) hx hb d_MD_waysOn_48 hl (k := 4) rfl (by decide) rfl (fun ls hl => ?_)
            refine lv_goto (tgt := 5) hx hb d_MD_waysOn_51 (by decide) ?_
            exact ih (cc0 + 1) x (by omega) (by omega) (by omega) (by rw [mCt, if_pos (by omega), if_neg (fun z => by have z := of_decide_eq_true z; omega)] at hq; exact hq) _ _ hP hD hS ls (lv_sub hl [1, 2, 3, 4, 0] rfl)
          · refine nr_iinc (lv' := [(3, .int (nI (x + 1))), (0, .ref a), (1, .int (nI p0)), (2, .int (nI c1)), (4, .int (nI cc0))]) hx hb d_MD_waysOn_45 hl (k := 3) rfl (by decide) rfl (fun ls hl => ?_)
            refine nr_iinc (lv' := [(4, .int (nI (cc0 + 1))), (3, .int (nI (x + 1))), (0, .ref a), (1, .int (nI p0)), (2, .int (nI c1))]) hx hb d_MD_waysOn_48 hl (k := 4) rfl (by decide) rfl (fun ls hl => ?_)
            refine lv_goto (tgt := 5) hx hb d_MD_waysOn_51 (by decide) ?_
            exact ih (cc0 + 1) (x + 1) (by omega) (by omega) (by omega) (by rw [mCt, if_pos (by omega), if_pos (decide_eq_true (by exact ⟨by omega, by omega, by omega⟩))] at hq; exact hq) _ _ hP hD hS ls (lv_sub hl [2, 3, 4, 1, 0] rfl)
set_option maxHeartbeats 1000000 in
set_option maxRecDepth 100000 in
theorem c_MD_waysOn (l : Launch) (D : va_G) (cI cL : ClassId) (a b1 b2 b3 b4 b5 b6 b7 b8 b9 w h g bg tl sp th isf : Nat) (ba vi to rw li gi fl fo my : Nat → Nat) (p0 c1 : Nat) (hw1 : 1 ≤ w) (hw6 : w ≤ 6) (hh6 : h ≤ 6) (hp : p0 < 3) (hc1 : c1 < 36) (hba : ∀ k, ba k ≤ 1) (hvi : ∀ k, vi k ≤ 1) : CI l y_MD_waysOn (.code y_MD_waysOn b_MD_waysOn 5 (some .int) :: Om) { frames := 2, cells := 0, slots := 0, locals := 65 } D [(a, .inr (5, [.int (nI w), .int (nI h), .int (nI (w * h)), .int (nI g), .ref b1, .ref b2, .ref b3, .int (nI bg), .int (nI tl), .int (nI sp), .int (nI th), .ref b4, .ref b5, .ref b6, .ref b7, .ref b8, .ref b9, .int (nI isf)])), (b1, .inl (cL, 36, .inl (nA ba))), (b2, .inl (cL, 36, .inl (nA vi))), (b3, .inl (cI, 36, .inl (nA to))), (b4, .inl (cI, 6, .inl (mA rw))), (b5, .inl (cI, 6, .inl (mA li))), (b6, .inl (cI, 36, .inl (nA gi))), (b7, .inl (cI, 36, .inl (nA fl))), (b8, .inl (cI, 36, .inl (nA fo))), (b9, .inl (cI, 36, .inl (nA my)))] [(cI, .int), (cL, .boolean)] [.ref a, .int (nI p0), .int (nI c1)] (fun r u => r = nI (mWo w (w * h) p0 ba vi c1) ∧ u = [(a, .inr (5, [.int (nI w), .int (nI h), .int (nI (w * h)), .int (nI g), .ref b1, .ref b2, .ref b3, .int (nI bg), .int (nI tl), .int (nI sp), .int (nI th), .ref b4, .ref b5, .ref b6, .ref b7, .ref b8, .ref b9, .int (nI isf)])), (b1, .inl (cL, 36, .inl (nA ba))), (b2, .inl (cL, 36, .inl (nA vi))), (b3, .inl (cI, 36, .inl (nA to))), (b4, .inl (cI, 6, .inl (mA rw))), (b5, .inl (cI, 6, .inl (mA li))), (b6, .inl (cI, 36, .inl (nA gi))), (b7, .inl (cI, 36, .inl (nA fl))), (b8, .inl (cI, 36, .inl (nA fo))), (b9, .inl (cI, 36, .inl (nA my)))]) := by
  refine en_of (cc := b_MD_waysOn) (Qc := qI D [(cI, .int), (cL, .boolean)] (fun r u => r = nI (mWo w (w * h) p0 ba vi c1) ∧ u = [(a, .inr (5, [.int (nI w), .int (nI h), .int (nI (w * h)), .int (nI g), .ref b1, .ref b2, .ref b3, .int (nI bg), .int (nI tl), .int (nI sp), .int (nI th), .ref b4, .ref b5, .ref b6, .ref b7, .ref b8, .ref b9, .int (nI isf)])), (b1, .inl (cL, 36, .inl (nA ba))), (b2, .inl (cL, 36, .inl (nA vi))), (b3, .inl (cI, 36, .inl (nA to))), (b4, .inl (cI, 6, .inl (mA rw))), (b5, .inl (cI, 6, .inl (mA li))), (b6, .inl (cI, 36, .inl (nA gi))), (b7, .inl (cI, 36, .inl (nA fl))), (b8, .inl (cI, 36, .inl (nA fo))), (b9, .inl (cI, 36, .inl (nA my)))])) (by decide) rfl (Nat.le_of_ble_eq_true rfl) ?_
  intro p e s m below meth c A E hnm hP hD hS ls hl
  have hl : lv_has ls 5 [(0, .ref a), (1, .int (nI p0)), (2, .int (nI c1))] := hl
  obtain ⟨hx, hb, hml, hown, hts, hr, hlk, hA, hK, hN⟩ := id E
  have ho : ∀ q ∈ Om, q.before _ s = true := fun q h => hts q (List.mem_cons_of_mem _ h)
  refine lv_iconst (v := nI 0) hx hb d_MD_waysOn_0 (by decide) ?_
  refine lv_istore_n (lv' := [(3, .int (nI 0)), (0, .ref a), (1, .int (nI p0)), (2, .int (nI c1))]) hx hb d_MD_waysOn_1 rfl hl (by decide) rfl (fun ls hl => ?_)
  refine lv_iconst (v := nI 0) hx hb d_MD_waysOn_2 (by decide) ?_
  refine lv_istore (lv' := [(4, .int (nI 0)), (3, .int (nI 0)), (0, .ref a), (1, .int (nI p0)), (2, .int (nI c1))]) hx hb d_MD_waysOn_3 hl (by decide) rfl (fun ls hl => ?_)
  exact L_MD_waysOn a b1 b2 b3 b4 b5 b6 b7 b8 b9 w h g bg tl sp th isf ba vi to rw li gi fl fo my p0 c1 hw1 hw6 hh6 hp hc1 hba hvi E (w * h + 1) 0 0 (by omega) (by omega) (by omega) ⟨rfl, rfl⟩ _ _ hP hD hS ls (lv_sub hl [2, 3, 4, 1, 0] rfl)
set_option maxHeartbeats 1000000 in
set_option maxRecDepth 100000 in
theorem L_MD_ways {p : Program} {l : Launch} {e : Env} {s : State} {m : MethodId} {args : Array Value} {below : List Frame} {meth : Method} {c : Code} {A : Nat → Prop} {D : va_G} {cI cL : ClassId} {c0 : Cond} {post : Int32 → va_W → Prop} (a b1 b2 b3 b4 b5 b6 b7 b8 b9 w h g bg tl sp th isf : Nat) (ba vi to rw li gi fl fo my : Nat → Nat) (p0 c1 : Nat) (hw1 : 1 ≤ w) (hw6 : w ≤ 6) (hh6 : h ≤ 6) (hp : p0 < 3) (hc1 : c1 < 36) (hba : ∀ k, ba k ≤ 1) (E : En p s m args meth c b_MD_ways 5 (c0 :: Om) R_MD (some .int) A D [(cI, .int), (cL, .boolean)]) : ∀ (m1 : Nat) (cc0 : Nat) (x : Nat), cc0 ≤ w * h → w * h < cc0 + m1 → x ≤ cc0 → post (nI (mCt (w * h) (mVq w p0 ba c1) m1 cc0 x)) [(a, .inr (5, [.int (nI w), .int (nI h), .int (nI (w * h)), .int (nI g), .ref b1, .ref b2, .ref b3, .int (nI bg), .int (nI tl), .int (nI sp), .int (nI th), .ref b4, .ref b5, .ref b6, .ref b7, .ref b8, .ref b9, .int (nI isf)])), (b1, .inl (cL, 36, .inl (nA ba))), (b2, .inl (cL, 36, .inl (nA vi))), (b3, .inl (cI, 36, .inl (nA to))), (b4, .inl (cI, 6, .inl (mA rw))), (b5, .inl (cI, 6, .inl (mA li))), (b6, .inl (cI, 36, .inl (nA gi))), (b7, .inl (cI, 36, .inl (nA fl))), (b8, .inl (cI, 36, .inl (nA fo))), (b9, .inl (cI, 36, .inl (nA my)))] → ∀ (H : Heap) (locs : List Loc), va_P D classes [(a, .inr (5, [.int (nI w), .int (nI h), .int (nI (w * h)), .int (nI g), .ref b1, .ref b2, .ref b3, .int (nI bg), .int (nI tl), .int (nI sp), .int (nI th), .ref b4, .ref b5, .ref b6, .ref b7, .ref b8, .ref b9, .int (nI isf)])), (b1, .inl (cL, 36, .inl (nA ba))), (b2, .inl (cL, 36, .inl (nA vi))), (b3, .inl (cI, 36, .inl (nA to))), (b4, .inl (cI, 6, .inl (mA rw))), (b5, .inl (cI, 6, .inl (mA li))), (b6, .inl (cI, 36, .inl (nA gi))), (b7, .inl (cI, 36, .inl (nA fl))), (b8, .inl (cI, 36, .inl (nA fo))), (b9, .inl (cI, 36, .inl (nA my)))] H → va_D A [(a, .inr (5, [.int (nI w), .int (nI h), .int (nI (w * h)), .int (nI g), .ref b1, .ref b2, .ref b3, .int (nI bg), .int (nI tl), .int (nI sp), .int (nI th), .ref b4, .ref b5, .ref b6, .ref b7, .ref b8, .ref b9, .int (nI isf)])), (b1, .inl (cL, 36, .inl (nA ba))), (b2, .inl (cL, 36, .inl (nA vi))), (b3, .inl (cI, 36, .inl (nA to))), (b4, .inl (cI, 6, .inl (mA rw))), (b5, .inl (cI, 6, .inl (mA li))), (b6, .inl (cI, 36, .inl (nA gi))), (b7, .inl (cI, 36, .inl (nA fl))), (b8, .inl (cI, 36, .inl (nA fo))), (b9, .inl (cI, 36, .inl (nA my)))] → va_S A s.heap H locs → ∀ ls : Array Slot, lv_has ls 5 [(0, .ref a), (1, .int (nI p0)), (2, .int (nI c1)), (3, .int (nI x)), (4, .int (nI cc0))] → W p l e { frames := 2, cells := 0, slots := 0, locals := 65 } s m args below meth c H locs 0 0 (MQ below (qI D [(cI, .int), (cL, .boolean)] post A) args s 0 0 A) (F0 m 33 ls []) := by
  obtain ⟨hx, hb, hml, hown, hts, hr, hlk, hA, hK, hN⟩ := id E
  have ho : ∀ q ∈ Om, q.before _ s = true := fun q h => hts q (List.mem_cons_of_mem _ h)
  intro m1
  induction m1 with
  | zero =>
    intro cc0 x h1 h2 hx9 hq
    exact absurd h2 (by omega)
  | succ m1 ih =>
    intro cc0 x h1 h2 hx9 hq H locs hP hD hS ls hl
    refine lv_iload hx hb d_MD_ways_33 (lv_at hl 4 rfl) ?_
    have h36 := wh36 hw6 hh6
    refine lv_aload_n hx hb d_MD_ways_35 rfl (lv_at hl 0 rfl) ?_
    refine va_get (D := D) (ci := 5) (v := .int (nI (w * h))) (C := R_MD) (T := F_MD) (N := 18) hx hb ho j_MD hown hK hP 0 rfl rfl 2 (by decide) (ho _ kf_MD_49) (fun _ h9 => h9) rfl d_MD_ways_36 ?_
    refine nr_icmp_ge (tgt := 72) hx hb d_MD_ways_39 (by decide) (by omega) (by omega) (fun h_1 => ?_) (fun h_1 => ?_)
    · refine lv_iload_n hx hb d_MD_ways_72 rfl (lv_at hl 3 rfl) ?_
      exact rt_i E hP hD hS (by rw [mCt, if_neg (by omega)] at hq; exact hq) d_MD_ways_73
    · have h36 := wh36 hw6 hh6
      have hb1 := hba cc0
      refine lv_aload_n hx hb d_MD_ways_42 rfl (lv_at hl 0 rfl) ?_
      refine va_get (D := D) (ci := 5) (v := .ref b1) (C := R_MD) (T := F_MD) (N := 18) hx hb ho j_MD hown hK hP 0 rfl rfl 4 (by decide) (ho _ kf_MD_7) (fun _ h9 => h9) rfl d_MD_ways_43 ?_
      refine lv_iload hx hb d_MD_ways_46 (lv_at hl 4 rfl) ?_
      refine nr_zald hx hb hK hP 1 1 rfl rfl (i := cc0) (by omega) (by decide) d_MD_ways_48 ?_
      refine nr_if_ne (tgt := 66) hx hb d_MD_ways_49 (by decide) (by omega) (fun h_2 => ?_) (fun h_2 => ?_)
      · refine nr_iinc (lv' := [(4, .int (nI (cc0 + 1))), (0, .ref a), (1, .int (nI p0)), (2, .int (nI c1)), (3, .int (nI x))]) hx hb d_MD_ways_66 hl (k := 4) rfl (by decide) rfl (fun ls hl => ?_)
        refine lv_goto (tgt := 33) hx hb d_MD_ways_69 (by decide) ?_
        exact ih (cc0 + 1) x (by omega) (by omega) (by omega) (by rw [mCt, if_pos (by omega), if_neg (fun z => by have z := of_decide_eq_true z; omega)] at hq; exact hq) _ _ hP hD hS ls (lv_sub hl [1, 2, 3, 4, 0] rfl)
      · refine lv_aload_n hx hb d_MD_ways_52 rfl (lv_at hl 0 rfl) ?_
        refine lv_iload_n hx hb d_MD_ways_53 rfl (lv_at hl 1 rfl) ?_
        refine lv_iload_n hx hb d_MD_ways_54 rfl (lv_at hl 2 rfl) ?_
        refine lv_iload hx hb d_MD_ways_55 (lv_at hl 4 rfl) ?_
        have hgo := mGo_1 w p0 c1 cc0
        refine af_i (wc := [(a, .inr (5, [.int (nI w), .int (nI h), .int (nI (w * h)), .int (nI g), .ref b1, .ref b2, .ref b3, .int (nI bg), .int (nI tl), .int (nI sp), .int (nI th), .ref b4, .ref b5, .ref b6, .ref b7, .ref b8, .ref b9, .int (nI isf)])), (b1, .inl (cL, 36, .inl (nA ba))), (b2, .inl (cL, 36, .inl (nA vi))), (b3, .inl (cI, 36, .inl (nA to))), (b4, .inl (cI, 6, .inl (mA rw))), (b5, .inl (cI, 6, .inl (mA li))), (b6, .inl (cI, 36, .inl (nA gi))), (b7, .inl (cI, 36, .inl (nA fl))), (b8, .inl (cI, 36, .inl (nA fo))), (b9, .inl (cI, 36, .inl (nA my)))]) (wr := []) (rest := []) [0, 1, 2, 3, 4, 5, 6, 7, 8, 9] [] hP hD hS hA rfl rfl (by decide) (by decide) (rn_V E (As := [.int (nI p0), .int (nI c1), .int (nI cc0)]) m_MD_goes km_MD_72 (c_MD_goes l D cI cL a b1 b2 b3 b4 b5 b6 b7 b8 b9 w h g bg tl sp th isf ba vi to rw li gi fl fo my p0 c1 cc0 hw1 hw6 hh6 (by omega) (by omega) (by omega) _) ⟨rfl, rfl, by dsimp only; omega, by dsimp only; omega⟩ (hP.sub [0, 1, 2, 3, 4, 5, 6, 7, 8, 9] rfl) (hD.sub [0, 1, 2, 3, 4, 5, 6, 7, 8, 9] (by decide) rfl) (q0 := 0) (ci := 5) rfl rfl rfl hl.1 rfl (Nat.le_of_ble_eq_true rfl) ⟨Nat.le_of_ble_eq_true rfl, Nat.le_of_ble_eq_true rfl⟩ d_MD_ways_57) (fun r_4 u_3 H locs hw hP hD hS => ?_)
        obtain ⟨rfl, rfl⟩ := hw
        have hP : va_P D classes [(a, .inr (5, [.int (nI w), .int (nI h), .int (nI (w * h)), .int (nI g), .ref b1, .ref b2, .ref b3, .int (nI bg), .int (nI tl), .int (nI sp), .int (nI th), .ref b4, .ref b5, .ref b6, .ref b7, .ref b8, .ref b9, .int (nI isf)])), (b1, .inl (cL, 36, .inl (nA ba))), (b2, .inl (cL, 36, .inl (nA vi))), (b3, .inl (cI, 36, .inl (nA to))), (b4, .inl (cI, 6, .inl (mA rw))), (b5, .inl (cI, 6, .inl (mA li))), (b6, .inl (cI, 36, .inl (nA gi))), (b7, .inl (cI, 36, .inl (nA fl))), (b8, .inl (cI, 36, .inl (nA fo))), (b9, .inl (cI, 36, .inl (nA my)))] H := hP
        have hD : va_D A [(a, .inr (5, [.int (nI w), .int (nI h), .int (nI (w * h)), .int (nI g), .ref b1, .ref b2, .ref b3, .int (nI bg), .int (nI tl), .int (nI sp), .int (nI th), .ref b4, .ref b5, .ref b6, .ref b7, .ref b8, .ref b9, .int (nI isf)])), (b1, .inl (cL, 36, .inl (nA ba))), (b2, .inl (cL, 36, .inl (nA vi))), (b3, .inl (cI, 36, .inl (nA to))), (b4, .inl (cI, 6, .inl (mA rw))), (b5, .inl (cI, 6, .inl (mA li))), (b6, .inl (cI, 36, .inl (nA gi))), (b7, .inl (cI, 36, .inl (nA fl))), (b8, .inl (cI, 36, .inl (nA fo))), (b9, .inl (cI, 36, .inl (nA my)))] := hD
        refine nr_if_eq (tgt := 66) hx hb d_MD_ways_60 (by decide) (by omega) (fun h_5 => ?_) (fun h_5 => ?_)
        · refine nr_iinc (lv' := [(4, .int (nI (cc0 + 1))), (0, .ref a), (1, .int (nI p0)), (2, .int (nI c1)), (3, .int (nI x))]) hx hb d_MD_ways_66 hl (k := 4) rfl (by decide) rfl (fun ls hl => ?_)
          refine lv_goto (tgt := 33) hx hb d_MD_ways_69 (by decide) ?_
          exact ih (cc0 + 1) x (by omega) (by omega) (by omega) (by rw [mCt, if_pos (by omega), if_neg (fun z => by have z := of_decide_eq_true z; omega)] at hq; exact hq) _ _ hP hD hS ls (lv_sub hl [1, 2, 3, 4, 0] rfl)
        · refine nr_iinc (lv' := [(3, .int (nI (x + 1))), (0, .ref a), (1, .int (nI p0)), (2, .int (nI c1)), (4, .int (nI cc0))]) hx hb d_MD_ways_63 hl (k := 3) rfl (by decide) rfl (fun ls hl => ?_)
          refine nr_iinc (lv' := [(4, .int (nI (cc0 + 1))), (3, .int (nI (x + 1))), (0, .ref a), (1, .int (nI p0)), (2, .int (nI c1))]) hx hb d_MD_ways_66 hl (k := 4) rfl (by decide) rfl (fun ls hl => ?_)
          refine lv_goto (tgt := 33) hx hb d_MD_ways_69 (by decide) ?_
          exact ih (cc0 + 1) (x + 1) (by omega) (by omega) (by omega) (by rw [mCt, if_pos (by omega), if_pos (decide_eq_true (by exact ⟨by omega, by omega⟩))] at hq; exact hq) _ _ hP hD hS ls (lv_sub hl [2, 3, 4, 1, 0] rfl)
set_option maxHeartbeats 1000000 in
set_option maxRecDepth 100000 in
theorem c_MD_waysOut (l : Launch) (D : va_G) (cI cL : ClassId) (a b1 b2 b3 b4 b5 b6 b7 b8 b9 w h g bg tl sp th isf : Nat) (ba vi to rw li gi fl fo my : Nat → Nat) (x y : Int32) (hout : x < 0 ∨ ¬ x ≤ nI 2 ∨ y < 0 ∨ ¬ y < nI (w * h)) : CI l y_MD_ways (.code y_MD_ways b_MD_ways 5 (some .int) :: Om) { frames := 2, cells := 0, slots := 0, locals := 65 } D [(a, .inr (5, [.int (nI w), .int (nI h), .int (nI (w * h)), .int (nI g), .ref b1, .ref b2, .ref b3, .int (nI bg), .int (nI tl), .int (nI sp), .int (nI th), .ref b4, .ref b5, .ref b6, .ref b7, .ref b8, .ref b9, .int (nI isf)])), (b1, .inl (cL, 36, .inl (nA ba))), (b2, .inl (cL, 36, .inl (nA vi))), (b3, .inl (cI, 36, .inl (nA to))), (b4, .inl (cI, 6, .inl (mA rw))), (b5, .inl (cI, 6, .inl (mA li))), (b6, .inl (cI, 36, .inl (nA gi))), (b7, .inl (cI, 36, .inl (nA fl))), (b8, .inl (cI, 36, .inl (nA fo))), (b9, .inl (cI, 36, .inl (nA my)))] [(cI, .int), (cL, .boolean)] [.ref a, .int x, .int y] (fun r u => r = -1 ∧ u = [(a, .inr (5, [.int (nI w), .int (nI h), .int (nI (w * h)), .int (nI g), .ref b1, .ref b2, .ref b3, .int (nI bg), .int (nI tl), .int (nI sp), .int (nI 0), .ref b4, .ref b5, .ref b6, .ref b7, .ref b8, .ref b9, .int (nI isf)])), (b1, .inl (cL, 36, .inl (nA ba))), (b2, .inl (cL, 36, .inl (nA vi))), (b3, .inl (cI, 36, .inl (nA to))), (b4, .inl (cI, 6, .inl (mA rw))), (b5, .inl (cI, 6, .inl (mA li))), (b6, .inl (cI, 36, .inl (nA gi))), (b7, .inl (cI, 36, .inl (nA fl))), (b8, .inl (cI, 36, .inl (nA fo))), (b9, .inl (cI, 36, .inl (nA my)))]) := by
  refine en_of (cc := b_MD_ways) (Qc := qI D [(cI, .int), (cL, .boolean)] (fun r u => r = -1 ∧ u = [(a, .inr (5, [.int (nI w), .int (nI h), .int (nI (w * h)), .int (nI g), .ref b1, .ref b2, .ref b3, .int (nI bg), .int (nI tl), .int (nI sp), .int (nI 0), .ref b4, .ref b5, .ref b6, .ref b7, .ref b8, .ref b9, .int (nI isf)])), (b1, .inl (cL, 36, .inl (nA ba))), (b2, .inl (cL, 36, .inl (nA vi))), (b3, .inl (cI, 36, .inl (nA to))), (b4, .inl (cI, 6, .inl (mA rw))), (b5, .inl (cI, 6, .inl (mA li))), (b6, .inl (cI, 36, .inl (nA gi))), (b7, .inl (cI, 36, .inl (nA fl))), (b8, .inl (cI, 36, .inl (nA fo))), (b9, .inl (cI, 36, .inl (nA my)))])) (by decide) rfl (Nat.le_of_ble_eq_true rfl) ?_
  intro p e s m below meth c A E hnm hP hD hS ls hl
  have hl : lv_has ls 5 [(0, .ref a), (1, .int x), (2, .int y)] := hl
  obtain ⟨hx, hb, hml, hown, hts, hr, hlk, hA, hK, hN⟩ := id E
  have ho : ∀ q ∈ Om, q.before _ s = true := fun q h => hts q (List.mem_cons_of_mem _ h)
  refine lv_aload_n hx hb d_MD_ways_0 rfl (lv_at hl 0 rfl) ?_
  refine lv_iconst (v := nI 0) hx hb d_MD_ways_1 (by decide) ?_
  refine va_put (D := D) (ci := 5) (v := .int (nI 0)) (ty := .int) (C := R_MD) (T := F_MD) (N := 18) hx hb ho j_MD t_MD t_MD_ok n_MD hown hK hP hD hS 0 rfl rfl 10 (by decide) (ho _ kf_MD_55) (fun _ h9 => h9) rfl (by decide +kernel) rfl rfl (Nat.le_of_ble_eq_true rfl) d_MD_ways_2 (fun H locs hP hD hS => ?_)
  have hP : va_P D classes [(a, .inr (5, [.int (nI w), .int (nI h), .int (nI (w * h)), .int (nI g), .ref b1, .ref b2, .ref b3, .int (nI bg), .int (nI tl), .int (nI sp), .int (nI 0), .ref b4, .ref b5, .ref b6, .ref b7, .ref b8, .ref b9, .int (nI isf)])), (b1, .inl (cL, 36, .inl (nA ba))), (b2, .inl (cL, 36, .inl (nA vi))), (b3, .inl (cI, 36, .inl (nA to))), (b4, .inl (cI, 6, .inl (mA rw))), (b5, .inl (cI, 6, .inl (mA li))), (b6, .inl (cI, 36, .inl (nA gi))), (b7, .inl (cI, 36, .inl (nA fl))), (b8, .inl (cI, 36, .inl (nA fo))), (b9, .inl (cI, 36, .inl (nA my)))] H := hP
  have hD : va_D A [(a, .inr (5, [.int (nI w), .int (nI h), .int (nI (w * h)), .int (nI g), .ref b1, .ref b2, .ref b3, .int (nI bg), .int (nI tl), .int (nI sp), .int (nI 0), .ref b4, .ref b5, .ref b6, .ref b7, .ref b8, .ref b9, .int (nI isf)])), (b1, .inl (cL, 36, .inl (nA ba))), (b2, .inl (cL, 36, .inl (nA vi))), (b3, .inl (cI, 36, .inl (nA to))), (b4, .inl (cI, 6, .inl (mA rw))), (b5, .inl (cI, 6, .inl (mA li))), (b6, .inl (cI, 36, .inl (nA gi))), (b7, .inl (cI, 36, .inl (nA fl))), (b8, .inl (cI, 36, .inl (nA fo))), (b9, .inl (cI, 36, .inl (nA my)))] := hD
  refine lv_iload_n hx hb d_MD_ways_5 rfl (lv_at hl 1 rfl) ?_
  refine lv_if_lt (tgt := 26) hx hb d_MD_ways_6 (by decide) (fun h_1 => ?_) (fun h_1 => ?_)
  · refine lv_iconst (v := (-1)) hx hb d_MD_ways_26 (by decide) ?_
    exact rt_i E hP hD hS ⟨rfl, rfl⟩ d_MD_ways_27
  · refine lv_iload_n hx hb d_MD_ways_9 rfl (lv_at hl 1 rfl) ?_
    refine lv_iconst (v := nI 2) hx hb d_MD_ways_10 (by decide) ?_
    refine lv_icmp_gt (tgt := 26) hx hb d_MD_ways_11 (by decide) (fun h_2 => ?_) (fun h_2 => ?_)
    · refine lv_iconst (v := (-1)) hx hb d_MD_ways_26 (by decide) ?_
      exact rt_i E hP hD hS ⟨rfl, rfl⟩ d_MD_ways_27
    · refine lv_iload_n hx hb d_MD_ways_14 rfl (lv_at hl 2 rfl) ?_
      refine lv_if_lt (tgt := 26) hx hb d_MD_ways_15 (by decide) (fun h_3 => ?_) (fun h_3 => ?_)
      · refine lv_iconst (v := (-1)) hx hb d_MD_ways_26 (by decide) ?_
        exact rt_i E hP hD hS ⟨rfl, rfl⟩ d_MD_ways_27
      · refine lv_iload_n hx hb d_MD_ways_18 rfl (lv_at hl 2 rfl) ?_
        refine lv_aload_n hx hb d_MD_ways_19 rfl (lv_at hl 0 rfl) ?_
        refine va_get (D := D) (ci := 5) (v := .int (nI (w * h))) (C := R_MD) (T := F_MD) (N := 18) hx hb ho j_MD hown hK hP 0 rfl rfl 2 (by decide) (ho _ kf_MD_49) (fun _ h9 => h9) rfl d_MD_ways_20 ?_
        refine lv_icmp_lt (tgt := 28) hx hb d_MD_ways_23 (by decide) (fun h_4 => ?_) (fun h_4 => ?_)
        · exact absurd hout (by rintro (q | q | q | q); contradiction; exact q (Int32.not_lt.mp (by assumption)); contradiction; contradiction)
        · refine lv_iconst (v := (-1)) hx hb d_MD_ways_26 (by decide) ?_
          exact rt_i E hP hD hS ⟨rfl, rfl⟩ d_MD_ways_27
set_option maxHeartbeats 1000000 in
set_option maxRecDepth 100000 in
theorem c_MD_waysIn (l : Launch) (D : va_G) (cI cL : ClassId) (a b1 b2 b3 b4 b5 b6 b7 b8 b9 w h g bg tl sp th isf : Nat) (ba vi to rw li gi fl fo my : Nat → Nat) (p0 c1 : Nat) (hw1 : 1 ≤ w) (hw6 : w ≤ 6) (hh6 : h ≤ 6) (hp : p0 < 3) (hc1 : c1 < w * h) (hba : ∀ k, ba k ≤ 1) : CI l y_MD_ways (.code y_MD_ways b_MD_ways 5 (some .int) :: Om) { frames := 2, cells := 0, slots := 0, locals := 65 } D [(a, .inr (5, [.int (nI w), .int (nI h), .int (nI (w * h)), .int (nI g), .ref b1, .ref b2, .ref b3, .int (nI bg), .int (nI tl), .int (nI sp), .int (nI th), .ref b4, .ref b5, .ref b6, .ref b7, .ref b8, .ref b9, .int (nI isf)])), (b1, .inl (cL, 36, .inl (nA ba))), (b2, .inl (cL, 36, .inl (nA vi))), (b3, .inl (cI, 36, .inl (nA to))), (b4, .inl (cI, 6, .inl (mA rw))), (b5, .inl (cI, 6, .inl (mA li))), (b6, .inl (cI, 36, .inl (nA gi))), (b7, .inl (cI, 36, .inl (nA fl))), (b8, .inl (cI, 36, .inl (nA fo))), (b9, .inl (cI, 36, .inl (nA my)))] [(cI, .int), (cL, .boolean)] [.ref a, .int (nI p0), .int (nI c1)] (fun r u => r = nI (mWy w (w * h) p0 ba c1) ∧ u = [(a, .inr (5, [.int (nI w), .int (nI h), .int (nI (w * h)), .int (nI g), .ref b1, .ref b2, .ref b3, .int (nI bg), .int (nI tl), .int (nI sp), .int (nI 0), .ref b4, .ref b5, .ref b6, .ref b7, .ref b8, .ref b9, .int (nI isf)])), (b1, .inl (cL, 36, .inl (nA ba))), (b2, .inl (cL, 36, .inl (nA vi))), (b3, .inl (cI, 36, .inl (nA to))), (b4, .inl (cI, 6, .inl (mA rw))), (b5, .inl (cI, 6, .inl (mA li))), (b6, .inl (cI, 36, .inl (nA gi))), (b7, .inl (cI, 36, .inl (nA fl))), (b8, .inl (cI, 36, .inl (nA fo))), (b9, .inl (cI, 36, .inl (nA my)))]) := by
  refine en_of (cc := b_MD_ways) (Qc := qI D [(cI, .int), (cL, .boolean)] (fun r u => r = nI (mWy w (w * h) p0 ba c1) ∧ u = [(a, .inr (5, [.int (nI w), .int (nI h), .int (nI (w * h)), .int (nI g), .ref b1, .ref b2, .ref b3, .int (nI bg), .int (nI tl), .int (nI sp), .int (nI 0), .ref b4, .ref b5, .ref b6, .ref b7, .ref b8, .ref b9, .int (nI isf)])), (b1, .inl (cL, 36, .inl (nA ba))), (b2, .inl (cL, 36, .inl (nA vi))), (b3, .inl (cI, 36, .inl (nA to))), (b4, .inl (cI, 6, .inl (mA rw))), (b5, .inl (cI, 6, .inl (mA li))), (b6, .inl (cI, 36, .inl (nA gi))), (b7, .inl (cI, 36, .inl (nA fl))), (b8, .inl (cI, 36, .inl (nA fo))), (b9, .inl (cI, 36, .inl (nA my)))])) (by decide) rfl (Nat.le_of_ble_eq_true rfl) ?_
  intro p e s m below meth c A E hnm hP hD hS ls hl
  have hl : lv_has ls 5 [(0, .ref a), (1, .int (nI p0)), (2, .int (nI c1))] := hl
  obtain ⟨hx, hb, hml, hown, hts, hr, hlk, hA, hK, hN⟩ := id E
  have ho : ∀ q ∈ Om, q.before _ s = true := fun q h => hts q (List.mem_cons_of_mem _ h)
  have h36 := wh36 hw6 hh6
  refine lv_aload_n hx hb d_MD_ways_0 rfl (lv_at hl 0 rfl) ?_
  refine lv_iconst (v := nI 0) hx hb d_MD_ways_1 (by decide) ?_
  refine va_put (D := D) (ci := 5) (v := .int (nI 0)) (ty := .int) (C := R_MD) (T := F_MD) (N := 18) hx hb ho j_MD t_MD t_MD_ok n_MD hown hK hP hD hS 0 rfl rfl 10 (by decide) (ho _ kf_MD_55) (fun _ h9 => h9) rfl (by decide +kernel) rfl rfl (Nat.le_of_ble_eq_true rfl) d_MD_ways_2 (fun H locs hP hD hS => ?_)
  have hP : va_P D classes [(a, .inr (5, [.int (nI w), .int (nI h), .int (nI (w * h)), .int (nI g), .ref b1, .ref b2, .ref b3, .int (nI bg), .int (nI tl), .int (nI sp), .int (nI 0), .ref b4, .ref b5, .ref b6, .ref b7, .ref b8, .ref b9, .int (nI isf)])), (b1, .inl (cL, 36, .inl (nA ba))), (b2, .inl (cL, 36, .inl (nA vi))), (b3, .inl (cI, 36, .inl (nA to))), (b4, .inl (cI, 6, .inl (mA rw))), (b5, .inl (cI, 6, .inl (mA li))), (b6, .inl (cI, 36, .inl (nA gi))), (b7, .inl (cI, 36, .inl (nA fl))), (b8, .inl (cI, 36, .inl (nA fo))), (b9, .inl (cI, 36, .inl (nA my)))] H := hP
  have hD : va_D A [(a, .inr (5, [.int (nI w), .int (nI h), .int (nI (w * h)), .int (nI g), .ref b1, .ref b2, .ref b3, .int (nI bg), .int (nI tl), .int (nI sp), .int (nI 0), .ref b4, .ref b5, .ref b6, .ref b7, .ref b8, .ref b9, .int (nI isf)])), (b1, .inl (cL, 36, .inl (nA ba))), (b2, .inl (cL, 36, .inl (nA vi))), (b3, .inl (cI, 36, .inl (nA to))), (b4, .inl (cI, 6, .inl (mA rw))), (b5, .inl (cI, 6, .inl (mA li))), (b6, .inl (cI, 36, .inl (nA gi))), (b7, .inl (cI, 36, .inl (nA fl))), (b8, .inl (cI, 36, .inl (nA fo))), (b9, .inl (cI, 36, .inl (nA my)))] := hD
  refine lv_iload_n hx hb d_MD_ways_5 rfl (lv_at hl 1 rfl) ?_
  refine nr_if_lt (tgt := 26) hx hb d_MD_ways_6 (by decide) (by omega) ?_
  refine lv_iload_n hx hb d_MD_ways_9 rfl (lv_at hl 1 rfl) ?_
  refine lv_iconst (v := nI 2) hx hb d_MD_ways_10 (by decide) ?_
  refine nr_icmp_gt (tgt := 26) hx hb d_MD_ways_11 (by decide) (by omega) (by omega) (fun h9 => absurd h9 (by omega)) (fun _ => ?_)
  refine lv_iload_n hx hb d_MD_ways_14 rfl (lv_at hl 2 rfl) ?_
  refine nr_if_lt (tgt := 26) hx hb d_MD_ways_15 (by decide) (by omega) ?_
  refine lv_iload_n hx hb d_MD_ways_18 rfl (lv_at hl 2 rfl) ?_
  refine lv_aload_n hx hb d_MD_ways_19 rfl (lv_at hl 0 rfl) ?_
  refine va_get (D := D) (ci := 5) (v := .int (nI (w * h))) (C := R_MD) (T := F_MD) (N := 18) hx hb ho j_MD hown hK hP 0 rfl rfl 2 (by decide) (ho _ kf_MD_49) (fun _ h9 => h9) rfl d_MD_ways_20 ?_
  refine nr_icmp_lt (tgt := 28) hx hb d_MD_ways_23 (by decide) (by omega) (by omega) (fun _ => ?_) (fun h9 => absurd h9 (by omega))
  refine lv_iconst (v := nI 0) hx hb d_MD_ways_28 (by decide) ?_
  refine lv_istore_n (lv' := [(3, .int (nI 0)), (0, .ref a), (1, .int (nI p0)), (2, .int (nI c1))]) hx hb d_MD_ways_29 rfl hl (by decide) rfl (fun ls hl => ?_)
  refine lv_iconst (v := nI 0) hx hb d_MD_ways_30 (by decide) ?_
  refine lv_istore (lv' := [(4, .int (nI 0)), (3, .int (nI 0)), (0, .ref a), (1, .int (nI p0)), (2, .int (nI c1))]) hx hb d_MD_ways_31 hl (by decide) rfl (fun ls hl => ?_)
  exact L_MD_ways a b1 b2 b3 b4 b5 b6 b7 b8 b9 w h g bg tl sp 0 isf ba vi to rw li gi fl fo my p0 c1 hw1 hw6 hh6 hp (by omega) hba E (w * h + 1) 0 0 (by omega) (by omega) (by omega) ⟨rfl, rfl⟩ _ _ hP hD hS ls (lv_sub hl [2, 3, 4, 1, 0] rfl)
set_option maxHeartbeats 1000000 in
set_option maxRecDepth 100000 in
theorem L_MD_open {p : Program} {l : Launch} {e : Env} {s : State} {m : MethodId} {args : Array Value} {below : List Frame} {meth : Method} {c : Code} {A : Nat → Prop} {D : va_G} {cI cL : ClassId} {c0 : Cond} {post : Int32 → va_W → Prop} (a b1 b2 b3 b4 b5 b6 b7 b8 b9 w h g bg tl sp th isf : Nat) (ba vi to rw li gi fl fo my : Nat → Nat) (hw1 : 1 ≤ w) (hw6 : w ≤ 6) (hh6 : h ≤ 6) (hba : ∀ k, ba k ≤ 1) (E : En p s m args meth c b_MD_open 3 (c0 :: Om) R_MD (some .int) A D [(cI, .int), (cL, .boolean)]) : ∀ (m1 : Nat) (cc0 : Nat) (x : Nat), cc0 ≤ w * h → w * h < cc0 + m1 → x ≤ cc0 → post (nI (mCt (w * h) (fun c => decide (ba c = 0)) m1 cc0 x)) [(a, .inr (5, [.int (nI w), .int (nI h), .int (nI (w * h)), .int (nI g), .ref b1, .ref b2, .ref b3, .int (nI bg), .int (nI tl), .int (nI sp), .int (nI th), .ref b4, .ref b5, .ref b6, .ref b7, .ref b8, .ref b9, .int (nI isf)])), (b1, .inl (cL, 36, .inl (nA ba))), (b2, .inl (cL, 36, .inl (nA vi))), (b3, .inl (cI, 36, .inl (nA to))), (b4, .inl (cI, 6, .inl (mA rw))), (b5, .inl (cI, 6, .inl (mA li))), (b6, .inl (cI, 36, .inl (nA gi))), (b7, .inl (cI, 36, .inl (nA fl))), (b8, .inl (cI, 36, .inl (nA fo))), (b9, .inl (cI, 36, .inl (nA my)))] → ∀ (H : Heap) (locs : List Loc), va_P D classes [(a, .inr (5, [.int (nI w), .int (nI h), .int (nI (w * h)), .int (nI g), .ref b1, .ref b2, .ref b3, .int (nI bg), .int (nI tl), .int (nI sp), .int (nI th), .ref b4, .ref b5, .ref b6, .ref b7, .ref b8, .ref b9, .int (nI isf)])), (b1, .inl (cL, 36, .inl (nA ba))), (b2, .inl (cL, 36, .inl (nA vi))), (b3, .inl (cI, 36, .inl (nA to))), (b4, .inl (cI, 6, .inl (mA rw))), (b5, .inl (cI, 6, .inl (mA li))), (b6, .inl (cI, 36, .inl (nA gi))), (b7, .inl (cI, 36, .inl (nA fl))), (b8, .inl (cI, 36, .inl (nA fo))), (b9, .inl (cI, 36, .inl (nA my)))] H → va_D A [(a, .inr (5, [.int (nI w), .int (nI h), .int (nI (w * h)), .int (nI g), .ref b1, .ref b2, .ref b3, .int (nI bg), .int (nI tl), .int (nI sp), .int (nI th), .ref b4, .ref b5, .ref b6, .ref b7, .ref b8, .ref b9, .int (nI isf)])), (b1, .inl (cL, 36, .inl (nA ba))), (b2, .inl (cL, 36, .inl (nA vi))), (b3, .inl (cI, 36, .inl (nA to))), (b4, .inl (cI, 6, .inl (mA rw))), (b5, .inl (cI, 6, .inl (mA li))), (b6, .inl (cI, 36, .inl (nA gi))), (b7, .inl (cI, 36, .inl (nA fl))), (b8, .inl (cI, 36, .inl (nA fo))), (b9, .inl (cI, 36, .inl (nA my)))] → va_S A s.heap H locs → ∀ ls : Array Slot, lv_has ls 3 [(0, .ref a), (1, .int (nI x)), (2, .int (nI cc0))] → W p l e { frames := 0, cells := 0, slots := 0, locals := 0 } s m args below meth c H locs 0 0 (MQ below (qI D [(cI, .int), (cL, .boolean)] post A) args s 0 0 A) (F0 m 4 ls []) := by
  obtain ⟨hx, hb, hml, hown, hts, hr, hlk, hA, hK, hN⟩ := id E
  have ho : ∀ q ∈ Om, q.before _ s = true := fun q h => hts q (List.mem_cons_of_mem _ h)
  intro m1
  induction m1 with
  | zero =>
    intro cc0 x h1 h2 hx9 hq
    exact absurd h2 (by omega)
  | succ m1 ih =>
    intro cc0 x h1 h2 hx9 hq H locs hP hD hS ls hl
    refine lv_iload_n hx hb d_MD_open_4 rfl (lv_at hl 2 rfl) ?_
    have h36 := wh36 hw6 hh6
    refine lv_aload_n hx hb d_MD_open_5 rfl (lv_at hl 0 rfl) ?_
    refine va_get (D := D) (ci := 5) (v := .int (nI (w * h))) (C := R_MD) (T := F_MD) (N := 18) hx hb ho j_MD hown hK hP 0 rfl rfl 2 (by decide) (ho _ kf_MD_49) (fun _ h9 => h9) rfl d_MD_open_6 ?_
    refine nr_icmp_ge (tgt := 30) hx hb d_MD_open_9 (by decide) (by omega) (by omega) (fun h_1 => ?_) (fun h_1 => ?_)
    · refine lv_iload_n hx hb d_MD_open_30 rfl (lv_at hl 1 rfl) ?_
      exact rt_i E hP hD hS (by rw [mCt, if_neg (by omega)] at hq; exact hq) d_MD_open_31
    · have h36 := wh36 hw6 hh6
      have hb1 := hba cc0
      refine lv_aload_n hx hb d_MD_open_12 rfl (lv_at hl 0 rfl) ?_
      refine va_get (D := D) (ci := 5) (v := .ref b1) (C := R_MD) (T := F_MD) (N := 18) hx hb ho j_MD hown hK hP 0 rfl rfl 4 (by decide) (ho _ kf_MD_7) (fun _ h9 => h9) rfl d_MD_open_13 ?_
      refine lv_iload_n hx hb d_MD_open_16 rfl (lv_at hl 2 rfl) ?_
      refine nr_zald hx hb hK hP 1 1 rfl rfl (i := cc0) (by omega) (by decide) d_MD_open_17 ?_
      refine nr_if_ne (tgt := 24) hx hb d_MD_open_18 (by decide) (by omega) (fun h_2 => ?_) (fun h_2 => ?_)
      · refine nr_iinc (lv' := [(2, .int (nI (cc0 + 1))), (0, .ref a), (1, .int (nI x))]) hx hb d_MD_open_24 hl (k := 2) rfl (by decide) rfl (fun ls hl => ?_)
        refine lv_goto (tgt := 4) hx hb d_MD_open_27 (by decide) ?_
        exact ih (cc0 + 1) x (by omega) (by omega) (by omega) (by rw [mCt, if_pos (by omega), if_neg (fun z => by have z := of_decide_eq_true z; omega)] at hq; exact hq) _ _ hP hD hS ls (lv_sub hl [1, 2, 0] rfl)
      · refine nr_iinc (lv' := [(1, .int (nI (x + 1))), (0, .ref a), (2, .int (nI cc0))]) hx hb d_MD_open_21 hl (k := 1) rfl (by decide) rfl (fun ls hl => ?_)
        refine nr_iinc (lv' := [(2, .int (nI (cc0 + 1))), (1, .int (nI (x + 1))), (0, .ref a)]) hx hb d_MD_open_24 hl (k := 2) rfl (by decide) rfl (fun ls hl => ?_)
        refine lv_goto (tgt := 4) hx hb d_MD_open_27 (by decide) ?_
        exact ih (cc0 + 1) (x + 1) (by omega) (by omega) (by omega) (by rw [mCt, if_pos (by omega), if_pos (decide_eq_true (by omega))] at hq; exact hq) _ _ hP hD hS ls (lv_sub hl [2, 1, 0] rfl)
set_option maxHeartbeats 1000000 in
set_option maxRecDepth 100000 in
theorem c_MD_open (l : Launch) (D : va_G) (cI cL : ClassId) (a b1 b2 b3 b4 b5 b6 b7 b8 b9 w h g bg tl sp th isf : Nat) (ba vi to rw li gi fl fo my : Nat → Nat) (hw1 : 1 ≤ w) (hw6 : w ≤ 6) (hh6 : h ≤ 6) (hba : ∀ k, ba k ≤ 1) : CI l y_MD_open (.code y_MD_open b_MD_open 3 (some .int) :: Om) { frames := 0, cells := 0, slots := 0, locals := 0 } D [(a, .inr (5, [.int (nI w), .int (nI h), .int (nI (w * h)), .int (nI g), .ref b1, .ref b2, .ref b3, .int (nI bg), .int (nI tl), .int (nI sp), .int (nI th), .ref b4, .ref b5, .ref b6, .ref b7, .ref b8, .ref b9, .int (nI isf)])), (b1, .inl (cL, 36, .inl (nA ba))), (b2, .inl (cL, 36, .inl (nA vi))), (b3, .inl (cI, 36, .inl (nA to))), (b4, .inl (cI, 6, .inl (mA rw))), (b5, .inl (cI, 6, .inl (mA li))), (b6, .inl (cI, 36, .inl (nA gi))), (b7, .inl (cI, 36, .inl (nA fl))), (b8, .inl (cI, 36, .inl (nA fo))), (b9, .inl (cI, 36, .inl (nA my)))] [(cI, .int), (cL, .boolean)] [.ref a] (fun r u => r = nI (mOp (w * h) ba) ∧ u = [(a, .inr (5, [.int (nI w), .int (nI h), .int (nI (w * h)), .int (nI g), .ref b1, .ref b2, .ref b3, .int (nI bg), .int (nI tl), .int (nI sp), .int (nI th), .ref b4, .ref b5, .ref b6, .ref b7, .ref b8, .ref b9, .int (nI isf)])), (b1, .inl (cL, 36, .inl (nA ba))), (b2, .inl (cL, 36, .inl (nA vi))), (b3, .inl (cI, 36, .inl (nA to))), (b4, .inl (cI, 6, .inl (mA rw))), (b5, .inl (cI, 6, .inl (mA li))), (b6, .inl (cI, 36, .inl (nA gi))), (b7, .inl (cI, 36, .inl (nA fl))), (b8, .inl (cI, 36, .inl (nA fo))), (b9, .inl (cI, 36, .inl (nA my)))]) := by
  refine en_of (cc := b_MD_open) (Qc := qI D [(cI, .int), (cL, .boolean)] (fun r u => r = nI (mOp (w * h) ba) ∧ u = [(a, .inr (5, [.int (nI w), .int (nI h), .int (nI (w * h)), .int (nI g), .ref b1, .ref b2, .ref b3, .int (nI bg), .int (nI tl), .int (nI sp), .int (nI th), .ref b4, .ref b5, .ref b6, .ref b7, .ref b8, .ref b9, .int (nI isf)])), (b1, .inl (cL, 36, .inl (nA ba))), (b2, .inl (cL, 36, .inl (nA vi))), (b3, .inl (cI, 36, .inl (nA to))), (b4, .inl (cI, 6, .inl (mA rw))), (b5, .inl (cI, 6, .inl (mA li))), (b6, .inl (cI, 36, .inl (nA gi))), (b7, .inl (cI, 36, .inl (nA fl))), (b8, .inl (cI, 36, .inl (nA fo))), (b9, .inl (cI, 36, .inl (nA my)))])) (by decide) rfl (Nat.le_of_ble_eq_true rfl) ?_
  intro p e s m below meth c A E hnm hP hD hS ls hl
  have hl : lv_has ls 3 [(0, .ref a)] := hl
  obtain ⟨hx, hb, hml, hown, hts, hr, hlk, hA, hK, hN⟩ := id E
  have ho : ∀ q ∈ Om, q.before _ s = true := fun q h => hts q (List.mem_cons_of_mem _ h)
  refine lv_iconst (v := nI 0) hx hb d_MD_open_0 (by decide) ?_
  refine lv_istore_n (lv' := [(1, .int (nI 0)), (0, .ref a)]) hx hb d_MD_open_1 rfl hl (by decide) rfl (fun ls hl => ?_)
  refine lv_iconst (v := nI 0) hx hb d_MD_open_2 (by decide) ?_
  refine lv_istore_n (lv' := [(2, .int (nI 0)), (1, .int (nI 0)), (0, .ref a)]) hx hb d_MD_open_3 rfl hl (by decide) rfl (fun ls hl => ?_)
  exact L_MD_open a b1 b2 b3 b4 b5 b6 b7 b8 b9 w h g bg tl sp th isf ba vi to rw li gi fl fo my hw1 hw6 hh6 hba E (w * h + 1) 0 0 (by omega) (by omega) (by omega) ⟨rfl, rfl⟩ _ _ hP hD hS ls (lv_sub hl [2, 1, 0] rfl)
theorem nI_m1 {k : Nat} (h : k < 2 ^ 31) : ¬ nI k = -1 := fun e => by
  have := nI_pos' h
  rw [e] at this
  exact absurd this (by decide)
def mNl (w n p : Nat) (ba vi : Nat → Nat) (fr t ah : Nat) : Nat → Nat → Nat → Nat → Nat
  | 0, _, bs, _ => bs
  | m + 1, c, bs, fw => if c < n then (if mWq w p ba vi fr c = true then (if (t = 0 ∨ ah < mWo w n p ba vi c ∨ mWo w n p ba vi c = ah ∧ t < c + 1) ∧ mWo w n p ba vi c < fw then mNl w n p ba vi fr t ah m (c + 1) (c + 1) (mWo w n p ba vi c) else mNl w n p ba vi fr t ah m (c + 1) bs fw) else mNl w n p ba vi fr t ah m (c + 1) bs fw) else bs
/-- the next cell to try from fr, t: 0, or one more than the cell tried latest; 0: none, else one more than the cell -/
def mNx (w n p : Nat) (ba vi : Nat → Nat) (fr t : Nat) : Nat := mNl w n p ba vi fr t (if t = 0 then 0 else mWo w n p ba vi (t - 1)) (n + 1) 0 0 99
theorem mNl_le {w n p : Nat} {ba vi : Nat → Nat} {fr t ah : Nat} : ∀ m c bs fw, bs ≤ n → mNl w n p ba vi fr t ah m c bs fw ≤ n := by
  intro m
  induction m with
  | zero => intro c bs fw h; exact h
  | succ m ih =>
    intro c bs fw h
    rw [mNl]
    split
    · split
      · split
        · exact ih _ _ _ (by omega)
        · exact ih _ _ _ h
      · exact ih _ _ _ h
    · exact h
set_option maxHeartbeats 1000000 in
set_option maxRecDepth 100000 in
theorem L_MD_next_none {p : Program} {l : Launch} {e : Env} {s : State} {m : MethodId} {args : Array Value} {below : List Frame} {meth : Method} {c : Code} {A : Nat → Prop} {D : va_G} {cI cL : ClassId} {c0 : Cond} {post : Int32 → va_W → Prop} (a b1 b2 b3 b4 b5 b6 b7 b8 b9 w h g bg tl sp th isf : Nat) (ba vi to rw li gi fl fo my : Nat → Nat) (p0 fr : Nat) (hw1 : 1 ≤ w) (hw6 : w ≤ 6) (hh6 : h ≤ 6) (hp : p0 < 3) (hfr : fr < 36) (hba : ∀ k, ba k ≤ 1) (hvi : ∀ k, vi k ≤ 1) (E : En p s m args meth c b_MD_nextCell 10 (c0 :: Om) R_MD (some .int) A D [(cI, .int), (cL, .boolean)]) : ∀ (m1 : Nat) (cc0 : Nat) (bs : Nat) (fw : Nat), cc0 ≤ w * h → w * h < cc0 + m1 → fw ≤ 99 → post (nI (mNl w (w * h) p0 ba vi fr 0 0 m1 cc0 bs fw) - 1) [(a, .inr (5, [.int (nI w), .int (nI h), .int (nI (w * h)), .int (nI g), .ref b1, .ref b2, .ref b3, .int (nI bg), .int (nI tl), .int (nI sp), .int (nI th), .ref b4, .ref b5, .ref b6, .ref b7, .ref b8, .ref b9, .int (nI isf)])), (b1, .inl (cL, 36, .inl (nA ba))), (b2, .inl (cL, 36, .inl (nA vi))), (b3, .inl (cI, 36, .inl (nA to))), (b4, .inl (cI, 6, .inl (mA rw))), (b5, .inl (cI, 6, .inl (mA li))), (b6, .inl (cI, 36, .inl (nA gi))), (b7, .inl (cI, 36, .inl (nA fl))), (b8, .inl (cI, 36, .inl (nA fo))), (b9, .inl (cI, 36, .inl (nA my)))] → ∀ (H : Heap) (locs : List Loc), va_P D classes [(a, .inr (5, [.int (nI w), .int (nI h), .int (nI (w * h)), .int (nI g), .ref b1, .ref b2, .ref b3, .int (nI bg), .int (nI tl), .int (nI sp), .int (nI th), .ref b4, .ref b5, .ref b6, .ref b7, .ref b8, .ref b9, .int (nI isf)])), (b1, .inl (cL, 36, .inl (nA ba))), (b2, .inl (cL, 36, .inl (nA vi))), (b3, .inl (cI, 36, .inl (nA to))), (b4, .inl (cI, 6, .inl (mA rw))), (b5, .inl (cI, 6, .inl (mA li))), (b6, .inl (cI, 36, .inl (nA gi))), (b7, .inl (cI, 36, .inl (nA fl))), (b8, .inl (cI, 36, .inl (nA fo))), (b9, .inl (cI, 36, .inl (nA my)))] H → va_D A [(a, .inr (5, [.int (nI w), .int (nI h), .int (nI (w * h)), .int (nI g), .ref b1, .ref b2, .ref b3, .int (nI bg), .int (nI tl), .int (nI sp), .int (nI th), .ref b4, .ref b5, .ref b6, .ref b7, .ref b8, .ref b9, .int (nI isf)])), (b1, .inl (cL, 36, .inl (nA ba))), (b2, .inl (cL, 36, .inl (nA vi))), (b3, .inl (cI, 36, .inl (nA to))), (b4, .inl (cI, 6, .inl (mA rw))), (b5, .inl (cI, 6, .inl (mA li))), (b6, .inl (cI, 36, .inl (nA gi))), (b7, .inl (cI, 36, .inl (nA fl))), (b8, .inl (cI, 36, .inl (nA fo))), (b9, .inl (cI, 36, .inl (nA my)))] → va_S A s.heap H locs → ∀ ls : Array Slot, lv_has ls 10 [(0, .ref a), (1, .int (nI p0)), (2, .int (nI fr)), (3, .int (-1)), (4, .int (-1)), (5, .int (nI bs - 1)), (6, .int (nI fw)), (7, .int (nI cc0))] → W p l e { frames := 3, cells := 0, slots := 0, locals := 89 } s m args below meth c H locs 0 0 (MQ below (qI D [(cI, .int), (cL, .boolean)] post A) args s 0 0 A) (F0 m 27 ls []) := by
  obtain ⟨hx, hb, hml, hown, hts, hr, hlk, hA, hK, hN⟩ := id E
  have ho : ∀ q ∈ Om, q.before _ s = true := fun q h => hts q (List.mem_cons_of_mem _ h)
  intro m1
  induction m1 with
  | zero =>
    intro cc0 bs fw h1 h2 hf9 hq
    exact absurd h2 (by omega)
  | succ m1 ih =>
    intro cc0 bs fw h1 h2 hf9 hq H locs hP hD hS ls hl
    refine lv_iload hx hb d_MD_nextCell_27 (lv_at hl 7 rfl) ?_
    have h36 := wh36 hw6 hh6
    refine lv_aload_n hx hb d_MD_nextCell_29 rfl (lv_at hl 0 rfl) ?_
    refine va_get (D := D) (ci := 5) (v := .int (nI (w * h))) (C := R_MD) (T := F_MD) (N := 18) hx hb ho j_MD hown hK hP 0 rfl rfl 2 (by decide) (ho _ kf_MD_49) (fun _ h9 => h9) rfl d_MD_nextCell_30 ?_
    refine nr_icmp_ge (tgt := 134) hx hb d_MD_nextCell_33 (by decide) (by omega) (by omega) (fun h_1 => ?_) (fun h_1 => ?_)
    · refine lv_iload hx hb d_MD_nextCell_134 (lv_at hl 5 rfl) ?_
      exact rt_i E hP hD hS (by rw [mNl, if_neg (by omega)] at hq; exact hq) d_MD_nextCell_136
    · have hb1 := hba cc0
      have hv1 := hvi cc0
      refine lv_aload_n hx hb d_MD_nextCell_36 rfl (lv_at hl 0 rfl) ?_
      refine va_get (D := D) (ci := 5) (v := .ref b1) (C := R_MD) (T := F_MD) (N := 18) hx hb ho j_MD hown hK hP 0 rfl rfl 4 (by decide) (ho _ kf_MD_7) (fun _ h9 => h9) rfl d_MD_nextCell_37 ?_
      refine lv_iload hx hb d_MD_nextCell_40 (lv_at hl 7 rfl) ?_
      refine nr_zald hx hb hK hP 1 1 rfl rfl (i := cc0) (by omega) (by decide) d_MD_nextCell_42 ?_
      refine nr_if_ne (tgt := 128) hx hb d_MD_nextCell_43 (by decide) (by omega) (fun h_2 => ?_) (fun h_2 => ?_)
      · refine nr_iinc (lv' := [(7, .int (nI (cc0 + 1))), (0, .ref a), (1, .int (nI p0)), (2, .int (nI fr)), (3, .int (-1)), (4, .int (-1)), (5, .int (nI bs - 1)), (6, .int (nI fw))]) hx hb d_MD_nextCell_128 hl (k := 7) rfl (by decide) rfl (fun ls hl => ?_)
        refine lv_goto (tgt := 27) hx hb d_MD_nextCell_131 (by decide) ?_
        exact ih (cc0 + 1) bs fw (by omega) (by omega) (by omega) (by rw [mNl, if_pos (by omega)] at hq; first | (rw [if_neg (fun z => by have z := of_decide_eq_true z; omega)] at hq; exact hq) | (rw [if_pos (decide_eq_true ⟨by omega, by omega, by omega⟩), if_neg (by omega)] at hq; exact hq)) _ _ hP hD hS ls (lv_sub hl [1, 2, 3, 4, 5, 6, 7, 0] rfl)
      · refine lv_aload_n hx hb d_MD_nextCell_46 rfl (lv_at hl 0 rfl) ?_
        refine va_get (D := D) (ci := 5) (v := .ref b2) (C := R_MD) (T := F_MD) (N := 18) hx hb ho j_MD hown hK hP 0 rfl rfl 5 (by decide) (ho _ kf_MD_13) (fun _ h9 => h9) rfl d_MD_nextCell_47 ?_
        refine lv_iload hx hb d_MD_nextCell_50 (lv_at hl 7 rfl) ?_
        refine nr_zald hx hb hK hP 2 1 rfl rfl (i := cc0) (by omega) (by decide) d_MD_nextCell_52 ?_
        refine nr_if_ne (tgt := 128) hx hb d_MD_nextCell_53 (by decide) (by omega) (fun h_3 => ?_) (fun h_3 => ?_)
        · refine nr_iinc (lv' := [(7, .int (nI (cc0 + 1))), (0, .ref a), (1, .int (nI p0)), (2, .int (nI fr)), (3, .int (-1)), (4, .int (-1)), (5, .int (nI bs - 1)), (6, .int (nI fw))]) hx hb d_MD_nextCell_128 hl (k := 7) rfl (by decide) rfl (fun ls hl => ?_)
          refine lv_goto (tgt := 27) hx hb d_MD_nextCell_131 (by decide) ?_
          exact ih (cc0 + 1) bs fw (by omega) (by omega) (by omega) (by rw [mNl, if_pos (by omega)] at hq; first | (rw [if_neg (fun z => by have z := of_decide_eq_true z; omega)] at hq; exact hq) | (rw [if_pos (decide_eq_true ⟨by omega, by omega, by omega⟩), if_neg (by omega)] at hq; exact hq)) _ _ hP hD hS ls (lv_sub hl [1, 2, 3, 4, 5, 6, 7, 0] rfl)
        · refine lv_aload_n hx hb d_MD_nextCell_56 rfl (lv_at hl 0 rfl) ?_
          refine lv_iload_n hx hb d_MD_nextCell_57 rfl (lv_at hl 1 rfl) ?_
          refine lv_iload_n hx hb d_MD_nextCell_58 rfl (lv_at hl 2 rfl) ?_
          refine lv_iload hx hb d_MD_nextCell_59 (lv_at hl 7 rfl) ?_
          have hgo := mGo_1 w p0 fr cc0
          refine af_i (wc := [(a, .inr (5, [.int (nI w), .int (nI h), .int (nI (w * h)), .int (nI g), .ref b1, .ref b2, .ref b3, .int (nI bg), .int (nI tl), .int (nI sp), .int (nI th), .ref b4, .ref b5, .ref b6, .ref b7, .ref b8, .ref b9, .int (nI isf)])), (b1, .inl (cL, 36, .inl (nA ba))), (b2, .inl (cL, 36, .inl (nA vi))), (b3, .inl (cI, 36, .inl (nA to))), (b4, .inl (cI, 6, .inl (mA rw))), (b5, .inl (cI, 6, .inl (mA li))), (b6, .inl (cI, 36, .inl (nA gi))), (b7, .inl (cI, 36, .inl (nA fl))), (b8, .inl (cI, 36, .inl (nA fo))), (b9, .inl (cI, 36, .inl (nA my)))]) (wr := []) (rest := []) [0, 1, 2, 3, 4, 5, 6, 7, 8, 9] [] hP hD hS hA rfl rfl (by decide) (by decide) (rn_V E (As := [.int (nI p0), .int (nI fr), .int (nI cc0)]) m_MD_goes km_MD_72 (c_MD_goes l D cI cL a b1 b2 b3 b4 b5 b6 b7 b8 b9 w h g bg tl sp th isf ba vi to rw li gi fl fo my p0 fr cc0 hw1 hw6 hh6 (by omega) (by omega) (by omega) _) ⟨rfl, rfl, by dsimp only; omega, by dsimp only; omega⟩ (hP.sub [0, 1, 2, 3, 4, 5, 6, 7, 8, 9] rfl) (hD.sub [0, 1, 2, 3, 4, 5, 6, 7, 8, 9] (by decide) rfl) (q0 := 0) (ci := 5) rfl rfl rfl hl.1 rfl (Nat.le_of_ble_eq_true rfl) ⟨Nat.le_of_ble_eq_true rfl, Nat.le_of_ble_eq_true rfl⟩ d_MD_nextCell_61) (fun r_5 u_4 H locs hw hP hD hS => ?_)
          obtain ⟨rfl, rfl⟩ := hw
          have hP : va_P D classes [(a, .inr (5, [.int (nI w), .int (nI h), .int (nI (w * h)), .int (nI g), .ref b1, .ref b2, .ref b3, .int (nI bg), .int (nI tl), .int (nI sp), .int (nI th), .ref b4, .ref b5, .ref b6, .ref b7, .ref b8, .ref b9, .int (nI isf)])), (b1, .inl (cL, 36, .inl (nA ba))), (b2, .inl (cL, 36, .inl (nA vi))), (b3, .inl (cI, 36, .inl (nA to))), (b4, .inl (cI, 6, .inl (mA rw))), (b5, .inl (cI, 6, .inl (mA li))), (b6, .inl (cI, 36, .inl (nA gi))), (b7, .inl (cI, 36, .inl (nA fl))), (b8, .inl (cI, 36, .inl (nA fo))), (b9, .inl (cI, 36, .inl (nA my)))] H := hP
          have hD : va_D A [(a, .inr (5, [.int (nI w), .int (nI h), .int (nI (w * h)), .int (nI g), .ref b1, .ref b2, .ref b3, .int (nI bg), .int (nI tl), .int (nI sp), .int (nI th), .ref b4, .ref b5, .ref b6, .ref b7, .ref b8, .ref b9, .int (nI isf)])), (b1, .inl (cL, 36, .inl (nA ba))), (b2, .inl (cL, 36, .inl (nA vi))), (b3, .inl (cI, 36, .inl (nA to))), (b4, .inl (cI, 6, .inl (mA rw))), (b5, .inl (cI, 6, .inl (mA li))), (b6, .inl (cI, 36, .inl (nA gi))), (b7, .inl (cI, 36, .inl (nA fl))), (b8, .inl (cI, 36, .inl (nA fo))), (b9, .inl (cI, 36, .inl (nA my)))] := hD
          refine nr_if_eq (tgt := 128) hx hb d_MD_nextCell_64 (by decide) (by omega) (fun h_6 => ?_) (fun h_6 => ?_)
          · refine nr_iinc (lv' := [(7, .int (nI (cc0 + 1))), (0, .ref a), (1, .int (nI p0)), (2, .int (nI fr)), (3, .int (-1)), (4, .int (-1)), (5, .int (nI bs - 1)), (6, .int (nI fw))]) hx hb d_MD_nextCell_128 hl (k := 7) rfl (by decide) rfl (fun ls hl => ?_)
            refine lv_goto (tgt := 27) hx hb d_MD_nextCell_131 (by decide) ?_
            exact ih (cc0 + 1) bs fw (by omega) (by omega) (by omega) (by rw [mNl, if_pos (by omega)] at hq; first | (rw [if_neg (fun z => by have z := of_decide_eq_true z; omega)] at hq; exact hq) | (rw [if_pos (decide_eq_true ⟨by omega, by omega, by omega⟩), if_neg (by omega)] at hq; exact hq)) _ _ hP hD hS ls (lv_sub hl [1, 2, 3, 4, 5, 6, 7, 0] rfl)
          · refine lv_aload_n hx hb d_MD_nextCell_67 rfl (lv_at hl 0 rfl) ?_
            refine lv_iload_n hx hb d_MD_nextCell_68 rfl (lv_at hl 1 rfl) ?_
            refine lv_iload hx hb d_MD_nextCell_69 (lv_at hl 7 rfl) ?_
            have hwle := mWo_le w (w * h) p0 ba vi cc0
            refine af_i (wc := [(a, .inr (5, [.int (nI w), .int (nI h), .int (nI (w * h)), .int (nI g), .ref b1, .ref b2, .ref b3, .int (nI bg), .int (nI tl), .int (nI sp), .int (nI th), .ref b4, .ref b5, .ref b6, .ref b7, .ref b8, .ref b9, .int (nI isf)])), (b1, .inl (cL, 36, .inl (nA ba))), (b2, .inl (cL, 36, .inl (nA vi))), (b3, .inl (cI, 36, .inl (nA to))), (b4, .inl (cI, 6, .inl (mA rw))), (b5, .inl (cI, 6, .inl (mA li))), (b6, .inl (cI, 36, .inl (nA gi))), (b7, .inl (cI, 36, .inl (nA fl))), (b8, .inl (cI, 36, .inl (nA fo))), (b9, .inl (cI, 36, .inl (nA my)))]) (wr := []) (rest := []) [0, 1, 2, 3, 4, 5, 6, 7, 8, 9] [] hP hD hS hA rfl rfl (by decide) (by decide) (rn_V E (As := [.int (nI p0), .int (nI cc0)]) m_MD_waysOn km_MD_76 (c_MD_waysOn l D cI cL a b1 b2 b3 b4 b5 b6 b7 b8 b9 w h g bg tl sp th isf ba vi to rw li gi fl fo my p0 cc0 hw1 hw6 hh6 (by omega) (by omega) hba hvi _) ⟨rfl, rfl, by dsimp only; omega, by dsimp only; omega⟩ (hP.sub [0, 1, 2, 3, 4, 5, 6, 7, 8, 9] rfl) (hD.sub [0, 1, 2, 3, 4, 5, 6, 7, 8, 9] (by decide) rfl) (q0 := 0) (ci := 5) rfl rfl rfl hl.1 rfl (Nat.le_of_ble_eq_true rfl) ⟨Nat.le_of_ble_eq_true rfl, Nat.le_of_ble_eq_true rfl⟩ d_MD_nextCell_71) (fun r_8 u_7 H locs hw hP hD hS => ?_)
            obtain ⟨rfl, rfl⟩ := hw
            have hP : va_P D classes [(a, .inr (5, [.int (nI w), .int (nI h), .int (nI (w * h)), .int (nI g), .ref b1, .ref b2, .ref b3, .int (nI bg), .int (nI tl), .int (nI sp), .int (nI th), .ref b4, .ref b5, .ref b6, .ref b7, .ref b8, .ref b9, .int (nI isf)])), (b1, .inl (cL, 36, .inl (nA ba))), (b2, .inl (cL, 36, .inl (nA vi))), (b3, .inl (cI, 36, .inl (nA to))), (b4, .inl (cI, 6, .inl (mA rw))), (b5, .inl (cI, 6, .inl (mA li))), (b6, .inl (cI, 36, .inl (nA gi))), (b7, .inl (cI, 36, .inl (nA fl))), (b8, .inl (cI, 36, .inl (nA fo))), (b9, .inl (cI, 36, .inl (nA my)))] H := hP
            have hD : va_D A [(a, .inr (5, [.int (nI w), .int (nI h), .int (nI (w * h)), .int (nI g), .ref b1, .ref b2, .ref b3, .int (nI bg), .int (nI tl), .int (nI sp), .int (nI th), .ref b4, .ref b5, .ref b6, .ref b7, .ref b8, .ref b9, .int (nI isf)])), (b1, .inl (cL, 36, .inl (nA ba))), (b2, .inl (cL, 36, .inl (nA vi))), (b3, .inl (cI, 36, .inl (nA to))), (b4, .inl (cI, 6, .inl (mA rw))), (b5, .inl (cI, 6, .inl (mA li))), (b6, .inl (cI, 36, .inl (nA gi))), (b7, .inl (cI, 36, .inl (nA fl))), (b8, .inl (cI, 36, .inl (nA fo))), (b9, .inl (cI, 36, .inl (nA my)))] := hD
            refine lv_istore (lv' := [(8, .int (nI (mWo w (w * h) p0 ba vi cc0))), (0, .ref a), (1, .int (nI p0)), (2, .int (nI fr)), (3, .int (-1)), (4, .int (-1)), (5, .int (nI bs - 1)), (6, .int (nI fw)), (7, .int (nI cc0))]) hx hb d_MD_nextCell_74 hl (by decide) rfl (fun ls hl => ?_)
            refine lv_iload_n hx hb d_MD_nextCell_76 rfl (lv_at hl 4 rfl) ?_
            refine lv_iconst (v := (-1)) hx hb d_MD_nextCell_77 (by decide) ?_
            refine lv_icmp_eq (tgt := 101) hx hb d_MD_nextCell_78 (by decide) (fun _ => ?_) (fun h9 => absurd rfl h9)
            refine lv_iconst (v := nI 1) hx hb d_MD_nextCell_101 (by decide) ?_
            refine lv_goto (tgt := 106) hx hb d_MD_nextCell_102 (by decide) ?_
            refine lv_istore (lv' := [(9, .int (nI 1)), (8, .int (nI (mWo w (w * h) p0 ba vi cc0))), (0, .ref a), (1, .int (nI p0)), (2, .int (nI fr)), (3, .int (-1)), (4, .int (-1)), (5, .int (nI bs - 1)), (6, .int (nI fw)), (7, .int (nI cc0))]) hx hb d_MD_nextCell_106 hl (by decide) rfl (fun ls hl => ?_)
            refine lv_iload hx hb d_MD_nextCell_108 (lv_at hl 0 rfl) ?_
            refine nr_if_eq (tgt := 128) hx hb d_MD_nextCell_110 (by decide) (by decide) (fun h9 => absurd h9 (by decide)) (fun _ => ?_)
            refine lv_iload hx hb d_MD_nextCell_113 (lv_at hl 1 rfl) ?_
            refine lv_iload hx hb d_MD_nextCell_115 (lv_at hl 8 rfl) ?_
            refine nr_icmp_ge (tgt := 128) hx hb d_MD_nextCell_117 (by decide) (by omega) (by omega) (fun h_9 => ?_) (fun h_9 => ?_)
            · refine nr_iinc (lv' := [(7, .int (nI (cc0 + 1))), (9, .int (nI 1)), (8, .int (nI (mWo w (w * h) p0 ba vi cc0))), (0, .ref a), (1, .int (nI p0)), (2, .int (nI fr)), (3, .int (-1)), (4, .int (-1)), (5, .int (nI bs - 1)), (6, .int (nI fw))]) hx hb d_MD_nextCell_128 hl (k := 9) rfl (by decide) rfl (fun ls hl => ?_)
              refine lv_goto (tgt := 27) hx hb d_MD_nextCell_131 (by decide) ?_
              exact ih (cc0 + 1) bs fw (by omega) (by omega) (by omega) (by rw [mNl, if_pos (by omega)] at hq; first | (rw [if_neg (fun z => by have z := of_decide_eq_true z; omega)] at hq; exact hq) | (rw [if_pos (decide_eq_true ⟨by omega, by omega, by omega⟩), if_neg (by omega)] at hq; exact hq)) _ _ hP hD hS ls (lv_sub hl [3, 4, 5, 6, 7, 8, 9, 0] rfl)
            · refine lv_iload hx hb d_MD_nextCell_120 (lv_at hl 1 rfl) ?_
              refine lv_istore (lv' := [(6, .int (nI (mWo w (w * h) p0 ba vi cc0))), (9, .int (nI 1)), (8, .int (nI (mWo w (w * h) p0 ba vi cc0))), (0, .ref a), (1, .int (nI p0)), (2, .int (nI fr)), (3, .int (-1)), (4, .int (-1)), (5, .int (nI bs - 1)), (7, .int (nI cc0))]) hx hb d_MD_nextCell_122 hl (by decide) rfl (fun ls hl => ?_)
              refine lv_iload hx hb d_MD_nextCell_124 (lv_at hl 9 rfl) ?_
              refine lv_istore (lv' := [(5, .int (nI cc0)), (6, .int (nI (mWo w (w * h) p0 ba vi cc0))), (9, .int (nI 1)), (8, .int (nI (mWo w (w * h) p0 ba vi cc0))), (0, .ref a), (1, .int (nI p0)), (2, .int (nI fr)), (3, .int (-1)), (4, .int (-1)), (7, .int (nI cc0))]) hx hb d_MD_nextCell_126 hl (by decide) rfl (fun ls hl => ?_)
              refine nr_iinc (lv' := [(7, .int (nI (cc0 + 1))), (5, .int (nI cc0)), (6, .int (nI (mWo w (w * h) p0 ba vi cc0))), (9, .int (nI 1)), (8, .int (nI (mWo w (w * h) p0 ba vi cc0))), (0, .ref a), (1, .int (nI p0)), (2, .int (nI fr)), (3, .int (-1)), (4, .int (-1))]) hx hb d_MD_nextCell_128 hl (k := 9) rfl (by decide) rfl (fun ls hl => ?_)
              refine lv_goto (tgt := 27) hx hb d_MD_nextCell_131 (by decide) ?_
              have hl2 : lv_has ls 10 [(0, .ref a), (1, .int (nI p0)), (2, .int (nI fr)), (3, .int (-1)), (4, .int (-1)), (5, .int (nI cc0)), (6, .int (nI (mWo w (w * h) p0 ba vi cc0))), (7, .int (nI (cc0 + 1)))] := lv_sub hl [5, 6, 7, 8, 9, 1, 2, 0] rfl
              have hl2 : lv_has ls 10 [(0, .ref a), (1, .int (nI p0)), (2, .int (nI fr)), (3, .int (-1)), (4, .int (-1)), (5, .int (nI (cc0 + 1) - 1)), (6, .int (nI (mWo w (w * h) p0 ba vi cc0))), (7, .int (nI (cc0 + 1)))] := by rw [nI_pred]; exact hl2
              exact ih (cc0 + 1) (cc0 + 1) (mWo w (w * h) p0 ba vi cc0) (by omega) (by omega) (by omega) (by rw [mNl, if_pos (by omega)] at hq; rw [if_pos (decide_eq_true ⟨by omega, by omega, by omega⟩), if_pos (by omega)] at hq; exact hq) _ _ hP hD hS ls hl2
set_option maxHeartbeats 1000000 in
set_option maxRecDepth 100000 in
theorem c_MD_next_none (l : Launch) (D : va_G) (cI cL : ClassId) (a b1 b2 b3 b4 b5 b6 b7 b8 b9 w h g bg tl sp th isf : Nat) (ba vi to rw li gi fl fo my : Nat → Nat) (p0 fr : Nat) (hw1 : 1 ≤ w) (hw6 : w ≤ 6) (hh6 : h ≤ 6) (hp : p0 < 3) (hfr : fr < 36) (hba : ∀ k, ba k ≤ 1) (hvi : ∀ k, vi k ≤ 1) : CI l y_MD_nextCell (.code y_MD_nextCell b_MD_nextCell 10 (some .int) :: Om) { frames := 3, cells := 0, slots := 0, locals := 89 } D [(a, .inr (5, [.int (nI w), .int (nI h), .int (nI (w * h)), .int (nI g), .ref b1, .ref b2, .ref b3, .int (nI bg), .int (nI tl), .int (nI sp), .int (nI th), .ref b4, .ref b5, .ref b6, .ref b7, .ref b8, .ref b9, .int (nI isf)])), (b1, .inl (cL, 36, .inl (nA ba))), (b2, .inl (cL, 36, .inl (nA vi))), (b3, .inl (cI, 36, .inl (nA to))), (b4, .inl (cI, 6, .inl (mA rw))), (b5, .inl (cI, 6, .inl (mA li))), (b6, .inl (cI, 36, .inl (nA gi))), (b7, .inl (cI, 36, .inl (nA fl))), (b8, .inl (cI, 36, .inl (nA fo))), (b9, .inl (cI, 36, .inl (nA my)))] [(cI, .int), (cL, .boolean)] [.ref a, .int (nI p0), .int (nI fr), .int (-1)] (fun r u => r = nI (mNx w (w * h) p0 ba vi fr 0) - 1 ∧ u = [(a, .inr (5, [.int (nI w), .int (nI h), .int (nI (w * h)), .int (nI g), .ref b1, .ref b2, .ref b3, .int (nI bg), .int (nI tl), .int (nI sp), .int (nI th), .ref b4, .ref b5, .ref b6, .ref b7, .ref b8, .ref b9, .int (nI isf)])), (b1, .inl (cL, 36, .inl (nA ba))), (b2, .inl (cL, 36, .inl (nA vi))), (b3, .inl (cI, 36, .inl (nA to))), (b4, .inl (cI, 6, .inl (mA rw))), (b5, .inl (cI, 6, .inl (mA li))), (b6, .inl (cI, 36, .inl (nA gi))), (b7, .inl (cI, 36, .inl (nA fl))), (b8, .inl (cI, 36, .inl (nA fo))), (b9, .inl (cI, 36, .inl (nA my)))]) := by
  refine en_of (cc := b_MD_nextCell) (Qc := qI D [(cI, .int), (cL, .boolean)] (fun r u => r = nI (mNx w (w * h) p0 ba vi fr 0) - 1 ∧ u = [(a, .inr (5, [.int (nI w), .int (nI h), .int (nI (w * h)), .int (nI g), .ref b1, .ref b2, .ref b3, .int (nI bg), .int (nI tl), .int (nI sp), .int (nI th), .ref b4, .ref b5, .ref b6, .ref b7, .ref b8, .ref b9, .int (nI isf)])), (b1, .inl (cL, 36, .inl (nA ba))), (b2, .inl (cL, 36, .inl (nA vi))), (b3, .inl (cI, 36, .inl (nA to))), (b4, .inl (cI, 6, .inl (mA rw))), (b5, .inl (cI, 6, .inl (mA li))), (b6, .inl (cI, 36, .inl (nA gi))), (b7, .inl (cI, 36, .inl (nA fl))), (b8, .inl (cI, 36, .inl (nA fo))), (b9, .inl (cI, 36, .inl (nA my)))])) (by decide) rfl (Nat.le_of_ble_eq_true rfl) ?_
  intro p e s m below meth c A E hnm hP hD hS ls hl
  have hl : lv_has ls 10 [(0, .ref a), (1, .int (nI p0)), (2, .int (nI fr)), (3, .int (-1))] := hl
  obtain ⟨hx, hb, hml, hown, hts, hr, hlk, hA, hK, hN⟩ := id E
  have ho : ∀ q ∈ Om, q.before _ s = true := fun q h => hts q (List.mem_cons_of_mem _ h)
  refine lv_iload_n hx hb d_MD_nextCell_0 rfl (lv_at hl 3 rfl) ?_
  refine lv_iconst (v := (-1)) hx hb d_MD_nextCell_1 (by decide) ?_
  refine lv_icmp_ne (tgt := 9) hx hb d_MD_nextCell_2 (by decide) (fun h9 => absurd rfl h9) (fun _ => ?_)
  refine lv_iconst (v := (-1)) hx hb d_MD_nextCell_5 (by decide) ?_
  refine lv_goto (tgt := 15) hx hb d_MD_nextCell_6 (by decide) ?_
  refine lv_istore (lv' := [(4, .int (-1)), (0, .ref a), (1, .int (nI p0)), (2, .int (nI fr)), (3, .int (-1))]) hx hb d_MD_nextCell_15 hl (by decide) rfl (fun ls hl => ?_)
  refine lv_iconst (v := (-1)) hx hb d_MD_nextCell_17 (by decide) ?_
  refine lv_istore (lv' := [(5, .int (-1)), (4, .int (-1)), (0, .ref a), (1, .int (nI p0)), (2, .int (nI fr)), (3, .int (-1))]) hx hb d_MD_nextCell_18 hl (by decide) rfl (fun ls hl => ?_)
  refine lv_bipush (v := nI 99) hx hb d_MD_nextCell_20 (by decide) ?_
  refine lv_istore (lv' := [(6, .int (nI 99)), (5, .int (-1)), (4, .int (-1)), (0, .ref a), (1, .int (nI p0)), (2, .int (nI fr)), (3, .int (-1))]) hx hb d_MD_nextCell_22 hl (by decide) rfl (fun ls hl => ?_)
  refine lv_iconst (v := nI 0) hx hb d_MD_nextCell_24 (by decide) ?_
  refine lv_istore (lv' := [(7, .int (nI 0)), (6, .int (nI 99)), (5, .int (-1)), (4, .int (-1)), (0, .ref a), (1, .int (nI p0)), (2, .int (nI fr)), (3, .int (-1))]) hx hb d_MD_nextCell_25 hl (by decide) rfl (fun ls hl => ?_)
  have hl2 : lv_has ls 10 [(0, .ref a), (1, .int (nI p0)), (2, .int (nI fr)), (3, .int (-1)), (4, .int (-1)), (5, .int (-1)), (6, .int (nI 99)), (7, .int (nI 0))] := lv_sub hl [4, 5, 6, 7, 3, 2, 1, 0] rfl
  have hl2 : lv_has ls 10 [(0, .ref a), (1, .int (nI p0)), (2, .int (nI fr)), (3, .int (-1)), (4, .int (-1)), (5, .int (nI 0 - 1)), (6, .int (nI 99)), (7, .int (nI 0))] := by rw [show nI 0 - 1 = (-1 : Int32) by decide]; exact hl2
  exact L_MD_next_none a b1 b2 b3 b4 b5 b6 b7 b8 b9 w h g bg tl sp th isf ba vi to rw li gi fl fo my p0 fr hw1 hw6 hh6 hp hfr hba hvi E (w * h + 1) 0 0 99 (by omega) (by omega) (by omega) ⟨by unfold mNx; simp, rfl⟩ _ _ hP hD hS ls hl2
set_option maxHeartbeats 1000000 in
set_option maxRecDepth 100000 in
theorem L_MD_next_tried {p : Program} {l : Launch} {e : Env} {s : State} {m : MethodId} {args : Array Value} {below : List Frame} {meth : Method} {c : Code} {A : Nat → Prop} {D : va_G} {cI cL : ClassId} {c0 : Cond} {post : Int32 → va_W → Prop} (a b1 b2 b3 b4 b5 b6 b7 b8 b9 w h g bg tl sp th isf : Nat) (ba vi to rw li gi fl fo my : Nat → Nat) (p0 fr : Nat) (tk ah : Nat) (htk : tk < 36) (hah : ah ≤ w * h + 1) (hw1 : 1 ≤ w) (hw6 : w ≤ 6) (hh6 : h ≤ 6) (hp : p0 < 3) (hfr : fr < 36) (hba : ∀ k, ba k ≤ 1) (hvi : ∀ k, vi k ≤ 1) (E : En p s m args meth c b_MD_nextCell 10 (c0 :: Om) R_MD (some .int) A D [(cI, .int), (cL, .boolean)]) : ∀ (m1 : Nat) (cc0 : Nat) (bs : Nat) (fw : Nat), cc0 ≤ w * h → w * h < cc0 + m1 → fw ≤ 99 → post (nI (mNl w (w * h) p0 ba vi fr (tk + 1) ah m1 cc0 bs fw) - 1) [(a, .inr (5, [.int (nI w), .int (nI h), .int (nI (w * h)), .int (nI g), .ref b1, .ref b2, .ref b3, .int (nI bg), .int (nI tl), .int (nI sp), .int (nI th), .ref b4, .ref b5, .ref b6, .ref b7, .ref b8, .ref b9, .int (nI isf)])), (b1, .inl (cL, 36, .inl (nA ba))), (b2, .inl (cL, 36, .inl (nA vi))), (b3, .inl (cI, 36, .inl (nA to))), (b4, .inl (cI, 6, .inl (mA rw))), (b5, .inl (cI, 6, .inl (mA li))), (b6, .inl (cI, 36, .inl (nA gi))), (b7, .inl (cI, 36, .inl (nA fl))), (b8, .inl (cI, 36, .inl (nA fo))), (b9, .inl (cI, 36, .inl (nA my)))] → ∀ (H : Heap) (locs : List Loc), va_P D classes [(a, .inr (5, [.int (nI w), .int (nI h), .int (nI (w * h)), .int (nI g), .ref b1, .ref b2, .ref b3, .int (nI bg), .int (nI tl), .int (nI sp), .int (nI th), .ref b4, .ref b5, .ref b6, .ref b7, .ref b8, .ref b9, .int (nI isf)])), (b1, .inl (cL, 36, .inl (nA ba))), (b2, .inl (cL, 36, .inl (nA vi))), (b3, .inl (cI, 36, .inl (nA to))), (b4, .inl (cI, 6, .inl (mA rw))), (b5, .inl (cI, 6, .inl (mA li))), (b6, .inl (cI, 36, .inl (nA gi))), (b7, .inl (cI, 36, .inl (nA fl))), (b8, .inl (cI, 36, .inl (nA fo))), (b9, .inl (cI, 36, .inl (nA my)))] H → va_D A [(a, .inr (5, [.int (nI w), .int (nI h), .int (nI (w * h)), .int (nI g), .ref b1, .ref b2, .ref b3, .int (nI bg), .int (nI tl), .int (nI sp), .int (nI th), .ref b4, .ref b5, .ref b6, .ref b7, .ref b8, .ref b9, .int (nI isf)])), (b1, .inl (cL, 36, .inl (nA ba))), (b2, .inl (cL, 36, .inl (nA vi))), (b3, .inl (cI, 36, .inl (nA to))), (b4, .inl (cI, 6, .inl (mA rw))), (b5, .inl (cI, 6, .inl (mA li))), (b6, .inl (cI, 36, .inl (nA gi))), (b7, .inl (cI, 36, .inl (nA fl))), (b8, .inl (cI, 36, .inl (nA fo))), (b9, .inl (cI, 36, .inl (nA my)))] → va_S A s.heap H locs → ∀ ls : Array Slot, lv_has ls 10 [(0, .ref a), (1, .int (nI p0)), (2, .int (nI fr)), (3, .int (nI tk)), (4, .int (nI ah)), (5, .int (nI bs - 1)), (6, .int (nI fw)), (7, .int (nI cc0))] → W p l e { frames := 3, cells := 0, slots := 0, locals := 89 } s m args below meth c H locs 0 0 (MQ below (qI D [(cI, .int), (cL, .boolean)] post A) args s 0 0 A) (F0 m 27 ls []) := by
  obtain ⟨hx, hb, hml, hown, hts, hr, hlk, hA, hK, hN⟩ := id E
  have ho : ∀ q ∈ Om, q.before _ s = true := fun q h => hts q (List.mem_cons_of_mem _ h)
  intro m1
  induction m1 with
  | zero =>
    intro cc0 bs fw h1 h2 hf9 hq
    exact absurd h2 (by omega)
  | succ m1 ih =>
    intro cc0 bs fw h1 h2 hf9 hq H locs hP hD hS ls hl
    refine lv_iload hx hb d_MD_nextCell_27 (lv_at hl 7 rfl) ?_
    have h36 := wh36 hw6 hh6
    refine lv_aload_n hx hb d_MD_nextCell_29 rfl (lv_at hl 0 rfl) ?_
    refine va_get (D := D) (ci := 5) (v := .int (nI (w * h))) (C := R_MD) (T := F_MD) (N := 18) hx hb ho j_MD hown hK hP 0 rfl rfl 2 (by decide) (ho _ kf_MD_49) (fun _ h9 => h9) rfl d_MD_nextCell_30 ?_
    refine nr_icmp_ge (tgt := 134) hx hb d_MD_nextCell_33 (by decide) (by omega) (by omega) (fun h_1 => ?_) (fun h_1 => ?_)
    · refine lv_iload hx hb d_MD_nextCell_134 (lv_at hl 5 rfl) ?_
      exact rt_i E hP hD hS (by rw [mNl, if_neg (by omega)] at hq; exact hq) d_MD_nextCell_136
    · have hb1 := hba cc0
      have hv1 := hvi cc0
      refine lv_aload_n hx hb d_MD_nextCell_36 rfl (lv_at hl 0 rfl) ?_
      refine va_get (D := D) (ci := 5) (v := .ref b1) (C := R_MD) (T := F_MD) (N := 18) hx hb ho j_MD hown hK hP 0 rfl rfl 4 (by decide) (ho _ kf_MD_7) (fun _ h9 => h9) rfl d_MD_nextCell_37 ?_
      refine lv_iload hx hb d_MD_nextCell_40 (lv_at hl 7 rfl) ?_
      refine nr_zald hx hb hK hP 1 1 rfl rfl (i := cc0) (by omega) (by decide) d_MD_nextCell_42 ?_
      refine nr_if_ne (tgt := 128) hx hb d_MD_nextCell_43 (by decide) (by omega) (fun h_2 => ?_) (fun h_2 => ?_)
      · refine nr_iinc (lv' := [(7, .int (nI (cc0 + 1))), (0, .ref a), (1, .int (nI p0)), (2, .int (nI fr)), (3, .int (nI tk)), (4, .int (nI ah)), (5, .int (nI bs - 1)), (6, .int (nI fw))]) hx hb d_MD_nextCell_128 hl (k := 7) rfl (by decide) rfl (fun ls hl => ?_)
        refine lv_goto (tgt := 27) hx hb d_MD_nextCell_131 (by decide) ?_
        exact ih (cc0 + 1) bs fw (by omega) (by omega) (by omega) (by rw [mNl, if_pos (by omega)] at hq; first | (rw [if_neg (fun z => by have z := of_decide_eq_true z; omega)] at hq; exact hq) | (rw [if_pos (decide_eq_true ⟨by omega, by omega, by omega⟩), if_neg (by omega)] at hq; exact hq)) _ _ hP hD hS ls (lv_sub hl [1, 2, 3, 4, 5, 6, 7, 0] rfl)
      · refine lv_aload_n hx hb d_MD_nextCell_46 rfl (lv_at hl 0 rfl) ?_
        refine va_get (D := D) (ci := 5) (v := .ref b2) (C := R_MD) (T := F_MD) (N := 18) hx hb ho j_MD hown hK hP 0 rfl rfl 5 (by decide) (ho _ kf_MD_13) (fun _ h9 => h9) rfl d_MD_nextCell_47 ?_
        refine lv_iload hx hb d_MD_nextCell_50 (lv_at hl 7 rfl) ?_
        refine nr_zald hx hb hK hP 2 1 rfl rfl (i := cc0) (by omega) (by decide) d_MD_nextCell_52 ?_
        refine nr_if_ne (tgt := 128) hx hb d_MD_nextCell_53 (by decide) (by omega) (fun h_3 => ?_) (fun h_3 => ?_)
        · refine nr_iinc (lv' := [(7, .int (nI (cc0 + 1))), (0, .ref a), (1, .int (nI p0)), (2, .int (nI fr)), (3, .int (nI tk)), (4, .int (nI ah)), (5, .int (nI bs - 1)), (6, .int (nI fw))]) hx hb d_MD_nextCell_128 hl (k := 7) rfl (by decide) rfl (fun ls hl => ?_)
          refine lv_goto (tgt := 27) hx hb d_MD_nextCell_131 (by decide) ?_
          exact ih (cc0 + 1) bs fw (by omega) (by omega) (by omega) (by rw [mNl, if_pos (by omega)] at hq; first | (rw [if_neg (fun z => by have z := of_decide_eq_true z; omega)] at hq; exact hq) | (rw [if_pos (decide_eq_true ⟨by omega, by omega, by omega⟩), if_neg (by omega)] at hq; exact hq)) _ _ hP hD hS ls (lv_sub hl [1, 2, 3, 4, 5, 6, 7, 0] rfl)
        · refine lv_aload_n hx hb d_MD_nextCell_56 rfl (lv_at hl 0 rfl) ?_
          refine lv_iload_n hx hb d_MD_nextCell_57 rfl (lv_at hl 1 rfl) ?_
          refine lv_iload_n hx hb d_MD_nextCell_58 rfl (lv_at hl 2 rfl) ?_
          refine lv_iload hx hb d_MD_nextCell_59 (lv_at hl 7 rfl) ?_
          have hgo := mGo_1 w p0 fr cc0
          refine af_i (wc := [(a, .inr (5, [.int (nI w), .int (nI h), .int (nI (w * h)), .int (nI g), .ref b1, .ref b2, .ref b3, .int (nI bg), .int (nI tl), .int (nI sp), .int (nI th), .ref b4, .ref b5, .ref b6, .ref b7, .ref b8, .ref b9, .int (nI isf)])), (b1, .inl (cL, 36, .inl (nA ba))), (b2, .inl (cL, 36, .inl (nA vi))), (b3, .inl (cI, 36, .inl (nA to))), (b4, .inl (cI, 6, .inl (mA rw))), (b5, .inl (cI, 6, .inl (mA li))), (b6, .inl (cI, 36, .inl (nA gi))), (b7, .inl (cI, 36, .inl (nA fl))), (b8, .inl (cI, 36, .inl (nA fo))), (b9, .inl (cI, 36, .inl (nA my)))]) (wr := []) (rest := []) [0, 1, 2, 3, 4, 5, 6, 7, 8, 9] [] hP hD hS hA rfl rfl (by decide) (by decide) (rn_V E (As := [.int (nI p0), .int (nI fr), .int (nI cc0)]) m_MD_goes km_MD_72 (c_MD_goes l D cI cL a b1 b2 b3 b4 b5 b6 b7 b8 b9 w h g bg tl sp th isf ba vi to rw li gi fl fo my p0 fr cc0 hw1 hw6 hh6 (by omega) (by omega) (by omega) _) ⟨rfl, rfl, by dsimp only; omega, by dsimp only; omega⟩ (hP.sub [0, 1, 2, 3, 4, 5, 6, 7, 8, 9] rfl) (hD.sub [0, 1, 2, 3, 4, 5, 6, 7, 8, 9] (by decide) rfl) (q0 := 0) (ci := 5) rfl rfl rfl hl.1 rfl (Nat.le_of_ble_eq_true rfl) ⟨Nat.le_of_ble_eq_true rfl, Nat.le_of_ble_eq_true rfl⟩ d_MD_nextCell_61) (fun r_5 u_4 H locs hw hP hD hS => ?_)
          obtain ⟨rfl, rfl⟩ := hw
          have hP : va_P D classes [(a, .inr (5, [.int (nI w), .int (nI h), .int (nI (w * h)), .int (nI g), .ref b1, .ref b2, .ref b3, .int (nI bg), .int (nI tl), .int (nI sp), .int (nI th), .ref b4, .ref b5, .ref b6, .ref b7, .ref b8, .ref b9, .int (nI isf)])), (b1, .inl (cL, 36, .inl (nA ba))), (b2, .inl (cL, 36, .inl (nA vi))), (b3, .inl (cI, 36, .inl (nA to))), (b4, .inl (cI, 6, .inl (mA rw))), (b5, .inl (cI, 6, .inl (mA li))), (b6, .inl (cI, 36, .inl (nA gi))), (b7, .inl (cI, 36, .inl (nA fl))), (b8, .inl (cI, 36, .inl (nA fo))), (b9, .inl (cI, 36, .inl (nA my)))] H := hP
          have hD : va_D A [(a, .inr (5, [.int (nI w), .int (nI h), .int (nI (w * h)), .int (nI g), .ref b1, .ref b2, .ref b3, .int (nI bg), .int (nI tl), .int (nI sp), .int (nI th), .ref b4, .ref b5, .ref b6, .ref b7, .ref b8, .ref b9, .int (nI isf)])), (b1, .inl (cL, 36, .inl (nA ba))), (b2, .inl (cL, 36, .inl (nA vi))), (b3, .inl (cI, 36, .inl (nA to))), (b4, .inl (cI, 6, .inl (mA rw))), (b5, .inl (cI, 6, .inl (mA li))), (b6, .inl (cI, 36, .inl (nA gi))), (b7, .inl (cI, 36, .inl (nA fl))), (b8, .inl (cI, 36, .inl (nA fo))), (b9, .inl (cI, 36, .inl (nA my)))] := hD
          refine nr_if_eq (tgt := 128) hx hb d_MD_nextCell_64 (by decide) (by omega) (fun h_6 => ?_) (fun h_6 => ?_)
          · refine nr_iinc (lv' := [(7, .int (nI (cc0 + 1))), (0, .ref a), (1, .int (nI p0)), (2, .int (nI fr)), (3, .int (nI tk)), (4, .int (nI ah)), (5, .int (nI bs - 1)), (6, .int (nI fw))]) hx hb d_MD_nextCell_128 hl (k := 7) rfl (by decide) rfl (fun ls hl => ?_)
            refine lv_goto (tgt := 27) hx hb d_MD_nextCell_131 (by decide) ?_
            exact ih (cc0 + 1) bs fw (by omega) (by omega) (by omega) (by rw [mNl, if_pos (by omega)] at hq; first | (rw [if_neg (fun z => by have z := of_decide_eq_true z; omega)] at hq; exact hq) | (rw [if_pos (decide_eq_true ⟨by omega, by omega, by omega⟩), if_neg (by omega)] at hq; exact hq)) _ _ hP hD hS ls (lv_sub hl [1, 2, 3, 4, 5, 6, 7, 0] rfl)
          · refine lv_aload_n hx hb d_MD_nextCell_67 rfl (lv_at hl 0 rfl) ?_
            refine lv_iload_n hx hb d_MD_nextCell_68 rfl (lv_at hl 1 rfl) ?_
            refine lv_iload hx hb d_MD_nextCell_69 (lv_at hl 7 rfl) ?_
            have hwle := mWo_le w (w * h) p0 ba vi cc0
            refine af_i (wc := [(a, .inr (5, [.int (nI w), .int (nI h), .int (nI (w * h)), .int (nI g), .ref b1, .ref b2, .ref b3, .int (nI bg), .int (nI tl), .int (nI sp), .int (nI th), .ref b4, .ref b5, .ref b6, .ref b7, .ref b8, .ref b9, .int (nI isf)])), (b1, .inl (cL, 36, .inl (nA ba))), (b2, .inl (cL, 36, .inl (nA vi))), (b3, .inl (cI, 36, .inl (nA to))), (b4, .inl (cI, 6, .inl (mA rw))), (b5, .inl (cI, 6, .inl (mA li))), (b6, .inl (cI, 36, .inl (nA gi))), (b7, .inl (cI, 36, .inl (nA fl))), (b8, .inl (cI, 36, .inl (nA fo))), (b9, .inl (cI, 36, .inl (nA my)))]) (wr := []) (rest := []) [0, 1, 2, 3, 4, 5, 6, 7, 8, 9] [] hP hD hS hA rfl rfl (by decide) (by decide) (rn_V E (As := [.int (nI p0), .int (nI cc0)]) m_MD_waysOn km_MD_76 (c_MD_waysOn l D cI cL a b1 b2 b3 b4 b5 b6 b7 b8 b9 w h g bg tl sp th isf ba vi to rw li gi fl fo my p0 cc0 hw1 hw6 hh6 (by omega) (by omega) hba hvi _) ⟨rfl, rfl, by dsimp only; omega, by dsimp only; omega⟩ (hP.sub [0, 1, 2, 3, 4, 5, 6, 7, 8, 9] rfl) (hD.sub [0, 1, 2, 3, 4, 5, 6, 7, 8, 9] (by decide) rfl) (q0 := 0) (ci := 5) rfl rfl rfl hl.1 rfl (Nat.le_of_ble_eq_true rfl) ⟨Nat.le_of_ble_eq_true rfl, Nat.le_of_ble_eq_true rfl⟩ d_MD_nextCell_71) (fun r_8 u_7 H locs hw hP hD hS => ?_)
            obtain ⟨rfl, rfl⟩ := hw
            have hP : va_P D classes [(a, .inr (5, [.int (nI w), .int (nI h), .int (nI (w * h)), .int (nI g), .ref b1, .ref b2, .ref b3, .int (nI bg), .int (nI tl), .int (nI sp), .int (nI th), .ref b4, .ref b5, .ref b6, .ref b7, .ref b8, .ref b9, .int (nI isf)])), (b1, .inl (cL, 36, .inl (nA ba))), (b2, .inl (cL, 36, .inl (nA vi))), (b3, .inl (cI, 36, .inl (nA to))), (b4, .inl (cI, 6, .inl (mA rw))), (b5, .inl (cI, 6, .inl (mA li))), (b6, .inl (cI, 36, .inl (nA gi))), (b7, .inl (cI, 36, .inl (nA fl))), (b8, .inl (cI, 36, .inl (nA fo))), (b9, .inl (cI, 36, .inl (nA my)))] H := hP
            have hD : va_D A [(a, .inr (5, [.int (nI w), .int (nI h), .int (nI (w * h)), .int (nI g), .ref b1, .ref b2, .ref b3, .int (nI bg), .int (nI tl), .int (nI sp), .int (nI th), .ref b4, .ref b5, .ref b6, .ref b7, .ref b8, .ref b9, .int (nI isf)])), (b1, .inl (cL, 36, .inl (nA ba))), (b2, .inl (cL, 36, .inl (nA vi))), (b3, .inl (cI, 36, .inl (nA to))), (b4, .inl (cI, 6, .inl (mA rw))), (b5, .inl (cI, 6, .inl (mA li))), (b6, .inl (cI, 36, .inl (nA gi))), (b7, .inl (cI, 36, .inl (nA fl))), (b8, .inl (cI, 36, .inl (nA fo))), (b9, .inl (cI, 36, .inl (nA my)))] := hD
            refine lv_istore (lv' := [(8, .int (nI (mWo w (w * h) p0 ba vi cc0))), (0, .ref a), (1, .int (nI p0)), (2, .int (nI fr)), (3, .int (nI tk)), (4, .int (nI ah)), (5, .int (nI bs - 1)), (6, .int (nI fw)), (7, .int (nI cc0))]) hx hb d_MD_nextCell_74 hl (by decide) rfl (fun ls hl => ?_)
            refine lv_iload_n hx hb d_MD_nextCell_76 rfl (lv_at hl 4 rfl) ?_
            refine lv_iconst (v := (-1)) hx hb d_MD_nextCell_77 (by decide) ?_
            refine lv_icmp_eq (tgt := 101) hx hb d_MD_nextCell_78 (by decide) (fun h9 => absurd h9 (nI_m1 (by omega))) (fun _ => ?_)
            refine lv_iload hx hb d_MD_nextCell_81 (lv_at hl 0 rfl) ?_
            refine lv_iload hx hb d_MD_nextCell_83 (lv_at hl 5 rfl) ?_
            refine nr_icmp_gt (tgt := 101) hx hb d_MD_nextCell_85 (by decide) (by omega) (by omega) (fun h_9 => ?_) (fun h_9 => ?_)
            · refine lv_iconst (v := nI 1) hx hb d_MD_nextCell_101 (by decide) ?_
              refine lv_goto (tgt := 106) hx hb d_MD_nextCell_102 (by decide) ?_
              refine lv_istore (lv' := [(9, .int (nI 1)), (8, .int (nI (mWo w (w * h) p0 ba vi cc0))), (0, .ref a), (1, .int (nI p0)), (2, .int (nI fr)), (3, .int (nI tk)), (4, .int (nI ah)), (5, .int (nI bs - 1)), (6, .int (nI fw)), (7, .int (nI cc0))]) hx hb d_MD_nextCell_106 hl (by decide) rfl (fun ls hl => ?_)
              refine lv_iload hx hb d_MD_nextCell_108 (lv_at hl 0 rfl) ?_
              refine nr_if_eq (tgt := 128) hx hb d_MD_nextCell_110 (by decide) (by decide) (fun h9 => absurd h9 (by decide)) (fun _ => ?_)
              refine lv_iload hx hb d_MD_nextCell_113 (lv_at hl 1 rfl) ?_
              refine lv_iload hx hb d_MD_nextCell_115 (lv_at hl 8 rfl) ?_
              refine nr_icmp_ge (tgt := 128) hx hb d_MD_nextCell_117 (by decide) (by omega) (by omega) (fun h_10 => ?_) (fun h_10 => ?_)
              · refine nr_iinc (lv' := [(7, .int (nI (cc0 + 1))), (9, .int (nI 1)), (8, .int (nI (mWo w (w * h) p0 ba vi cc0))), (0, .ref a), (1, .int (nI p0)), (2, .int (nI fr)), (3, .int (nI tk)), (4, .int (nI ah)), (5, .int (nI bs - 1)), (6, .int (nI fw))]) hx hb d_MD_nextCell_128 hl (k := 9) rfl (by decide) rfl (fun ls hl => ?_)
                refine lv_goto (tgt := 27) hx hb d_MD_nextCell_131 (by decide) ?_
                exact ih (cc0 + 1) bs fw (by omega) (by omega) (by omega) (by rw [mNl, if_pos (by omega)] at hq; first | (rw [if_neg (fun z => by have z := of_decide_eq_true z; omega)] at hq; exact hq) | (rw [if_pos (decide_eq_true ⟨by omega, by omega, by omega⟩), if_neg (by omega)] at hq; exact hq)) _ _ hP hD hS ls (lv_sub hl [3, 4, 5, 6, 7, 8, 9, 0] rfl)
              · refine lv_iload hx hb d_MD_nextCell_120 (lv_at hl 1 rfl) ?_
                refine lv_istore (lv' := [(6, .int (nI (mWo w (w * h) p0 ba vi cc0))), (9, .int (nI 1)), (8, .int (nI (mWo w (w * h) p0 ba vi cc0))), (0, .ref a), (1, .int (nI p0)), (2, .int (nI fr)), (3, .int (nI tk)), (4, .int (nI ah)), (5, .int (nI bs - 1)), (7, .int (nI cc0))]) hx hb d_MD_nextCell_122 hl (by decide) rfl (fun ls hl => ?_)
                refine lv_iload hx hb d_MD_nextCell_124 (lv_at hl 9 rfl) ?_
                refine lv_istore (lv' := [(5, .int (nI cc0)), (6, .int (nI (mWo w (w * h) p0 ba vi cc0))), (9, .int (nI 1)), (8, .int (nI (mWo w (w * h) p0 ba vi cc0))), (0, .ref a), (1, .int (nI p0)), (2, .int (nI fr)), (3, .int (nI tk)), (4, .int (nI ah)), (7, .int (nI cc0))]) hx hb d_MD_nextCell_126 hl (by decide) rfl (fun ls hl => ?_)
                refine nr_iinc (lv' := [(7, .int (nI (cc0 + 1))), (5, .int (nI cc0)), (6, .int (nI (mWo w (w * h) p0 ba vi cc0))), (9, .int (nI 1)), (8, .int (nI (mWo w (w * h) p0 ba vi cc0))), (0, .ref a), (1, .int (nI p0)), (2, .int (nI fr)), (3, .int (nI tk)), (4, .int (nI ah))]) hx hb d_MD_nextCell_128 hl (k := 9) rfl (by decide) rfl (fun ls hl => ?_)
                refine lv_goto (tgt := 27) hx hb d_MD_nextCell_131 (by decide) ?_
                have hl2 : lv_has ls 10 [(0, .ref a), (1, .int (nI p0)), (2, .int (nI fr)), (3, .int (nI tk)), (4, .int (nI ah)), (5, .int (nI cc0)), (6, .int (nI (mWo w (w * h) p0 ba vi cc0))), (7, .int (nI (cc0 + 1)))] := lv_sub hl [5, 6, 7, 8, 9, 1, 2, 0] rfl
                have hl2 : lv_has ls 10 [(0, .ref a), (1, .int (nI p0)), (2, .int (nI fr)), (3, .int (nI tk)), (4, .int (nI ah)), (5, .int (nI (cc0 + 1) - 1)), (6, .int (nI (mWo w (w * h) p0 ba vi cc0))), (7, .int (nI (cc0 + 1)))] := by rw [nI_pred]; exact hl2
                exact ih (cc0 + 1) (cc0 + 1) (mWo w (w * h) p0 ba vi cc0) (by omega) (by omega) (by omega) (by rw [mNl, if_pos (by omega)] at hq; rw [if_pos (decide_eq_true ⟨by omega, by omega, by omega⟩), if_pos (by omega)] at hq; exact hq) _ _ hP hD hS ls hl2
            · refine lv_iload hx hb d_MD_nextCell_88 (lv_at hl 0 rfl) ?_
              refine lv_iload hx hb d_MD_nextCell_90 (lv_at hl 5 rfl) ?_
              refine nr_icmp_ne (tgt := 105) hx hb d_MD_nextCell_92 (by decide) (by omega) (by omega) (fun h_11 => ?_) (fun h_11 => ?_)
              · refine lv_iconst (v := nI 0) hx hb d_MD_nextCell_105 (by decide) ?_
                refine lv_istore (lv' := [(9, .int (nI 0)), (8, .int (nI (mWo w (w * h) p0 ba vi cc0))), (0, .ref a), (1, .int (nI p0)), (2, .int (nI fr)), (3, .int (nI tk)), (4, .int (nI ah)), (5, .int (nI bs - 1)), (6, .int (nI fw)), (7, .int (nI cc0))]) hx hb d_MD_nextCell_106 hl (by decide) rfl (fun ls hl => ?_)
                refine lv_iload hx hb d_MD_nextCell_108 (lv_at hl 0 rfl) ?_
                refine nr_if_eq (tgt := 128) hx hb d_MD_nextCell_110 (by decide) (by decide) (fun _ => ?_) (fun h9 => absurd h9 (by decide))
                refine nr_iinc (lv' := [(7, .int (nI (cc0 + 1))), (9, .int (nI 0)), (8, .int (nI (mWo w (w * h) p0 ba vi cc0))), (0, .ref a), (1, .int (nI p0)), (2, .int (nI fr)), (3, .int (nI tk)), (4, .int (nI ah)), (5, .int (nI bs - 1)), (6, .int (nI fw))]) hx hb d_MD_nextCell_128 hl (k := 9) rfl (by decide) rfl (fun ls hl => ?_)
                refine lv_goto (tgt := 27) hx hb d_MD_nextCell_131 (by decide) ?_
                exact ih (cc0 + 1) bs fw (by omega) (by omega) (by omega) (by rw [mNl, if_pos (by omega)] at hq; first | (rw [if_neg (fun z => by have z := of_decide_eq_true z; omega)] at hq; exact hq) | (rw [if_pos (decide_eq_true ⟨by omega, by omega, by omega⟩), if_neg (by omega)] at hq; exact hq)) _ _ hP hD hS ls (lv_sub hl [3, 4, 5, 6, 7, 8, 9, 0] rfl)
              · refine lv_iload hx hb d_MD_nextCell_95 (lv_at hl 8 rfl) ?_
                refine lv_iload_n hx hb d_MD_nextCell_97 rfl (lv_at hl 4 rfl) ?_
                refine nr_icmp_le (tgt := 105) hx hb d_MD_nextCell_98 (by decide) (by omega) (by omega) (fun h_12 => ?_) (fun h_12 => ?_)
                · refine lv_iconst (v := nI 0) hx hb d_MD_nextCell_105 (by decide) ?_
                  refine lv_istore (lv' := [(9, .int (nI 0)), (8, .int (nI (mWo w (w * h) p0 ba vi cc0))), (0, .ref a), (1, .int (nI p0)), (2, .int (nI fr)), (3, .int (nI tk)), (4, .int (nI ah)), (5, .int (nI bs - 1)), (6, .int (nI fw)), (7, .int (nI cc0))]) hx hb d_MD_nextCell_106 hl (by decide) rfl (fun ls hl => ?_)
                  refine lv_iload hx hb d_MD_nextCell_108 (lv_at hl 0 rfl) ?_
                  refine nr_if_eq (tgt := 128) hx hb d_MD_nextCell_110 (by decide) (by decide) (fun _ => ?_) (fun h9 => absurd h9 (by decide))
                  refine nr_iinc (lv' := [(7, .int (nI (cc0 + 1))), (9, .int (nI 0)), (8, .int (nI (mWo w (w * h) p0 ba vi cc0))), (0, .ref a), (1, .int (nI p0)), (2, .int (nI fr)), (3, .int (nI tk)), (4, .int (nI ah)), (5, .int (nI bs - 1)), (6, .int (nI fw))]) hx hb d_MD_nextCell_128 hl (k := 9) rfl (by decide) rfl (fun ls hl => ?_)
                  refine lv_goto (tgt := 27) hx hb d_MD_nextCell_131 (by decide) ?_
                  exact ih (cc0 + 1) bs fw (by omega) (by omega) (by omega) (by rw [mNl, if_pos (by omega)] at hq; first | (rw [if_neg (fun z => by have z := of_decide_eq_true z; omega)] at hq; exact hq) | (rw [if_pos (decide_eq_true ⟨by omega, by omega, by omega⟩), if_neg (by omega)] at hq; exact hq)) _ _ hP hD hS ls (lv_sub hl [3, 4, 5, 6, 7, 8, 9, 0] rfl)
                · refine lv_iconst (v := nI 1) hx hb d_MD_nextCell_101 (by decide) ?_
                  refine lv_goto (tgt := 106) hx hb d_MD_nextCell_102 (by decide) ?_
                  refine lv_istore (lv' := [(9, .int (nI 1)), (8, .int (nI (mWo w (w * h) p0 ba vi cc0))), (0, .ref a), (1, .int (nI p0)), (2, .int (nI fr)), (3, .int (nI tk)), (4, .int (nI ah)), (5, .int (nI bs - 1)), (6, .int (nI fw)), (7, .int (nI cc0))]) hx hb d_MD_nextCell_106 hl (by decide) rfl (fun ls hl => ?_)
                  refine lv_iload hx hb d_MD_nextCell_108 (lv_at hl 0 rfl) ?_
                  refine nr_if_eq (tgt := 128) hx hb d_MD_nextCell_110 (by decide) (by decide) (fun h9 => absurd h9 (by decide)) (fun _ => ?_)
                  refine lv_iload hx hb d_MD_nextCell_113 (lv_at hl 1 rfl) ?_
                  refine lv_iload hx hb d_MD_nextCell_115 (lv_at hl 8 rfl) ?_
                  refine nr_icmp_ge (tgt := 128) hx hb d_MD_nextCell_117 (by decide) (by omega) (by omega) (fun h_13 => ?_) (fun h_13 => ?_)
                  · refine nr_iinc (lv' := [(7, .int (nI (cc0 + 1))), (9, .int (nI 1)), (8, .int (nI (mWo w (w * h) p0 ba vi cc0))), (0, .ref a), (1, .int (nI p0)), (2, .int (nI fr)), (3, .int (nI tk)), (4, .int (nI ah)), (5, .int (nI bs - 1)), (6, .int (nI fw))]) hx hb d_MD_nextCell_128 hl (k := 9) rfl (by decide) rfl (fun ls hl => ?_)
                    refine lv_goto (tgt := 27) hx hb d_MD_nextCell_131 (by decide) ?_
                    exact ih (cc0 + 1) bs fw (by omega) (by omega) (by omega) (by rw [mNl, if_pos (by omega)] at hq; first | (rw [if_neg (fun z => by have z := of_decide_eq_true z; omega)] at hq; exact hq) | (rw [if_pos (decide_eq_true ⟨by omega, by omega, by omega⟩), if_neg (by omega)] at hq; exact hq)) _ _ hP hD hS ls (lv_sub hl [3, 4, 5, 6, 7, 8, 9, 0] rfl)
                  · refine lv_iload hx hb d_MD_nextCell_120 (lv_at hl 1 rfl) ?_
                    refine lv_istore (lv' := [(6, .int (nI (mWo w (w * h) p0 ba vi cc0))), (9, .int (nI 1)), (8, .int (nI (mWo w (w * h) p0 ba vi cc0))), (0, .ref a), (1, .int (nI p0)), (2, .int (nI fr)), (3, .int (nI tk)), (4, .int (nI ah)), (5, .int (nI bs - 1)), (7, .int (nI cc0))]) hx hb d_MD_nextCell_122 hl (by decide) rfl (fun ls hl => ?_)
                    refine lv_iload hx hb d_MD_nextCell_124 (lv_at hl 9 rfl) ?_
                    refine lv_istore (lv' := [(5, .int (nI cc0)), (6, .int (nI (mWo w (w * h) p0 ba vi cc0))), (9, .int (nI 1)), (8, .int (nI (mWo w (w * h) p0 ba vi cc0))), (0, .ref a), (1, .int (nI p0)), (2, .int (nI fr)), (3, .int (nI tk)), (4, .int (nI ah)), (7, .int (nI cc0))]) hx hb d_MD_nextCell_126 hl (by decide) rfl (fun ls hl => ?_)
                    refine nr_iinc (lv' := [(7, .int (nI (cc0 + 1))), (5, .int (nI cc0)), (6, .int (nI (mWo w (w * h) p0 ba vi cc0))), (9, .int (nI 1)), (8, .int (nI (mWo w (w * h) p0 ba vi cc0))), (0, .ref a), (1, .int (nI p0)), (2, .int (nI fr)), (3, .int (nI tk)), (4, .int (nI ah))]) hx hb d_MD_nextCell_128 hl (k := 9) rfl (by decide) rfl (fun ls hl => ?_)
                    refine lv_goto (tgt := 27) hx hb d_MD_nextCell_131 (by decide) ?_
                    have hl2 : lv_has ls 10 [(0, .ref a), (1, .int (nI p0)), (2, .int (nI fr)), (3, .int (nI tk)), (4, .int (nI ah)), (5, .int (nI cc0)), (6, .int (nI (mWo w (w * h) p0 ba vi cc0))), (7, .int (nI (cc0 + 1)))] := lv_sub hl [5, 6, 7, 8, 9, 1, 2, 0] rfl
                    have hl2 : lv_has ls 10 [(0, .ref a), (1, .int (nI p0)), (2, .int (nI fr)), (3, .int (nI tk)), (4, .int (nI ah)), (5, .int (nI (cc0 + 1) - 1)), (6, .int (nI (mWo w (w * h) p0 ba vi cc0))), (7, .int (nI (cc0 + 1)))] := by rw [nI_pred]; exact hl2
                    exact ih (cc0 + 1) (cc0 + 1) (mWo w (w * h) p0 ba vi cc0) (by omega) (by omega) (by omega) (by rw [mNl, if_pos (by omega)] at hq; rw [if_pos (decide_eq_true ⟨by omega, by omega, by omega⟩), if_pos (by omega)] at hq; exact hq) _ _ hP hD hS ls hl2
set_option maxHeartbeats 1000000 in
set_option maxRecDepth 100000 in
theorem c_MD_next_tried (l : Launch) (D : va_G) (cI cL : ClassId) (a b1 b2 b3 b4 b5 b6 b7 b8 b9 w h g bg tl sp th isf : Nat) (ba vi to rw li gi fl fo my : Nat → Nat) (p0 fr : Nat) (tk : Nat) (htk : tk < 36) (hw1 : 1 ≤ w) (hw6 : w ≤ 6) (hh6 : h ≤ 6) (hp : p0 < 3) (hfr : fr < 36) (hba : ∀ k, ba k ≤ 1) (hvi : ∀ k, vi k ≤ 1) : CI l y_MD_nextCell (.code y_MD_nextCell b_MD_nextCell 10 (some .int) :: Om) { frames := 3, cells := 0, slots := 0, locals := 89 } D [(a, .inr (5, [.int (nI w), .int (nI h), .int (nI (w * h)), .int (nI g), .ref b1, .ref b2, .ref b3, .int (nI bg), .int (nI tl), .int (nI sp), .int (nI th), .ref b4, .ref b5, .ref b6, .ref b7, .ref b8, .ref b9, .int (nI isf)])), (b1, .inl (cL, 36, .inl (nA ba))), (b2, .inl (cL, 36, .inl (nA vi))), (b3, .inl (cI, 36, .inl (nA to))), (b4, .inl (cI, 6, .inl (mA rw))), (b5, .inl (cI, 6, .inl (mA li))), (b6, .inl (cI, 36, .inl (nA gi))), (b7, .inl (cI, 36, .inl (nA fl))), (b8, .inl (cI, 36, .inl (nA fo))), (b9, .inl (cI, 36, .inl (nA my)))] [(cI, .int), (cL, .boolean)] [.ref a, .int (nI p0), .int (nI fr), .int (nI tk)] (fun r u => r = nI (mNx w (w * h) p0 ba vi fr (tk + 1)) - 1 ∧ u = [(a, .inr (5, [.int (nI w), .int (nI h), .int (nI (w * h)), .int (nI g), .ref b1, .ref b2, .ref b3, .int (nI bg), .int (nI tl), .int (nI sp), .int (nI th), .ref b4, .ref b5, .ref b6, .ref b7, .ref b8, .ref b9, .int (nI isf)])), (b1, .inl (cL, 36, .inl (nA ba))), (b2, .inl (cL, 36, .inl (nA vi))), (b3, .inl (cI, 36, .inl (nA to))), (b4, .inl (cI, 6, .inl (mA rw))), (b5, .inl (cI, 6, .inl (mA li))), (b6, .inl (cI, 36, .inl (nA gi))), (b7, .inl (cI, 36, .inl (nA fl))), (b8, .inl (cI, 36, .inl (nA fo))), (b9, .inl (cI, 36, .inl (nA my)))]) := by
  refine en_of (cc := b_MD_nextCell) (Qc := qI D [(cI, .int), (cL, .boolean)] (fun r u => r = nI (mNx w (w * h) p0 ba vi fr (tk + 1)) - 1 ∧ u = [(a, .inr (5, [.int (nI w), .int (nI h), .int (nI (w * h)), .int (nI g), .ref b1, .ref b2, .ref b3, .int (nI bg), .int (nI tl), .int (nI sp), .int (nI th), .ref b4, .ref b5, .ref b6, .ref b7, .ref b8, .ref b9, .int (nI isf)])), (b1, .inl (cL, 36, .inl (nA ba))), (b2, .inl (cL, 36, .inl (nA vi))), (b3, .inl (cI, 36, .inl (nA to))), (b4, .inl (cI, 6, .inl (mA rw))), (b5, .inl (cI, 6, .inl (mA li))), (b6, .inl (cI, 36, .inl (nA gi))), (b7, .inl (cI, 36, .inl (nA fl))), (b8, .inl (cI, 36, .inl (nA fo))), (b9, .inl (cI, 36, .inl (nA my)))])) (by decide) rfl (Nat.le_of_ble_eq_true rfl) ?_
  intro p e s m below meth c A E hnm hP hD hS ls hl
  have hl : lv_has ls 10 [(0, .ref a), (1, .int (nI p0)), (2, .int (nI fr)), (3, .int (nI tk))] := hl
  obtain ⟨hx, hb, hml, hown, hts, hr, hlk, hA, hK, hN⟩ := id E
  have ho : ∀ q ∈ Om, q.before _ s = true := fun q h => hts q (List.mem_cons_of_mem _ h)
  refine lv_iload_n hx hb d_MD_nextCell_0 rfl (lv_at hl 3 rfl) ?_
  refine lv_iconst (v := (-1)) hx hb d_MD_nextCell_1 (by decide) ?_
  refine lv_icmp_ne (tgt := 9) hx hb d_MD_nextCell_2 (by decide) (fun _ => ?_) (fun h9 => absurd h9 (nI_m1 (by omega)))
  refine lv_aload_n hx hb d_MD_nextCell_9 rfl (lv_at hl 0 rfl) ?_
  refine lv_iload_n hx hb d_MD_nextCell_10 rfl (lv_at hl 1 rfl) ?_
  refine lv_iload_n hx hb d_MD_nextCell_11 rfl (lv_at hl 3 rfl) ?_
  have hwle := mWo_le w (w * h) p0 ba vi tk
  refine af_i (wc := [(a, .inr (5, [.int (nI w), .int (nI h), .int (nI (w * h)), .int (nI g), .ref b1, .ref b2, .ref b3, .int (nI bg), .int (nI tl), .int (nI sp), .int (nI th), .ref b4, .ref b5, .ref b6, .ref b7, .ref b8, .ref b9, .int (nI isf)])), (b1, .inl (cL, 36, .inl (nA ba))), (b2, .inl (cL, 36, .inl (nA vi))), (b3, .inl (cI, 36, .inl (nA to))), (b4, .inl (cI, 6, .inl (mA rw))), (b5, .inl (cI, 6, .inl (mA li))), (b6, .inl (cI, 36, .inl (nA gi))), (b7, .inl (cI, 36, .inl (nA fl))), (b8, .inl (cI, 36, .inl (nA fo))), (b9, .inl (cI, 36, .inl (nA my)))]) (wr := []) (rest := []) [0, 1, 2, 3, 4, 5, 6, 7, 8, 9] [] hP hD hS hA rfl rfl (by decide) (by decide) (rn_V E (As := [.int (nI p0), .int (nI tk)]) m_MD_waysOn km_MD_76 (c_MD_waysOn l D cI cL a b1 b2 b3 b4 b5 b6 b7 b8 b9 w h g bg tl sp th isf ba vi to rw li gi fl fo my p0 tk hw1 hw6 hh6 (by omega) (by omega) hba hvi _) ⟨rfl, rfl, by dsimp only; omega, by dsimp only; omega⟩ (hP.sub [0, 1, 2, 3, 4, 5, 6, 7, 8, 9] rfl) (hD.sub [0, 1, 2, 3, 4, 5, 6, 7, 8, 9] (by decide) rfl) (q0 := 0) (ci := 5) rfl rfl rfl hl.1 rfl (Nat.le_of_ble_eq_true rfl) ⟨Nat.le_of_ble_eq_true rfl, Nat.le_of_ble_eq_true rfl⟩ d_MD_nextCell_12) (fun r_2 u_1 H locs hw hP hD hS => ?_)
  obtain ⟨rfl, rfl⟩ := hw
  have hP : va_P D classes [(a, .inr (5, [.int (nI w), .int (nI h), .int (nI (w * h)), .int (nI g), .ref b1, .ref b2, .ref b3, .int (nI bg), .int (nI tl), .int (nI sp), .int (nI th), .ref b4, .ref b5, .ref b6, .ref b7, .ref b8, .ref b9, .int (nI isf)])), (b1, .inl (cL, 36, .inl (nA ba))), (b2, .inl (cL, 36, .inl (nA vi))), (b3, .inl (cI, 36, .inl (nA to))), (b4, .inl (cI, 6, .inl (mA rw))), (b5, .inl (cI, 6, .inl (mA li))), (b6, .inl (cI, 36, .inl (nA gi))), (b7, .inl (cI, 36, .inl (nA fl))), (b8, .inl (cI, 36, .inl (nA fo))), (b9, .inl (cI, 36, .inl (nA my)))] H := hP
  have hD : va_D A [(a, .inr (5, [.int (nI w), .int (nI h), .int (nI (w * h)), .int (nI g), .ref b1, .ref b2, .ref b3, .int (nI bg), .int (nI tl), .int (nI sp), .int (nI th), .ref b4, .ref b5, .ref b6, .ref b7, .ref b8, .ref b9, .int (nI isf)])), (b1, .inl (cL, 36, .inl (nA ba))), (b2, .inl (cL, 36, .inl (nA vi))), (b3, .inl (cI, 36, .inl (nA to))), (b4, .inl (cI, 6, .inl (mA rw))), (b5, .inl (cI, 6, .inl (mA li))), (b6, .inl (cI, 36, .inl (nA gi))), (b7, .inl (cI, 36, .inl (nA fl))), (b8, .inl (cI, 36, .inl (nA fo))), (b9, .inl (cI, 36, .inl (nA my)))] := hD
  refine lv_istore (lv' := [(4, .int (nI (mWo w (w * h) p0 ba vi tk))), (0, .ref a), (1, .int (nI p0)), (2, .int (nI fr)), (3, .int (nI tk))]) hx hb d_MD_nextCell_15 hl (by decide) rfl (fun ls hl => ?_)
  refine lv_iconst (v := (-1)) hx hb d_MD_nextCell_17 (by decide) ?_
  refine lv_istore (lv' := [(5, .int (-1)), (4, .int (nI (mWo w (w * h) p0 ba vi tk))), (0, .ref a), (1, .int (nI p0)), (2, .int (nI fr)), (3, .int (nI tk))]) hx hb d_MD_nextCell_18 hl (by decide) rfl (fun ls hl => ?_)
  refine lv_bipush (v := nI 99) hx hb d_MD_nextCell_20 (by decide) ?_
  refine lv_istore (lv' := [(6, .int (nI 99)), (5, .int (-1)), (4, .int (nI (mWo w (w * h) p0 ba vi tk))), (0, .ref a), (1, .int (nI p0)), (2, .int (nI fr)), (3, .int (nI tk))]) hx hb d_MD_nextCell_22 hl (by decide) rfl (fun ls hl => ?_)
  refine lv_iconst (v := nI 0) hx hb d_MD_nextCell_24 (by decide) ?_
  refine lv_istore (lv' := [(7, .int (nI 0)), (6, .int (nI 99)), (5, .int (-1)), (4, .int (nI (mWo w (w * h) p0 ba vi tk))), (0, .ref a), (1, .int (nI p0)), (2, .int (nI fr)), (3, .int (nI tk))]) hx hb d_MD_nextCell_25 hl (by decide) rfl (fun ls hl => ?_)
  have hl2 : lv_has ls 10 [(0, .ref a), (1, .int (nI p0)), (2, .int (nI fr)), (3, .int (nI tk)), (4, .int (nI (mWo w (w * h) p0 ba vi tk))), (5, .int (-1)), (6, .int (nI 99)), (7, .int (nI 0))] := lv_sub hl [4, 5, 6, 7, 3, 2, 1, 0] rfl
  have hl2 : lv_has ls 10 [(0, .ref a), (1, .int (nI p0)), (2, .int (nI fr)), (3, .int (nI tk)), (4, .int (nI (mWo w (w * h) p0 ba vi tk))), (5, .int (nI 0 - 1)), (6, .int (nI 99)), (7, .int (nI 0))] := by rw [show nI 0 - 1 = (-1 : Int32) by decide]; exact hl2
  exact L_MD_next_tried a b1 b2 b3 b4 b5 b6 b7 b8 b9 w h g bg tl sp th isf ba vi to rw li gi fl fo my p0 fr tk (mWo w (w * h) p0 ba vi tk) htk hwle hw1 hw6 hh6 hp hfr hba hvi E (w * h + 1) 0 0 99 (by omega) (by omega) (by omega) ⟨by unfold mNx; simp, rfl⟩ _ _ hP hD hS ls hl2
