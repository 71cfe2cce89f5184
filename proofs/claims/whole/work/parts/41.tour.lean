/-! TourSearch: its small methods -/
def iP (x : Int32) : Nat := if x < 0 ∨ ¬ x < 3 then 0 else 1
theorem iP_in {k : Nat} (h : k < 3) : iP (nI k) = 1 := by
  unfold iP
  rw [if_neg]
  rintro (q | q)
  · exact nI_pos (by omega) q
  · exact q ((nI_ltI (b := 3) (by omega) (by decide)).mpr h)
/-- does a piece go so far (the square of the distance) -/
def tGo (p d : Nat) : Nat := if p = 0 then (if d = 5 then 1 else 0) else if d = 1 then 1 else if p = 1 ∧ d = 2 then 1 else 0
theorem tGo_1 (p d : Nat) : tGo p d ≤ 1 := by
  unfold tGo
  split
  · split <;> omega
  · split
    · omega
    · split <;> omega
set_option maxHeartbeats 1000000 in
set_option maxRecDepth 100000 in
theorem c_TF_isPiece (l : Launch) (D : va_G) (cI cL : ClassId) (x : Int32) : CI l y_TF_isPiece (.code y_TF_isPiece b_TF_isPiece 1 (some .boolean) :: Om) { frames := 0, cells := 0, slots := 0, locals := 0 } D [] [(cI, .int), (cL, .long)] [.int x] (fun r u => r = nI (iP x) ∧ u = []) := by
  refine en_of (cc := b_TF_isPiece) (Qc := qI D [(cI, .int), (cL, .long)] (fun r u => r = nI (iP x) ∧ u = [])) (by decide) rfl (Nat.le_of_ble_eq_true rfl) ?_
  intro p e s m below meth c A E hnm hP hD hS ls hl
  have hl : lv_has ls 1 [(0, .int x)] := hl
  obtain ⟨hx, hb, hml, hown, hts, hr, hlk, hA, hK, hN⟩ := id E
  have ho : ∀ q ∈ Om, q.before _ s = true := fun q h => hts q (List.mem_cons_of_mem _ h)
  refine lv_iload_n hx hb d_TF_isPiece_0 rfl (lv_at hl 0 rfl) ?_
  refine lv_if_lt (tgt := 13) hx hb d_TF_isPiece_1 (by decide) (fun h_1 => ?_) (fun h_1 => ?_)
  · refine lv_iconst (v := nI 0) hx hb d_TF_isPiece_13 (by decide) ?_
    exact rt_z E hP hD hS (by decide) ⟨by unfold iP; rw [show (3 : Int32) = nI 3 from rfl]; simp [h_1], rfl⟩ d_TF_isPiece_14
  · refine lv_iload_n hx hb d_TF_isPiece_4 rfl (lv_at hl 0 rfl) ?_
    refine lv_iconst (v := nI 3) hx hb d_TF_isPiece_5 (by decide) ?_
    refine lv_icmp_ge (tgt := 13) hx hb d_TF_isPiece_6 (by decide) (fun h_2 => ?_) (fun h_2 => ?_)
    · refine lv_iconst (v := nI 0) hx hb d_TF_isPiece_13 (by decide) ?_
      exact rt_z E hP hD hS (by decide) ⟨by unfold iP; rw [show (3 : Int32) = nI 3 from rfl]; simp [h_1, h_2], rfl⟩ d_TF_isPiece_14
    · refine lv_iconst (v := nI 1) hx hb d_TF_isPiece_9 (by decide) ?_
      refine lv_goto (tgt := 14) hx hb d_TF_isPiece_10 (by decide) ?_
      exact rt_z E hP hD hS (by decide) ⟨by unfold iP; rw [show (3 : Int32) = nI 3 from rfl]; simp [h_1, h_2], rfl⟩ d_TF_isPiece_14
theorem c_TF_isIn (l : Launch) (D : va_G) (cI cL : ClassId) (k : Nat) (hk : k < 3) : CI l y_TF_isPiece (.code y_TF_isPiece b_TF_isPiece 1 (some .boolean) :: Om) { frames := 0, cells := 0, slots := 0, locals := 0 } D [] [(cI, .int), (cL, .long)] [.int (nI k)] (fun r u => r = nI 1 ∧ u = []) := by
  have := c_TF_isPiece l D cI cL (nI k)
  rw [iP_in hk] at this
  exact this
set_option maxHeartbeats 1000000 in
set_option maxRecDepth 100000 in
theorem c_TS_goes (l : Launch) (D : va_G) (cI cL : ClassId) (p0 d : Nat) (hp : p0 < 3) (hd : d < 1000) : CI l y_TS_goes (.code y_TS_goes b_TS_goes 2 (some .boolean) :: Om) { frames := 0, cells := 0, slots := 0, locals := 0 } D [] [(cI, .int), (cL, .long)] [.int (nI p0), .int (nI d)] (fun r u => r = nI (tGo p0 d) ∧ u = []) := by
  refine en_of (cc := b_TS_goes) (Qc := qI D [(cI, .int), (cL, .long)] (fun r u => r = nI (tGo p0 d) ∧ u = [])) (by decide) rfl (Nat.le_of_ble_eq_true rfl) ?_
  intro p e s m below meth c A E hnm hP hD hS ls hl
  have hl : lv_has ls 2 [(0, .int (nI p0)), (1, .int (nI d))] := hl
  obtain ⟨hx, hb, hml, hown, hts, hr, hlk, hA, hK, hN⟩ := id E
  have ho : ∀ q ∈ Om, q.before _ s = true := fun q h => hts q (List.mem_cons_of_mem _ h)
  refine lv_iload_n hx hb d_TS_goes_0 rfl (lv_at hl 0 rfl) ?_
  refine nr_if_ne (tgt := 15) hx hb d_TS_goes_1 (by decide) (by omega) (fun h_1 => ?_) (fun h_1 => ?_)
  · refine lv_iload_n hx hb d_TS_goes_15 rfl (lv_at hl 1 rfl) ?_
    refine lv_iconst (v := nI 1) hx hb d_TS_goes_16 (by decide) ?_
    refine nr_icmp_eq (tgt := 30) hx hb d_TS_goes_17 (by decide) (by omega) (by omega) (fun h_2 => ?_) (fun h_2 => ?_)
    · refine lv_iconst (v := nI 1) hx hb d_TS_goes_30 (by decide) ?_
      refine lv_goto (tgt := 35) hx hb d_TS_goes_31 (by decide) ?_
      exact rt_z E hP hD hS (by decide) ⟨by congr 1; unfold tGo; (repeat' split) <;> omega, rfl⟩ d_TS_goes_35
    · refine lv_iload_n hx hb d_TS_goes_20 rfl (lv_at hl 0 rfl) ?_
      refine lv_iconst (v := nI 1) hx hb d_TS_goes_21 (by decide) ?_
      refine nr_icmp_ne (tgt := 34) hx hb d_TS_goes_22 (by decide) (by omega) (by omega) (fun h_3 => ?_) (fun h_3 => ?_)
      · refine lv_iconst (v := nI 0) hx hb d_TS_goes_34 (by decide) ?_
        exact rt_z E hP hD hS (by decide) ⟨by congr 1; unfold tGo; (repeat' split) <;> omega, rfl⟩ d_TS_goes_35
      · refine lv_iload_n hx hb d_TS_goes_25 rfl (lv_at hl 1 rfl) ?_
        refine lv_iconst (v := nI 2) hx hb d_TS_goes_26 (by decide) ?_
        refine nr_icmp_ne (tgt := 34) hx hb d_TS_goes_27 (by decide) (by omega) (by omega) (fun h_4 => ?_) (fun h_4 => ?_)
        · refine lv_iconst (v := nI 0) hx hb d_TS_goes_34 (by decide) ?_
          exact rt_z E hP hD hS (by decide) ⟨by congr 1; unfold tGo; (repeat' split) <;> omega, rfl⟩ d_TS_goes_35
        · refine lv_iconst (v := nI 1) hx hb d_TS_goes_30 (by decide) ?_
          refine lv_goto (tgt := 35) hx hb d_TS_goes_31 (by decide) ?_
          exact rt_z E hP hD hS (by decide) ⟨by congr 1; unfold tGo; (repeat' split) <;> omega, rfl⟩ d_TS_goes_35
  · refine lv_iload_n hx hb d_TS_goes_4 rfl (lv_at hl 1 rfl) ?_
    refine lv_iconst (v := nI 5) hx hb d_TS_goes_5 (by decide) ?_
    refine nr_icmp_ne (tgt := 13) hx hb d_TS_goes_6 (by decide) (by omega) (by omega) (fun h_5 => ?_) (fun h_5 => ?_)
    · refine lv_iconst (v := nI 0) hx hb d_TS_goes_13 (by decide) ?_
      exact rt_z E hP hD hS (by decide) ⟨by congr 1; unfold tGo; (repeat' split) <;> omega, rfl⟩ d_TS_goes_14
    · refine lv_iconst (v := nI 1) hx hb d_TS_goes_9 (by decide) ?_
      refine lv_goto (tgt := 14) hx hb d_TS_goes_10 (by decide) ?_
      exact rt_z E hP hD hS (by decide) ⟨by congr 1; unfold tGo; (repeat' split) <;> omega, rfl⟩ d_TS_goes_14
set_option maxHeartbeats 1000000 in
set_option maxRecDepth 100000 in
theorem c_TS_reach (l : Launch) (D : va_G) (cI cL : ClassId) (a b1 b2 b3 b4 b5 pi op ln md fd : Nat) (re pa wo wc wt : Nat → Nat) (p0 k : Nat) (hp : p0 < 3) (hk : k < 36) : CL l y_TS_reach (.code y_TS_reach b_TS_reach 3 (some .long) :: Om) { frames := 1, cells := 0, slots := 0, locals := 20 } D [(a, .inr (3, [.ref b1, .ref b2, .ref b3, .ref b4, .ref b5, .int (nI pi), .long (lN op), .int (nI ln), .int (nI md), .int (nI fd)])), (b1, .inl (cL, 108, .inr (.inl (lA re)))), (b2, .inl (cI, 36, .inl (nA pa))), (b3, .inl (cI, 288, .inl (nA wo))), (b4, .inl (cI, 36, .inl (nA wc))), (b5, .inl (cI, 36, .inl (nA wt)))] [(cI, .int), (cL, .long)] [.ref a, .int (nI p0), .int (nI k)] (fun r u => r = lN (re (p0 * 36 + k)) ∧ u = [(a, .inr (3, [.ref b1, .ref b2, .ref b3, .ref b4, .ref b5, .int (nI pi), .long (lN op), .int (nI ln), .int (nI md), .int (nI fd)])), (b1, .inl (cL, 108, .inr (.inl (lA re)))), (b2, .inl (cI, 36, .inl (nA pa))), (b3, .inl (cI, 288, .inl (nA wo))), (b4, .inl (cI, 36, .inl (nA wc))), (b5, .inl (cI, 36, .inl (nA wt)))]) := by
  refine en_of (cc := b_TS_reach) (Qc := qL D [(cI, .int), (cL, .long)] (fun r u => r = lN (re (p0 * 36 + k)) ∧ u = [(a, .inr (3, [.ref b1, .ref b2, .ref b3, .ref b4, .ref b5, .int (nI pi), .long (lN op), .int (nI ln), .int (nI md), .int (nI fd)])), (b1, .inl (cL, 108, .inr (.inl (lA re)))), (b2, .inl (cI, 36, .inl (nA pa))), (b3, .inl (cI, 288, .inl (nA wo))), (b4, .inl (cI, 36, .inl (nA wc))), (b5, .inl (cI, 36, .inl (nA wt)))])) (by decide) rfl (Nat.le_of_ble_eq_true rfl) ?_
  intro p e s m below meth c A E hnm hP hD hS ls hl
  have hl : lv_has ls 3 [(0, .ref a), (1, .int (nI p0)), (2, .int (nI k))] := hl
  obtain ⟨hx, hb, hml, hown, hts, hr, hlk, hA, hK, hN⟩ := id E
  have ho : ∀ q ∈ Om, q.before _ s = true := fun q h => hts q (List.mem_cons_of_mem _ h)
  refine lv_iload_n hx hb d_TS_reach_0 rfl (lv_at hl 1 rfl) ?_
  refine af_i (wc := []) (wr := [(a, .inr (3, [.ref b1, .ref b2, .ref b3, .ref b4, .ref b5, .int (nI pi), .long (lN op), .int (nI ln), .int (nI md), .int (nI fd)])), (b1, .inl (cL, 108, .inr (.inl (lA re)))), (b2, .inl (cI, 36, .inl (nA pa))), (b3, .inl (cI, 288, .inl (nA wo))), (b4, .inl (cI, 36, .inl (nA wc))), (b5, .inl (cI, 36, .inl (nA wt)))]) (rest := []) [] [0, 1, 2, 3, 4, 5] hP hD hS hA rfl rfl (by decide) (by decide) (rn_SN E (As := [.int (nI p0)]) m_TF_isPiece hN (c_TF_isIn l D cI cL p0 (by omega) _) ⟨rfl, rfl, by dsimp only; omega, by dsimp only; omega⟩ (hP.sub [] rfl) (hD.sub [] (by decide) rfl) rfl hl.1 rfl (Nat.le_of_ble_eq_true rfl) ⟨Nat.le_of_ble_eq_true rfl, Nat.le_of_ble_eq_true rfl⟩ d_TS_reach_1) (fun r_2 u_1 H locs hw hP hD hS => ?_)
  obtain ⟨rfl, rfl⟩ := hw
  have hP : va_P D classes [(a, .inr (3, [.ref b1, .ref b2, .ref b3, .ref b4, .ref b5, .int (nI pi), .long (lN op), .int (nI ln), .int (nI md), .int (nI fd)])), (b1, .inl (cL, 108, .inr (.inl (lA re)))), (b2, .inl (cI, 36, .inl (nA pa))), (b3, .inl (cI, 288, .inl (nA wo))), (b4, .inl (cI, 36, .inl (nA wc))), (b5, .inl (cI, 36, .inl (nA wt)))] H := hP
  have hD : va_D A [(a, .inr (3, [.ref b1, .ref b2, .ref b3, .ref b4, .ref b5, .int (nI pi), .long (lN op), .int (nI ln), .int (nI md), .int (nI fd)])), (b1, .inl (cL, 108, .inr (.inl (lA re)))), (b2, .inl (cI, 36, .inl (nA pa))), (b3, .inl (cI, 288, .inl (nA wo))), (b4, .inl (cI, 36, .inl (nA wc))), (b5, .inl (cI, 36, .inl (nA wt)))] := hD
  refine nr_if_eq (tgt := 31) hx hb d_TS_reach_4 (by decide) (by decide) (fun h9 => absurd h9 (by decide)) (fun _ => ?_)
  refine lv_iload_n hx hb d_TS_reach_7 rfl (lv_at hl 2 rfl) ?_
  refine nr_if_lt (tgt := 31) hx hb d_TS_reach_8 (by decide) (by omega) ?_
  refine lv_iload_n hx hb d_TS_reach_11 rfl (lv_at hl 2 rfl) ?_
  refine lv_bipush (v := nI 36) hx hb d_TS_reach_12 (by decide) ?_
  refine nr_icmp_ge (tgt := 31) hx hb d_TS_reach_14 (by decide) (by omega) (by omega) (fun h9 => absurd h9 (by omega)) (fun _ => ?_)
  refine lv_aload_n hx hb d_TS_reach_17 rfl (lv_at hl 0 rfl) ?_
  refine va_get (D := D) (ci := 3) (v := .ref b1) (C := R_TS) (T := F_TS) (N := 10) hx hb ho j_TS hown hK hP 0 rfl rfl 0 (by decide) (ho _ kf_TS_28) (fun _ h9 => h9) rfl d_TS_reach_18 ?_
  refine lv_iload_n hx hb d_TS_reach_21 rfl (lv_at hl 1 rfl) ?_
  refine lv_bipush (v := nI 36) hx hb d_TS_reach_22 (by decide) ?_
  refine nr_imul hx hb d_TS_reach_24 ?_
  refine lv_iload_n hx hb d_TS_reach_25 rfl (lv_at hl 2 rfl) ?_
  refine nr_iadd hx hb d_TS_reach_26 ?_
  refine nr_laldN hx hb hK hP 1 1 rfl rfl (i := (p0 * 36) + k) (by omega) (by decide) d_TS_reach_27 ?_
  refine lv_goto (tgt := 32) hx hb d_TS_reach_28 (by decide) ?_
  exact rt_l E hP hD hS ⟨rfl, rfl⟩ d_TS_reach_32
set_option maxHeartbeats 1000000 in
set_option maxRecDepth 100000 in
theorem c_TS_forget (l : Launch) (D : va_G) (cI cL : ClassId) (a b1 b2 b3 b4 b5 pi op ln md fd : Nat) (re pa wo wc wt : Nat → Nat) : CV l y_TS_forget (.code y_TS_forget b_TS_forget 1 none :: Om) { frames := 0, cells := 0, slots := 0, locals := 0 } D [(a, .inr (3, [.ref b1, .ref b2, .ref b3, .ref b4, .ref b5, .int (nI pi), .long (lN op), .int (nI ln), .int (nI md), .int (nI fd)])), (b1, .inl (cL, 108, .inr (.inl (lA re)))), (b2, .inl (cI, 36, .inl (nA pa))), (b3, .inl (cI, 288, .inl (nA wo))), (b4, .inl (cI, 36, .inl (nA wc))), (b5, .inl (cI, 36, .inl (nA wt)))] [(cI, .int), (cL, .long)] [.ref a] (fun u => u = [(a, .inr (3, [.ref b1, .ref b2, .ref b3, .ref b4, .ref b5, .int (nI pi), .long (lN op), .int (nI ln), .int (nI md), .int (nI 0)])), (b1, .inl (cL, 108, .inr (.inl (lA re)))), (b2, .inl (cI, 36, .inl (nA pa))), (b3, .inl (cI, 288, .inl (nA wo))), (b4, .inl (cI, 36, .inl (nA wc))), (b5, .inl (cI, 36, .inl (nA wt)))]) := by
  refine en_of (cc := b_TS_forget) (Qc := qV D [(cI, .int), (cL, .long)] (fun u => u = [(a, .inr (3, [.ref b1, .ref b2, .ref b3, .ref b4, .ref b5, .int (nI pi), .long (lN op), .int (nI ln), .int (nI md), .int (nI 0)])), (b1, .inl (cL, 108, .inr (.inl (lA re)))), (b2, .inl (cI, 36, .inl (nA pa))), (b3, .inl (cI, 288, .inl (nA wo))), (b4, .inl (cI, 36, .inl (nA wc))), (b5, .inl (cI, 36, .inl (nA wt)))])) (by decide) rfl (Nat.le_of_ble_eq_true rfl) ?_
  intro p e s m below meth c A E hnm hP hD hS ls hl
  have hl : lv_has ls 1 [(0, .ref a)] := hl
  obtain ⟨hx, hb, hml, hown, hts, hr, hlk, hA, hK, hN⟩ := id E
  have ho : ∀ q ∈ Om, q.before _ s = true := fun q h => hts q (List.mem_cons_of_mem _ h)
  refine lv_aload_n hx hb d_TS_forget_0 rfl (lv_at hl 0 rfl) ?_
  refine lv_iconst (v := nI 0) hx hb d_TS_forget_1 (by decide) ?_
  refine va_put (D := D) (ci := 3) (v := .int (nI 0)) (ty := .boolean) (C := R_TS) (T := F_TS) (N := 10) hx hb ho j_TS t_TS t_TS_ok n_TS hown hK hP hD hS 0 rfl rfl 9 (by decide) (ho _ kf_TS_50) (fun _ h9 => h9) rfl (by decide +kernel) (by first | rfl | decide | assumption) (by first | rfl | decide | assumption) (Nat.le_of_ble_eq_true rfl) d_TS_forget_2 (fun H locs hP hD hS => ?_)
  have hP : va_P D classes [(a, .inr (3, [.ref b1, .ref b2, .ref b3, .ref b4, .ref b5, .int (nI pi), .long (lN op), .int (nI ln), .int (nI md), .int (nI 0)])), (b1, .inl (cL, 108, .inr (.inl (lA re)))), (b2, .inl (cI, 36, .inl (nA pa))), (b3, .inl (cI, 288, .inl (nA wo))), (b4, .inl (cI, 36, .inl (nA wc))), (b5, .inl (cI, 36, .inl (nA wt)))] H := hP
  have hD : va_D A [(a, .inr (3, [.ref b1, .ref b2, .ref b3, .ref b4, .ref b5, .int (nI pi), .long (lN op), .int (nI ln), .int (nI md), .int (nI 0)])), (b1, .inl (cL, 108, .inr (.inl (lA re)))), (b2, .inl (cI, 36, .inl (nA pa))), (b3, .inl (cI, 288, .inl (nA wo))), (b4, .inl (cI, 36, .inl (nA wc))), (b5, .inl (cI, 36, .inl (nA wt)))] := hD
  exact rt_v E hP hD hS rfl d_TS_forget_5
set_option maxHeartbeats 1000000 in
set_option maxRecDepth 100000 in
theorem c_TS_giveUp (l : Launch) (D : va_G) (cI cL : ClassId) (a b1 b2 b3 b4 b5 pi op ln md fd : Nat) (re pa wo wc wt : Nat → Nat) : CV l y_TS_giveUp (.code y_TS_giveUp b_TS_giveUp 1 none :: Om) { frames := 0, cells := 0, slots := 0, locals := 0 } D [(a, .inr (3, [.ref b1, .ref b2, .ref b3, .ref b4, .ref b5, .int (nI pi), .long (lN op), .int (nI ln), .int (nI md), .int (nI fd)])), (b1, .inl (cL, 108, .inr (.inl (lA re)))), (b2, .inl (cI, 36, .inl (nA pa))), (b3, .inl (cI, 288, .inl (nA wo))), (b4, .inl (cI, 36, .inl (nA wc))), (b5, .inl (cI, 36, .inl (nA wt)))] [(cI, .int), (cL, .long)] [.ref a] (fun u => u = [(a, .inr (3, [.ref b1, .ref b2, .ref b3, .ref b4, .ref b5, .int (nI pi), .long (lN op), .int (nI ln), .int (nI 0), .int (nI 0)])), (b1, .inl (cL, 108, .inr (.inl (lA re)))), (b2, .inl (cI, 36, .inl (nA pa))), (b3, .inl (cI, 288, .inl (nA wo))), (b4, .inl (cI, 36, .inl (nA wc))), (b5, .inl (cI, 36, .inl (nA wt)))]) := by
  refine en_of (cc := b_TS_giveUp) (Qc := qV D [(cI, .int), (cL, .long)] (fun u => u = [(a, .inr (3, [.ref b1, .ref b2, .ref b3, .ref b4, .ref b5, .int (nI pi), .long (lN op), .int (nI ln), .int (nI 0), .int (nI 0)])), (b1, .inl (cL, 108, .inr (.inl (lA re)))), (b2, .inl (cI, 36, .inl (nA pa))), (b3, .inl (cI, 288, .inl (nA wo))), (b4, .inl (cI, 36, .inl (nA wc))), (b5, .inl (cI, 36, .inl (nA wt)))])) (by decide) rfl (Nat.le_of_ble_eq_true rfl) ?_
  intro p e s m below meth c A E hnm hP hD hS ls hl
  have hl : lv_has ls 1 [(0, .ref a)] := hl
  obtain ⟨hx, hb, hml, hown, hts, hr, hlk, hA, hK, hN⟩ := id E
  have ho : ∀ q ∈ Om, q.before _ s = true := fun q h => hts q (List.mem_cons_of_mem _ h)
  refine lv_aload_n hx hb d_TS_giveUp_0 rfl (lv_at hl 0 rfl) ?_
  refine lv_iconst (v := nI 0) hx hb d_TS_giveUp_1 (by decide) ?_
  refine va_put (D := D) (ci := 3) (v := .int (nI 0)) (ty := .boolean) (C := R_TS) (T := F_TS) (N := 10) hx hb ho j_TS t_TS t_TS_ok n_TS hown hK hP hD hS 0 rfl rfl 9 (by decide) (ho _ kf_TS_50) (fun _ h9 => h9) rfl (by decide +kernel) (by first | rfl | decide | assumption) (by first | rfl | decide | assumption) (Nat.le_of_ble_eq_true rfl) d_TS_giveUp_2 (fun H locs hP hD hS => ?_)
  have hP : va_P D classes [(a, .inr (3, [.ref b1, .ref b2, .ref b3, .ref b4, .ref b5, .int (nI pi), .long (lN op), .int (nI ln), .int (nI md), .int (nI 0)])), (b1, .inl (cL, 108, .inr (.inl (lA re)))), (b2, .inl (cI, 36, .inl (nA pa))), (b3, .inl (cI, 288, .inl (nA wo))), (b4, .inl (cI, 36, .inl (nA wc))), (b5, .inl (cI, 36, .inl (nA wt)))] H := hP
  have hD : va_D A [(a, .inr (3, [.ref b1, .ref b2, .ref b3, .ref b4, .ref b5, .int (nI pi), .long (lN op), .int (nI ln), .int (nI md), .int (nI 0)])), (b1, .inl (cL, 108, .inr (.inl (lA re)))), (b2, .inl (cI, 36, .inl (nA pa))), (b3, .inl (cI, 288, .inl (nA wo))), (b4, .inl (cI, 36, .inl (nA wc))), (b5, .inl (cI, 36, .inl (nA wt)))] := hD
  refine lv_aload_n hx hb d_TS_giveUp_5 rfl (lv_at hl 0 rfl) ?_
  refine lv_iconst (v := nI 0) hx hb d_TS_giveUp_6 (by decide) ?_
  refine va_put (D := D) (ci := 3) (v := .int (nI 0)) (ty := .int) (C := R_TS) (T := F_TS) (N := 10) hx hb ho j_TS t_TS t_TS_ok n_TS hown hK hP hD hS 0 rfl rfl 8 (by decide) (ho _ kf_TS_54) (fun _ h9 => h9) rfl (by decide +kernel) rfl rfl (Nat.le_of_ble_eq_true rfl) d_TS_giveUp_7 (fun H locs hP hD hS => ?_)
  have hP : va_P D classes [(a, .inr (3, [.ref b1, .ref b2, .ref b3, .ref b4, .ref b5, .int (nI pi), .long (lN op), .int (nI ln), .int (nI 0), .int (nI 0)])), (b1, .inl (cL, 108, .inr (.inl (lA re)))), (b2, .inl (cI, 36, .inl (nA pa))), (b3, .inl (cI, 288, .inl (nA wo))), (b4, .inl (cI, 36, .inl (nA wc))), (b5, .inl (cI, 36, .inl (nA wt)))] H := hP
  have hD : va_D A [(a, .inr (3, [.ref b1, .ref b2, .ref b3, .ref b4, .ref b5, .int (nI pi), .long (lN op), .int (nI ln), .int (nI 0), .int (nI 0)])), (b1, .inl (cL, 108, .inr (.inl (lA re)))), (b2, .inl (cI, 36, .inl (nA pa))), (b3, .inl (cI, 288, .inl (nA wo))), (b4, .inl (cI, 36, .inl (nA wc))), (b5, .inl (cI, 36, .inl (nA wt)))] := hD
  exact rt_v E hP hD hS rfl d_TS_giveUp_10
set_option maxHeartbeats 1000000 in
set_option maxRecDepth 100000 in
theorem c_TS_stepsMade (l : Launch) (D : va_G) (cI cL : ClassId) (a b1 b2 b3 b4 b5 pi op ln md fd : Nat) (re pa wo wc wt : Nat → Nat) : CI l y_TS_stepsMade (.code y_TS_stepsMade b_TS_stepsMade 1 (some .int) :: Om) { frames := 0, cells := 0, slots := 0, locals := 0 } D [(a, .inr (3, [.ref b1, .ref b2, .ref b3, .ref b4, .ref b5, .int (nI pi), .long (lN op), .int (nI ln), .int (nI md), .int (nI fd)])), (b1, .inl (cL, 108, .inr (.inl (lA re)))), (b2, .inl (cI, 36, .inl (nA pa))), (b3, .inl (cI, 288, .inl (nA wo))), (b4, .inl (cI, 36, .inl (nA wc))), (b5, .inl (cI, 36, .inl (nA wt)))] [(cI, .int), (cL, .long)] [.ref a] (fun r u => r = nI md ∧ u = [(a, .inr (3, [.ref b1, .ref b2, .ref b3, .ref b4, .ref b5, .int (nI pi), .long (lN op), .int (nI ln), .int (nI md), .int (nI fd)])), (b1, .inl (cL, 108, .inr (.inl (lA re)))), (b2, .inl (cI, 36, .inl (nA pa))), (b3, .inl (cI, 288, .inl (nA wo))), (b4, .inl (cI, 36, .inl (nA wc))), (b5, .inl (cI, 36, .inl (nA wt)))]) := by
  refine en_of (cc := b_TS_stepsMade) (Qc := qI D [(cI, .int), (cL, .long)] (fun r u => r = nI md ∧ u = [(a, .inr (3, [.ref b1, .ref b2, .ref b3, .ref b4, .ref b5, .int (nI pi), .long (lN op), .int (nI ln), .int (nI md), .int (nI fd)])), (b1, .inl (cL, 108, .inr (.inl (lA re)))), (b2, .inl (cI, 36, .inl (nA pa))), (b3, .inl (cI, 288, .inl (nA wo))), (b4, .inl (cI, 36, .inl (nA wc))), (b5, .inl (cI, 36, .inl (nA wt)))])) (by decide) rfl (Nat.le_of_ble_eq_true rfl) ?_
  intro p e s m below meth c A E hnm hP hD hS ls hl
  have hl : lv_has ls 1 [(0, .ref a)] := hl
  obtain ⟨hx, hb, hml, hown, hts, hr, hlk, hA, hK, hN⟩ := id E
  have ho : ∀ q ∈ Om, q.before _ s = true := fun q h => hts q (List.mem_cons_of_mem _ h)
  refine lv_aload_n hx hb d_TS_stepsMade_0 rfl (lv_at hl 0 rfl) ?_
  refine va_get (D := D) (ci := 3) (v := .int (nI md)) (C := R_TS) (T := F_TS) (N := 10) hx hb ho j_TS hown hK hP 0 rfl rfl 8 (by decide) (ho _ kf_TS_54) (fun _ h9 => h9) rfl d_TS_stepsMade_1 ?_
  exact rt_i E hP hD hS ⟨rfl, rfl⟩ d_TS_stepsMade_4
def tAt (fd ln : Nat) (pa : Nat → Nat) (x : Int32) : Int32 := if fd = 0 ∨ x < 0 ∨ nI ln ≤ x then -1 else nI (pa x.toNatClampNeg)
set_option maxHeartbeats 1000000 in
set_option maxRecDepth 100000 in
theorem c_TS_cellOfTour (l : Launch) (D : va_G) (cI cL : ClassId) (a b1 b2 b3 b4 b5 pi op ln md fd : Nat) (re pa wo wc wt : Nat → Nat) (x : Int32) (hfd : fd ≤ 1) (hln : ln ≤ 36) : CI l y_TS_cellOfTour (.code y_TS_cellOfTour b_TS_cellOfTour 2 (some .int) :: Om) { frames := 0, cells := 0, slots := 0, locals := 0 } D [(a, .inr (3, [.ref b1, .ref b2, .ref b3, .ref b4, .ref b5, .int (nI pi), .long (lN op), .int (nI ln), .int (nI md), .int (nI fd)])), (b1, .inl (cL, 108, .inr (.inl (lA re)))), (b2, .inl (cI, 36, .inl (nA pa))), (b3, .inl (cI, 288, .inl (nA wo))), (b4, .inl (cI, 36, .inl (nA wc))), (b5, .inl (cI, 36, .inl (nA wt)))] [(cI, .int), (cL, .long)] [.ref a, .int x] (fun r u => r = tAt fd ln pa x ∧ u = [(a, .inr (3, [.ref b1, .ref b2, .ref b3, .ref b4, .ref b5, .int (nI pi), .long (lN op), .int (nI ln), .int (nI md), .int (nI fd)])), (b1, .inl (cL, 108, .inr (.inl (lA re)))), (b2, .inl (cI, 36, .inl (nA pa))), (b3, .inl (cI, 288, .inl (nA wo))), (b4, .inl (cI, 36, .inl (nA wc))), (b5, .inl (cI, 36, .inl (nA wt)))]) := by
  refine en_of (cc := b_TS_cellOfTour) (Qc := qI D [(cI, .int), (cL, .long)] (fun r u => r = tAt fd ln pa x ∧ u = [(a, .inr (3, [.ref b1, .ref b2, .ref b3, .ref b4, .ref b5, .int (nI pi), .long (lN op), .int (nI ln), .int (nI md), .int (nI fd)])), (b1, .inl (cL, 108, .inr (.inl (lA re)))), (b2, .inl (cI, 36, .inl (nA pa))), (b3, .inl (cI, 288, .inl (nA wo))), (b4, .inl (cI, 36, .inl (nA wc))), (b5, .inl (cI, 36, .inl (nA wt)))])) (by decide) rfl (Nat.le_of_ble_eq_true rfl) ?_
  intro p e s m below meth c A E hnm hP hD hS ls hl
  have hl : lv_has ls 2 [(0, .ref a), (1, .int x)] := hl
  obtain ⟨hx, hb, hml, hown, hts, hr, hlk, hA, hK, hN⟩ := id E
  have ho : ∀ q ∈ Om, q.before _ s = true := fun q h => hts q (List.mem_cons_of_mem _ h)
  refine lv_aload_n hx hb d_TS_cellOfTour_0 rfl (lv_at hl 0 rfl) ?_
  refine va_get (D := D) (ci := 3) (v := .int (nI fd)) (C := R_TS) (T := F_TS) (N := 10) hx hb ho j_TS hown hK hP 0 rfl rfl 9 (by decide) (ho _ kf_TS_50) (fun _ h9 => h9) rfl d_TS_cellOfTour_1 ?_
  refine nr_if_eq (tgt := 34) hx hb d_TS_cellOfTour_4 (by decide) (by omega) (fun h_1 => ?_) (fun h_1 => ?_)
  · refine lv_iconst (v := (-1)) hx hb d_TS_cellOfTour_34 (by decide) ?_
    exact rt_i E hP hD hS ⟨by unfold tAt; rw [if_pos (Or.inl (by omega))], rfl⟩ d_TS_cellOfTour_35
  · refine lv_iload_n hx hb d_TS_cellOfTour_7 rfl (lv_at hl 1 rfl) ?_
    refine lv_if_lt (tgt := 34) hx hb d_TS_cellOfTour_8 (by decide) (fun h_2 => ?_) (fun h_2 => ?_)
    · refine lv_iconst (v := (-1)) hx hb d_TS_cellOfTour_34 (by decide) ?_
      exact rt_i E hP hD hS ⟨by unfold tAt; rw [if_pos (by simp [h_2])], rfl⟩ d_TS_cellOfTour_35
    · refine lv_iload_n hx hb d_TS_cellOfTour_11 rfl (lv_at hl 1 rfl) ?_
      refine lv_aload_n hx hb d_TS_cellOfTour_12 rfl (lv_at hl 0 rfl) ?_
      refine va_get (D := D) (ci := 3) (v := .int (nI ln)) (C := R_TS) (T := F_TS) (N := 10) hx hb ho j_TS hown hK hP 0 rfl rfl 7 (by decide) (ho _ kf_TS_68) (fun _ h9 => h9) rfl d_TS_cellOfTour_13 ?_
      refine lv_icmp_ge (tgt := 34) hx hb d_TS_cellOfTour_16 (by decide) (fun h_3 => ?_) (fun h_3 => ?_)
      · refine lv_iconst (v := (-1)) hx hb d_TS_cellOfTour_34 (by decide) ?_
        exact rt_i E hP hD hS ⟨by unfold tAt; rw [if_pos (by simp [h_3])], rfl⟩ d_TS_cellOfTour_35
      · obtain ⟨j, hj, rfl⟩ : ∃ j : Nat, j < ln ∧ x = nI j := by
          rcases pk_ix x (n := ln) (by omega) with q | q | q
          · exact absurd q h_2
          · exact absurd q h_3
          · exact q
        refine lv_iload_n hx hb d_TS_cellOfTour_19 rfl (lv_at hl 1 rfl) ?_
        refine lv_bipush (v := nI 36) hx hb d_TS_cellOfTour_20 (by decide) ?_
        refine nr_icmp_ge (tgt := 34) hx hb d_TS_cellOfTour_22 (by decide) (by omega) (by omega) (fun h9 => absurd h9 (by omega)) (fun _ => ?_)
        refine lv_aload_n hx hb d_TS_cellOfTour_25 rfl (lv_at hl 0 rfl) ?_
        refine va_get (D := D) (ci := 3) (v := .ref b2) (C := R_TS) (T := F_TS) (N := 10) hx hb ho j_TS hown hK hP 0 rfl rfl 1 (by decide) (ho _ kf_TS_9) (fun _ h9 => h9) rfl d_TS_cellOfTour_26 ?_
        refine lv_iload_n hx hb d_TS_cellOfTour_29 rfl (lv_at hl 1 rfl) ?_
        refine nr_ialdN hx hb hK hP 2 0 rfl rfl (i := j) (by omega) (by decide) d_TS_cellOfTour_30 ?_
        refine lv_goto (tgt := 35) hx hb d_TS_cellOfTour_31 (by decide) ?_
        exact rt_i E hP hD hS ⟨by unfold tAt; rw [if_neg (by rintro (q | q | q); exact absurd q (by omega); exact absurd q h_2; exact absurd q h_3), nI_clamp (by omega)], rfl⟩ d_TS_cellOfTour_35
def iW (key fr : Nat) : Nat → Nat → (Nat → Nat) → Nat → Nat
  | 0, pl, wo => va_up wo pl key
  | m + 1, pl, wo => if fr < pl ∧ key < wo (pl - 1) then iW key fr m (pl - 1) (va_up wo pl (wo (pl - 1))) else va_up wo pl key
theorem iW_lt {key fr : Nat} (hk : key < 4000) : ∀ m pl wo, (∀ i, wo i < 4000) → ∀ i, iW key fr m pl wo i < 4000 := by
  intro m
  induction m with
  | zero => intro pl wo h; exact up_lt h hk
  | succ m ih =>
    intro pl wo h
    rw [iW]
    split
    · exact ih _ _ (up_lt h (h _))
    · exact up_lt h hk
set_option maxHeartbeats 1000000 in
set_option maxRecDepth 100000 in
theorem L_TS_insert {p : Program} {l : Launch} {e : Env} {s : State} {m : MethodId} {args : Array Value} {below : List Frame} {meth : Method} {c : Code} {A : Nat → Prop} {D : va_G} {cI cL : ClassId} {c0 : Cond} {post : va_W → Prop} (a b1 b2 b3 b4 b5 pi op ln md fd : Nat) (re pa wc wt : Nat → Nat) (key fr ct : Nat) (hkey : key < 4000) (E : En p s m args meth c b_TS_insertWayOn 5 (c0 :: Om) R_TS none A D [(cI, .int), (cL, .long)]) : ∀ (m1 : Nat) (pl : Nat) (wo : Nat → Nat), fr ≤ pl → pl < 288 → pl < fr + m1 → (∀ i, wo i < 4000) → post [(a, .inr (3, [.ref b1, .ref b2, .ref b3, .ref b4, .ref b5, .int (nI pi), .long (lN op), .int (nI ln), .int (nI md), .int (nI fd)])), (b1, .inl (cL, 108, .inr (.inl (lA re)))), (b2, .inl (cI, 36, .inl (nA pa))), (b3, .inl (cI, 288, .inl (nA (iW key fr m1 pl wo)))), (b4, .inl (cI, 36, .inl (nA wc))), (b5, .inl (cI, 36, .inl (nA wt)))] → ∀ (H : Heap) (locs : List Loc), va_P D classes [(a, .inr (3, [.ref b1, .ref b2, .ref b3, .ref b4, .ref b5, .int (nI pi), .long (lN op), .int (nI ln), .int (nI md), .int (nI fd)])), (b1, .inl (cL, 108, .inr (.inl (lA re)))), (b2, .inl (cI, 36, .inl (nA pa))), (b3, .inl (cI, 288, .inl (nA wo))), (b4, .inl (cI, 36, .inl (nA wc))), (b5, .inl (cI, 36, .inl (nA wt)))] H → va_D A [(a, .inr (3, [.ref b1, .ref b2, .ref b3, .ref b4, .ref b5, .int (nI pi), .long (lN op), .int (nI ln), .int (nI md), .int (nI fd)])), (b1, .inl (cL, 108, .inr (.inl (lA re)))), (b2, .inl (cI, 36, .inl (nA pa))), (b3, .inl (cI, 288, .inl (nA wo))), (b4, .inl (cI, 36, .inl (nA wc))), (b5, .inl (cI, 36, .inl (nA wt)))] → va_S A s.heap H locs → ∀ ls : Array Slot, lv_has ls 5 [(0, .ref a), (1, .int (nI key)), (2, .int (nI fr)), (3, .int (nI ct)), (4, .int (nI pl))] → W p l e { frames := 0, cells := 0, slots := 0, locals := 0 } s m args below meth c H locs 0 0 (MQ below (qV D [(cI, .int), (cL, .long)] post A) args s 0 0 A) (F0 m 25 ls []) := by
  obtain ⟨hx, hb, hml, hown, hts, hr, hlk, hA, hK, hN⟩ := id E
  have ho : ∀ q ∈ Om, q.before _ s = true := fun q h => hts q (List.mem_cons_of_mem _ h)
  intro m1
  induction m1 with
  | zero =>
    intro pl wo h0 h1 h2 hwo hq
    exact absurd h2 (by omega)
  | succ m1 ih =>
    intro pl wo h0 h1 h2 hwo hq H locs hP hD hS ls hl
    refine lv_iload hx hb d_TS_insertWayOn_25 (lv_at hl 4 rfl) ?_
    refine lv_iload_n hx hb d_TS_insertWayOn_27 rfl (lv_at hl 2 rfl) ?_
    refine nr_icmp_le (tgt := 66) hx hb d_TS_insertWayOn_28 (by decide) (by omega) (by omega) (fun h_1 => ?_) (fun h_1 => ?_)
    · refine lv_aload_n hx hb d_TS_insertWayOn_66 rfl (lv_at hl 0 rfl) ?_
      refine va_get (D := D) (ci := 3) (v := .ref b3) (C := R_TS) (T := F_TS) (N := 10) hx hb ho j_TS hown hK hP 0 rfl rfl 2 (by decide) (ho _ kf_TS_15) (fun _ h9 => h9) rfl d_TS_insertWayOn_67 ?_
      refine lv_iload hx hb d_TS_insertWayOn_70 (lv_at hl 4 rfl) ?_
      refine lv_iload_n hx hb d_TS_insertWayOn_72 rfl (lv_at hl 1 rfl) ?_
      refine nr_iast hx hb hK hP hD hS 3 0 rfl rfl (i := pl) (x := key) (by omega) (by decide) d_TS_insertWayOn_73 (fun H locs hP hD hS => ?_)
      have hP : va_P D classes [(a, .inr (3, [.ref b1, .ref b2, .ref b3, .ref b4, .ref b5, .int (nI pi), .long (lN op), .int (nI ln), .int (nI md), .int (nI fd)])), (b1, .inl (cL, 108, .inr (.inl (lA re)))), (b2, .inl (cI, 36, .inl (nA pa))), (b3, .inl (cI, 288, .inl (nA (va_up wo pl key)))), (b4, .inl (cI, 36, .inl (nA wc))), (b5, .inl (cI, 36, .inl (nA wt)))] H := hP
      have hD : va_D A [(a, .inr (3, [.ref b1, .ref b2, .ref b3, .ref b4, .ref b5, .int (nI pi), .long (lN op), .int (nI ln), .int (nI md), .int (nI fd)])), (b1, .inl (cL, 108, .inr (.inl (lA re)))), (b2, .inl (cI, 36, .inl (nA pa))), (b3, .inl (cI, 288, .inl (nA (va_up wo pl key)))), (b4, .inl (cI, 36, .inl (nA wc))), (b5, .inl (cI, 36, .inl (nA wt)))] := hD
      exact rt_v E hP hD hS (by rw [iW, if_neg (by omega)] at hq; exact hq) d_TS_insertWayOn_74
    · refine lv_aload_n hx hb d_TS_insertWayOn_31 rfl (lv_at hl 0 rfl) ?_
      refine va_get (D := D) (ci := 3) (v := .ref b3) (C := R_TS) (T := F_TS) (N := 10) hx hb ho j_TS hown hK hP 0 rfl rfl 2 (by decide) (ho _ kf_TS_15) (fun _ h9 => h9) rfl d_TS_insertWayOn_32 ?_
      have hwp := hwo (pl - 1)
      refine lv_iload hx hb d_TS_insertWayOn_35 (lv_at hl 4 rfl) ?_
      refine lv_iconst (v := nI 1) hx hb d_TS_insertWayOn_37 (by decide) ?_
      refine nr_isub hx hb d_TS_insertWayOn_38 (by omega) ?_
      refine nr_ialdN hx hb hK hP 3 0 rfl rfl (i := pl - 1) (by omega) (by decide) d_TS_insertWayOn_39 ?_
      refine lv_iload_n hx hb d_TS_insertWayOn_40 rfl (lv_at hl 1 rfl) ?_
      refine nr_icmp_le (tgt := 66) hx hb d_TS_insertWayOn_41 (by decide) (by omega) (by omega) (fun h_2 => ?_) (fun h_2 => ?_)
      · refine lv_aload_n hx hb d_TS_insertWayOn_66 rfl (lv_at hl 0 rfl) ?_
        refine va_get (D := D) (ci := 3) (v := .ref b3) (C := R_TS) (T := F_TS) (N := 10) hx hb ho j_TS hown hK hP 0 rfl rfl 2 (by decide) (ho _ kf_TS_15) (fun _ h9 => h9) rfl d_TS_insertWayOn_67 ?_
        refine lv_iload hx hb d_TS_insertWayOn_70 (lv_at hl 4 rfl) ?_
        refine lv_iload_n hx hb d_TS_insertWayOn_72 rfl (lv_at hl 1 rfl) ?_
        refine nr_iast hx hb hK hP hD hS 3 0 rfl rfl (i := pl) (x := key) (by omega) (by decide) d_TS_insertWayOn_73 (fun H locs hP hD hS => ?_)
        have hP : va_P D classes [(a, .inr (3, [.ref b1, .ref b2, .ref b3, .ref b4, .ref b5, .int (nI pi), .long (lN op), .int (nI ln), .int (nI md), .int (nI fd)])), (b1, .inl (cL, 108, .inr (.inl (lA re)))), (b2, .inl (cI, 36, .inl (nA pa))), (b3, .inl (cI, 288, .inl (nA (va_up wo pl key)))), (b4, .inl (cI, 36, .inl (nA wc))), (b5, .inl (cI, 36, .inl (nA wt)))] H := hP
        have hD : va_D A [(a, .inr (3, [.ref b1, .ref b2, .ref b3, .ref b4, .ref b5, .int (nI pi), .long (lN op), .int (nI ln), .int (nI md), .int (nI fd)])), (b1, .inl (cL, 108, .inr (.inl (lA re)))), (b2, .inl (cI, 36, .inl (nA pa))), (b3, .inl (cI, 288, .inl (nA (va_up wo pl key)))), (b4, .inl (cI, 36, .inl (nA wc))), (b5, .inl (cI, 36, .inl (nA wt)))] := hD
        exact rt_v E hP hD hS (by rw [iW, if_neg (by omega)] at hq; exact hq) d_TS_insertWayOn_74
      · refine lv_aload_n hx hb d_TS_insertWayOn_44 rfl (lv_at hl 0 rfl) ?_
        refine va_get (D := D) (ci := 3) (v := .ref b3) (C := R_TS) (T := F_TS) (N := 10) hx hb ho j_TS hown hK hP 0 rfl rfl 2 (by decide) (ho _ kf_TS_15) (fun _ h9 => h9) rfl d_TS_insertWayOn_45 ?_
        refine lv_iload hx hb d_TS_insertWayOn_48 (lv_at hl 4 rfl) ?_
        refine lv_aload_n hx hb d_TS_insertWayOn_50 rfl (lv_at hl 0 rfl) ?_
        refine va_get (D := D) (ci := 3) (v := .ref b3) (C := R_TS) (T := F_TS) (N := 10) hx hb ho j_TS hown hK hP 0 rfl rfl 2 (by decide) (ho _ kf_TS_15) (fun _ h9 => h9) rfl d_TS_insertWayOn_51 ?_
        refine lv_iload hx hb d_TS_insertWayOn_54 (lv_at hl 4 rfl) ?_
        refine lv_iconst (v := nI 1) hx hb d_TS_insertWayOn_56 (by decide) ?_
        refine nr_isub hx hb d_TS_insertWayOn_57 (by omega) ?_
        refine nr_ialdN hx hb hK hP 3 0 rfl rfl (i := pl - 1) (by omega) (by decide) d_TS_insertWayOn_58 ?_
        refine nr_iast hx hb hK hP hD hS 3 0 rfl rfl (i := pl) (x := wo (pl - 1)) (by omega) (by decide) d_TS_insertWayOn_59 (fun H locs hP hD hS => ?_)
        have hP : va_P D classes [(a, .inr (3, [.ref b1, .ref b2, .ref b3, .ref b4, .ref b5, .int (nI pi), .long (lN op), .int (nI ln), .int (nI md), .int (nI fd)])), (b1, .inl (cL, 108, .inr (.inl (lA re)))), (b2, .inl (cI, 36, .inl (nA pa))), (b3, .inl (cI, 288, .inl (nA (va_up wo pl (wo (pl - 1)))))), (b4, .inl (cI, 36, .inl (nA wc))), (b5, .inl (cI, 36, .inl (nA wt)))] H := hP
        have hD : va_D A [(a, .inr (3, [.ref b1, .ref b2, .ref b3, .ref b4, .ref b5, .int (nI pi), .long (lN op), .int (nI ln), .int (nI md), .int (nI fd)])), (b1, .inl (cL, 108, .inr (.inl (lA re)))), (b2, .inl (cI, 36, .inl (nA pa))), (b3, .inl (cI, 288, .inl (nA (va_up wo pl (wo (pl - 1)))))), (b4, .inl (cI, 36, .inl (nA wc))), (b5, .inl (cI, 36, .inl (nA wt)))] := hD
        refine nr_iincm (lv' := [(4, .int (nI (pl - 1))), (0, .ref a), (1, .int (nI key)), (2, .int (nI fr)), (3, .int (nI ct))]) hx hb d_TS_insertWayOn_60 hl (k := 4) rfl (by omega) (by decide) rfl (fun ls hl => ?_)
        refine lv_goto (tgt := 25) hx hb d_TS_insertWayOn_63 (by decide) ?_
        exact ih (pl - 1) (va_up wo pl (wo (pl - 1))) (by omega) (by omega) (by omega) (up_lt hwo (hwo _)) (by rw [iW, if_pos ⟨by omega, by omega⟩] at hq; exact hq) _ _ hP hD hS ls (lv_sub hl [1, 2, 3, 4, 0] rfl)
set_option maxHeartbeats 1000000 in
set_option maxRecDepth 100000 in
theorem c_TS_insert (l : Launch) (D : va_G) (cI cL : ClassId) (a b1 b2 b3 b4 b5 pi op ln md fd : Nat) (re pa wo wc wt : Nat → Nat) (key fr ct : Nat) (hkey : key < 4000) (hf : fr + ct < 288) (hwo : ∀ i, wo i < 4000) : CV l y_TS_insertWayOn (.code y_TS_insertWayOn b_TS_insertWayOn 5 none :: Om) { frames := 0, cells := 0, slots := 0, locals := 0 } D [(a, .inr (3, [.ref b1, .ref b2, .ref b3, .ref b4, .ref b5, .int (nI pi), .long (lN op), .int (nI ln), .int (nI md), .int (nI fd)])), (b1, .inl (cL, 108, .inr (.inl (lA re)))), (b2, .inl (cI, 36, .inl (nA pa))), (b3, .inl (cI, 288, .inl (nA wo))), (b4, .inl (cI, 36, .inl (nA wc))), (b5, .inl (cI, 36, .inl (nA wt)))] [(cI, .int), (cL, .long)] [.ref a, .int (nI key), .int (nI fr), .int (nI ct)] (fun u => u = [(a, .inr (3, [.ref b1, .ref b2, .ref b3, .ref b4, .ref b5, .int (nI pi), .long (lN op), .int (nI ln), .int (nI md), .int (nI fd)])), (b1, .inl (cL, 108, .inr (.inl (lA re)))), (b2, .inl (cI, 36, .inl (nA pa))), (b3, .inl (cI, 288, .inl (nA (iW key fr (ct + 1) (fr + ct) wo)))), (b4, .inl (cI, 36, .inl (nA wc))), (b5, .inl (cI, 36, .inl (nA wt)))]) := by
  refine en_of (cc := b_TS_insertWayOn) (Qc := qV D [(cI, .int), (cL, .long)] (fun u => u = [(a, .inr (3, [.ref b1, .ref b2, .ref b3, .ref b4, .ref b5, .int (nI pi), .long (lN op), .int (nI ln), .int (nI md), .int (nI fd)])), (b1, .inl (cL, 108, .inr (.inl (lA re)))), (b2, .inl (cI, 36, .inl (nA pa))), (b3, .inl (cI, 288, .inl (nA (iW key fr (ct + 1) (fr + ct) wo)))), (b4, .inl (cI, 36, .inl (nA wc))), (b5, .inl (cI, 36, .inl (nA wt)))])) (by decide) rfl (Nat.le_of_ble_eq_true rfl) ?_
  intro p e s m below meth c A E hnm hP hD hS ls hl
  have hl : lv_has ls 5 [(0, .ref a), (1, .int (nI key)), (2, .int (nI fr)), (3, .int (nI ct))] := hl
  obtain ⟨hx, hb, hml, hown, hts, hr, hlk, hA, hK, hN⟩ := id E
  have ho : ∀ q ∈ Om, q.before _ s = true := fun q h => hts q (List.mem_cons_of_mem _ h)
  refine lv_iload_n hx hb d_TS_insertWayOn_0 rfl (lv_at hl 2 rfl) ?_
  refine nr_if_lt (tgt := 19) hx hb d_TS_insertWayOn_1 (by decide) (by omega) ?_
  refine lv_iload_n hx hb d_TS_insertWayOn_4 rfl (lv_at hl 3 rfl) ?_
  refine nr_if_lt (tgt := 19) hx hb d_TS_insertWayOn_5 (by decide) (by omega) ?_
  refine lv_iload_n hx hb d_TS_insertWayOn_8 rfl (lv_at hl 2 rfl) ?_
  refine lv_iload_n hx hb d_TS_insertWayOn_9 rfl (lv_at hl 3 rfl) ?_
  refine nr_iadd hx hb d_TS_insertWayOn_10 ?_
  refine lv_aload_n hx hb d_TS_insertWayOn_11 rfl (lv_at hl 0 rfl) ?_
  refine va_get (D := D) (ci := 3) (v := .ref b3) (C := R_TS) (T := F_TS) (N := 10) hx hb ho j_TS hown hK hP 0 rfl rfl 2 (by decide) (ho _ kf_TS_15) (fun _ h9 => h9) rfl d_TS_insertWayOn_12 ?_
  refine va_alen (v := nI 288) hx hb hK hP 3 0 rfl rfl rfl d_TS_insertWayOn_15 ?_
  refine nr_icmp_lt (tgt := 20) hx hb d_TS_insertWayOn_16 (by decide) (by omega) (by omega) (fun _ => ?_) (fun h9 => absurd h9 (by omega))
  refine lv_iload_n hx hb d_TS_insertWayOn_20 rfl (lv_at hl 2 rfl) ?_
  refine lv_iload_n hx hb d_TS_insertWayOn_21 rfl (lv_at hl 3 rfl) ?_
  refine nr_iadd hx hb d_TS_insertWayOn_22 ?_
  refine lv_istore (lv' := [(4, .int (nI (fr + ct))), (0, .ref a), (1, .int (nI key)), (2, .int (nI fr)), (3, .int (nI ct))]) hx hb d_TS_insertWayOn_23 hl (by decide) rfl (fun ls hl => ?_)
  exact L_TS_insert a b1 b2 b3 b4 b5 pi op ln md fd re pa wc wt key fr ct hkey E (ct + 1) (fr + ct) wo (by omega) (by omega) (by omega) hwo (by exact rfl) _ _ hP hD hS ls (lv_sub hl [1, 2, 3, 4, 0] rfl)
set_option maxHeartbeats 1000000 in
set_option maxRecDepth 100000 in
theorem c_TS_goBack (l : Launch) (D : va_G) (cI cL : ClassId) (a b1 b2 b3 b4 b5 pi op ln md fd : Nat) (re pa wo wc wt : Nat → Nat) (hln : 1 ≤ ln) (hl36 : ln ≤ 36) (hpa : ∀ k, pa k < 36) : CV l y_TS_goBack (.code y_TS_goBack b_TS_goBack 1 none :: Om) { frames := 0, cells := 0, slots := 0, locals := 0 } D [(a, .inr (3, [.ref b1, .ref b2, .ref b3, .ref b4, .ref b5, .int (nI pi), .long (lN op), .int (nI ln), .int (nI md), .int (nI fd)])), (b1, .inl (cL, 108, .inr (.inl (lA re)))), (b2, .inl (cI, 36, .inl (nA pa))), (b3, .inl (cI, 288, .inl (nA wo))), (b4, .inl (cI, 36, .inl (nA wc))), (b5, .inl (cI, 36, .inl (nA wt)))] [(cI, .int), (cL, .long)] [.ref a] (fun u => u = [(a, .inr (3, [.ref b1, .ref b2, .ref b3, .ref b4, .ref b5, .int (nI pi), .long (lN (op ||| 2 ^ pa (ln - 1))), .int (nI (ln - 1)), .int (nI md), .int (nI fd)])), (b1, .inl (cL, 108, .inr (.inl (lA re)))), (b2, .inl (cI, 36, .inl (nA pa))), (b3, .inl (cI, 288, .inl (nA wo))), (b4, .inl (cI, 36, .inl (nA wc))), (b5, .inl (cI, 36, .inl (nA wt)))]) := by
  refine en_of (cc := b_TS_goBack) (Qc := qV D [(cI, .int), (cL, .long)] (fun u => u = [(a, .inr (3, [.ref b1, .ref b2, .ref b3, .ref b4, .ref b5, .int (nI pi), .long (lN (op ||| 2 ^ pa (ln - 1))), .int (nI (ln - 1)), .int (nI md), .int (nI fd)])), (b1, .inl (cL, 108, .inr (.inl (lA re)))), (b2, .inl (cI, 36, .inl (nA pa))), (b3, .inl (cI, 288, .inl (nA wo))), (b4, .inl (cI, 36, .inl (nA wc))), (b5, .inl (cI, 36, .inl (nA wt)))])) (by decide) rfl (Nat.le_of_ble_eq_true rfl) ?_
  intro p e s m below meth c A E hnm hP hD hS ls hl
  have hl : lv_has ls 1 [(0, .ref a)] := hl
  obtain ⟨hx, hb, hml, hown, hts, hr, hlk, hA, hK, hN⟩ := id E
  have ho : ∀ q ∈ Om, q.before _ s = true := fun q h => hts q (List.mem_cons_of_mem _ h)
  have hp1 := hpa (ln - 1)
  refine lv_aload_n hx hb d_TS_goBack_0 rfl (lv_at hl 0 rfl) ?_
  refine va_get (D := D) (ci := 3) (v := .int (nI ln)) (C := R_TS) (T := F_TS) (N := 10) hx hb ho j_TS hown hK hP 0 rfl rfl 7 (by decide) (ho _ kf_TS_68) (fun _ h9 => h9) rfl d_TS_goBack_1 ?_
  refine lv_iconst (v := nI 1) hx hb d_TS_goBack_4 (by decide) ?_
  refine nr_icmp_lt (tgt := 17) hx hb d_TS_goBack_5 (by decide) (by omega) (by omega) (fun h9 => absurd h9 (by omega)) (fun _ => ?_)
  refine lv_aload_n hx hb d_TS_goBack_8 rfl (lv_at hl 0 rfl) ?_
  refine va_get (D := D) (ci := 3) (v := .int (nI ln)) (C := R_TS) (T := F_TS) (N := 10) hx hb ho j_TS hown hK hP 0 rfl rfl 7 (by decide) (ho _ kf_TS_68) (fun _ h9 => h9) rfl d_TS_goBack_9 ?_
  refine lv_bipush (v := nI 36) hx hb d_TS_goBack_12 (by decide) ?_
  refine nr_icmp_le (tgt := 18) hx hb d_TS_goBack_14 (by decide) (by omega) (by omega) (fun _ => ?_) (fun h9 => absurd h9 (by omega))
  refine lv_aload_n hx hb d_TS_goBack_18 rfl (lv_at hl 0 rfl) ?_
  refine lv_dup hx hb d_TS_goBack_19 rfl ?_
  refine va_get (D := D) (ci := 3) (v := .int (nI ln)) (C := R_TS) (T := F_TS) (N := 10) hx hb ho j_TS hown hK hP 0 rfl rfl 7 (by decide) (ho _ kf_TS_68) (fun _ h9 => h9) rfl d_TS_goBack_20 ?_
  refine lv_iconst (v := nI 1) hx hb d_TS_goBack_23 (by decide) ?_
  refine nr_isub hx hb d_TS_goBack_24 (by omega) ?_
  refine va_put (D := D) (ci := 3) (v := .int (nI (ln - 1))) (ty := .int) (C := R_TS) (T := F_TS) (N := 10) hx hb ho j_TS t_TS t_TS_ok n_TS hown hK hP hD hS 0 rfl rfl 7 (by decide) (ho _ kf_TS_68) (fun _ h9 => h9) rfl (by decide +kernel) rfl rfl (Nat.le_of_ble_eq_true rfl) d_TS_goBack_25 (fun H locs hP hD hS => ?_)
  have hP : va_P D classes [(a, .inr (3, [.ref b1, .ref b2, .ref b3, .ref b4, .ref b5, .int (nI pi), .long (lN op), .int (nI (ln - 1)), .int (nI md), .int (nI fd)])), (b1, .inl (cL, 108, .inr (.inl (lA re)))), (b2, .inl (cI, 36, .inl (nA pa))), (b3, .inl (cI, 288, .inl (nA wo))), (b4, .inl (cI, 36, .inl (nA wc))), (b5, .inl (cI, 36, .inl (nA wt)))] H := hP
  have hD : va_D A [(a, .inr (3, [.ref b1, .ref b2, .ref b3, .ref b4, .ref b5, .int (nI pi), .long (lN op), .int (nI (ln - 1)), .int (nI md), .int (nI fd)])), (b1, .inl (cL, 108, .inr (.inl (lA re)))), (b2, .inl (cI, 36, .inl (nA pa))), (b3, .inl (cI, 288, .inl (nA wo))), (b4, .inl (cI, 36, .inl (nA wc))), (b5, .inl (cI, 36, .inl (nA wt)))] := hD
  refine lv_aload_n hx hb d_TS_goBack_28 rfl (lv_at hl 0 rfl) ?_
  refine lv_dup hx hb d_TS_goBack_29 rfl ?_
  refine va_get (D := D) (ci := 3) (v := .long (lN op)) (C := R_TS) (T := F_TS) (N := 10) hx hb ho j_TS hown hK hP 0 rfl rfl 6 (by decide) (ho _ kf_TS_64) (fun _ h9 => h9) rfl d_TS_goBack_30 ?_
  refine lv_lconst (v := lN 1) hx hb d_TS_goBack_33 rfl ?_
  refine lv_aload_n hx hb d_TS_goBack_34 rfl (lv_at hl 0 rfl) ?_
  refine va_get (D := D) (ci := 3) (v := .ref b2) (C := R_TS) (T := F_TS) (N := 10) hx hb ho j_TS hown hK hP 0 rfl rfl 1 (by decide) (ho _ kf_TS_9) (fun _ h9 => h9) rfl d_TS_goBack_35 ?_
  refine lv_aload_n hx hb d_TS_goBack_38 rfl (lv_at hl 0 rfl) ?_
  refine va_get (D := D) (ci := 3) (v := .int (nI (ln - 1))) (C := R_TS) (T := F_TS) (N := 10) hx hb ho j_TS hown hK hP 0 rfl rfl 7 (by decide) (ho _ kf_TS_68) (fun _ h9 => h9) rfl d_TS_goBack_39 ?_
  refine nr_ialdN hx hb hK hP 2 0 rfl rfl (i := ln - 1) (by omega) (by decide) d_TS_goBack_42 ?_
  refine nr_lshl1 hx hb d_TS_goBack_43 (by omega) ?_
  refine nr_lor hx hb d_TS_goBack_44 ?_
  refine va_put (D := D) (ci := 3) (v := .long (lN (op ||| (2 ^ (pa (ln - 1)))))) (ty := .long) (C := R_TS) (T := F_TS) (N := 10) hx hb ho j_TS t_TS t_TS_ok n_TS hown hK hP hD hS 0 rfl rfl 6 (by decide) (ho _ kf_TS_64) (fun _ h9 => h9) rfl (by decide +kernel) rfl rfl (Nat.le_of_ble_eq_true rfl) d_TS_goBack_45 (fun H locs hP hD hS => ?_)
  have hP : va_P D classes [(a, .inr (3, [.ref b1, .ref b2, .ref b3, .ref b4, .ref b5, .int (nI pi), .long (lN (op ||| (2 ^ (pa (ln - 1))))), .int (nI (ln - 1)), .int (nI md), .int (nI fd)])), (b1, .inl (cL, 108, .inr (.inl (lA re)))), (b2, .inl (cI, 36, .inl (nA pa))), (b3, .inl (cI, 288, .inl (nA wo))), (b4, .inl (cI, 36, .inl (nA wc))), (b5, .inl (cI, 36, .inl (nA wt)))] H := hP
  have hD : va_D A [(a, .inr (3, [.ref b1, .ref b2, .ref b3, .ref b4, .ref b5, .int (nI pi), .long (lN (op ||| (2 ^ (pa (ln - 1))))), .int (nI (ln - 1)), .int (nI md), .int (nI fd)])), (b1, .inl (cL, 108, .inr (.inl (lA re)))), (b2, .inl (cI, 36, .inl (nA pa))), (b3, .inl (cI, 288, .inl (nA wo))), (b4, .inl (cI, 36, .inl (nA wc))), (b5, .inl (cI, 36, .inl (nA wt)))] := hD
  exact rt_v E hP hD hS rfl d_TS_goBack_48
/-- the next way on: 0 none, else one more than the cell -/
def tNx (ln : Nat) (wo wc wt : Nat → Nat) : Nat := if wt (ln - 1) < 8 ∧ wt (ln - 1) < wc (ln - 1) then wo ((ln - 1) * 8 + wt (ln - 1)) % 36 + 1 else 0
def tNt (ln : Nat) (wc wt : Nat → Nat) : Nat → Nat := if wt (ln - 1) < 8 ∧ wt (ln - 1) < wc (ln - 1) then va_up wt (ln - 1) (wt (ln - 1) + 1) else wt
set_option maxHeartbeats 1000000 in
set_option maxRecDepth 100000 in
theorem c_TS_nextCell (l : Launch) (D : va_G) (cI cL : ClassId) (a b1 b2 b3 b4 b5 pi op ln md fd : Nat) (re pa wo wc wt : Nat → Nat) (hln : 1 ≤ ln) (hl36 : ln ≤ 36) (hwo : ∀ i, wo i < 4000) (hwc : ∀ k, wc k ≤ 8) (hwt : ∀ k, wt k ≤ 8) : CI l y_TS_nextCell (.code y_TS_nextCell b_TS_nextCell 3 (some .int) :: Om) { frames := 0, cells := 0, slots := 0, locals := 0 } D [(a, .inr (3, [.ref b1, .ref b2, .ref b3, .ref b4, .ref b5, .int (nI pi), .long (lN op), .int (nI ln), .int (nI md), .int (nI fd)])), (b1, .inl (cL, 108, .inr (.inl (lA re)))), (b2, .inl (cI, 36, .inl (nA pa))), (b3, .inl (cI, 288, .inl (nA wo))), (b4, .inl (cI, 36, .inl (nA wc))), (b5, .inl (cI, 36, .inl (nA wt)))] [(cI, .int), (cL, .long)] [.ref a] (fun r u => r = nI (tNx ln wo wc wt) - 1 ∧ u = [(a, .inr (3, [.ref b1, .ref b2, .ref b3, .ref b4, .ref b5, .int (nI pi), .long (lN op), .int (nI ln), .int (nI md), .int (nI fd)])), (b1, .inl (cL, 108, .inr (.inl (lA re)))), (b2, .inl (cI, 36, .inl (nA pa))), (b3, .inl (cI, 288, .inl (nA wo))), (b4, .inl (cI, 36, .inl (nA wc))), (b5, .inl (cI, 36, .inl (nA (tNt ln wc wt))))]) := by
  refine en_of (cc := b_TS_nextCell) (Qc := qI D [(cI, .int), (cL, .long)] (fun r u => r = nI (tNx ln wo wc wt) - 1 ∧ u = [(a, .inr (3, [.ref b1, .ref b2, .ref b3, .ref b4, .ref b5, .int (nI pi), .long (lN op), .int (nI ln), .int (nI md), .int (nI fd)])), (b1, .inl (cL, 108, .inr (.inl (lA re)))), (b2, .inl (cI, 36, .inl (nA pa))), (b3, .inl (cI, 288, .inl (nA wo))), (b4, .inl (cI, 36, .inl (nA wc))), (b5, .inl (cI, 36, .inl (nA (tNt ln wc wt))))])) (by decide) rfl (Nat.le_of_ble_eq_true rfl) ?_
  intro p e s m below meth c A E hnm hP hD hS ls hl
  have hl : lv_has ls 3 [(0, .ref a)] := hl
  obtain ⟨hx, hb, hml, hown, hts, hr, hlk, hA, hK, hN⟩ := id E
  have ho : ∀ q ∈ Om, q.before _ s = true := fun q h => hts q (List.mem_cons_of_mem _ h)
  refine lv_aload_n hx hb d_TS_nextCell_0 rfl (lv_at hl 0 rfl) ?_
  refine va_get (D := D) (ci := 3) (v := .int (nI ln)) (C := R_TS) (T := F_TS) (N := 10) hx hb ho j_TS hown hK hP 0 rfl rfl 7 (by decide) (ho _ kf_TS_68) (fun _ h9 => h9) rfl d_TS_nextCell_1 ?_
  refine lv_iconst (v := nI 1) hx hb d_TS_nextCell_4 (by decide) ?_
  refine nr_isub hx hb d_TS_nextCell_5 (by omega) ?_
  refine lv_istore_n (lv' := [(1, .int (nI (ln - 1))), (0, .ref a)]) hx hb d_TS_nextCell_6 rfl hl (by decide) rfl (fun ls hl => ?_)
  refine lv_iload_n hx hb d_TS_nextCell_7 rfl (lv_at hl 0 rfl) ?_
  refine nr_if_lt (tgt := 17) hx hb d_TS_nextCell_8 (by decide) (by omega) ?_
  refine lv_iload_n hx hb d_TS_nextCell_11 rfl (lv_at hl 0 rfl) ?_
  refine lv_bipush (v := nI 36) hx hb d_TS_nextCell_12 (by decide) ?_
  refine nr_icmp_lt (tgt := 19) hx hb d_TS_nextCell_14 (by decide) (by omega) (by omega) (fun _ => ?_) (fun h9 => absurd h9 (by omega))
  refine lv_aload_n hx hb d_TS_nextCell_19 rfl (lv_at hl 1 rfl) ?_
  refine va_get (D := D) (ci := 3) (v := .ref b5) (C := R_TS) (T := F_TS) (N := 10) hx hb ho j_TS hown hK hP 0 rfl rfl 4 (by decide) (ho _ kf_TS_21) (fun _ h9 => h9) rfl d_TS_nextCell_20 ?_
  refine lv_iload_n hx hb d_TS_nextCell_23 rfl (lv_at hl 0 rfl) ?_
  have hw1 := hwt (ln - 1)
  have hw2 := hwc (ln - 1)
  refine nr_ialdN hx hb hK hP 5 0 rfl rfl (i := ln - 1) (by omega) (by decide) d_TS_nextCell_24 ?_
  refine lv_istore_n (lv' := [(2, .int (nI (wt (ln - 1)))), (1, .int (nI (ln - 1))), (0, .ref a)]) hx hb d_TS_nextCell_25 rfl hl (by decide) rfl (fun ls hl => ?_)
  refine lv_iload_n hx hb d_TS_nextCell_26 rfl (lv_at hl 0 rfl) ?_
  refine nr_if_lt (tgt := 46) hx hb d_TS_nextCell_27 (by decide) (by omega) ?_
  refine lv_iload_n hx hb d_TS_nextCell_30 rfl (lv_at hl 0 rfl) ?_
  refine lv_bipush (v := nI 8) hx hb d_TS_nextCell_31 (by decide) ?_
  refine nr_icmp_ge (tgt := 46) hx hb d_TS_nextCell_33 (by decide) (by omega) (by omega) (fun h_1 => ?_) (fun h_1 => ?_)
  · refine lv_iconst (v := (-1)) hx hb d_TS_nextCell_46 (by decide) ?_
    exact rt_i E hP hD hS ⟨by unfold tNx; rw [if_neg (by omega)]; decide, by unfold tNt; rw [if_neg (by omega)]⟩ d_TS_nextCell_47
  · refine lv_iload_n hx hb d_TS_nextCell_36 rfl (lv_at hl 0 rfl) ?_
    refine lv_aload_n hx hb d_TS_nextCell_37 rfl (lv_at hl 2 rfl) ?_
    refine va_get (D := D) (ci := 3) (v := .ref b4) (C := R_TS) (T := F_TS) (N := 10) hx hb ho j_TS hown hK hP 0 rfl rfl 3 (by decide) (ho _ kf_TS_18) (fun _ h9 => h9) rfl d_TS_nextCell_38 ?_
    refine lv_iload_n hx hb d_TS_nextCell_41 rfl (lv_at hl 1 rfl) ?_
    refine nr_ialdN hx hb hK hP 4 0 rfl rfl (i := ln - 1) (by omega) (by decide) d_TS_nextCell_42 ?_
    refine nr_icmp_lt (tgt := 48) hx hb d_TS_nextCell_43 (by decide) (by omega) (by omega) (fun h_2 => ?_) (fun h_2 => ?_)
    · refine lv_aload_n hx hb d_TS_nextCell_48 rfl (lv_at hl 2 rfl) ?_
      refine va_get (D := D) (ci := 3) (v := .ref b5) (C := R_TS) (T := F_TS) (N := 10) hx hb ho j_TS hown hK hP 0 rfl rfl 4 (by decide) (ho _ kf_TS_21) (fun _ h9 => h9) rfl d_TS_nextCell_49 ?_
      refine lv_iload_n hx hb d_TS_nextCell_52 rfl (lv_at hl 1 rfl) ?_
      refine lv_iload_n hx hb d_TS_nextCell_53 rfl (lv_at hl 0 rfl) ?_
      refine lv_iconst (v := nI 1) hx hb d_TS_nextCell_54 (by decide) ?_
      refine nr_iadd hx hb d_TS_nextCell_55 ?_
      refine nr_iast hx hb hK hP hD hS 5 0 rfl rfl (i := ln - 1) (x := (wt (ln - 1)) + 1) (by omega) (by decide) d_TS_nextCell_56 (fun H locs hP hD hS => ?_)
      have hP : va_P D classes [(a, .inr (3, [.ref b1, .ref b2, .ref b3, .ref b4, .ref b5, .int (nI pi), .long (lN op), .int (nI ln), .int (nI md), .int (nI fd)])), (b1, .inl (cL, 108, .inr (.inl (lA re)))), (b2, .inl (cI, 36, .inl (nA pa))), (b3, .inl (cI, 288, .inl (nA wo))), (b4, .inl (cI, 36, .inl (nA wc))), (b5, .inl (cI, 36, .inl (nA (va_up wt (ln - 1) ((wt (ln - 1)) + 1)))))] H := hP
      have hD : va_D A [(a, .inr (3, [.ref b1, .ref b2, .ref b3, .ref b4, .ref b5, .int (nI pi), .long (lN op), .int (nI ln), .int (nI md), .int (nI fd)])), (b1, .inl (cL, 108, .inr (.inl (lA re)))), (b2, .inl (cI, 36, .inl (nA pa))), (b3, .inl (cI, 288, .inl (nA wo))), (b4, .inl (cI, 36, .inl (nA wc))), (b5, .inl (cI, 36, .inl (nA (va_up wt (ln - 1) ((wt (ln - 1)) + 1)))))] := hD
      refine lv_aload_n hx hb d_TS_nextCell_57 rfl (lv_at hl 2 rfl) ?_
      refine va_get (D := D) (ci := 3) (v := .ref b3) (C := R_TS) (T := F_TS) (N := 10) hx hb ho j_TS hown hK hP 0 rfl rfl 2 (by decide) (ho _ kf_TS_15) (fun _ h9 => h9) rfl d_TS_nextCell_58 ?_
      refine lv_iload_n hx hb d_TS_nextCell_61 rfl (lv_at hl 1 rfl) ?_
      refine lv_bipush (v := nI 8) hx hb d_TS_nextCell_62 (by decide) ?_
      refine nr_imul hx hb d_TS_nextCell_64 ?_
      refine lv_iload_n hx hb d_TS_nextCell_65 rfl (lv_at hl 0 rfl) ?_
      refine nr_iadd hx hb d_TS_nextCell_66 ?_
      have hw3 := hwo ((ln - 1) * 8 + wt (ln - 1))
      refine nr_ialdN hx hb hK hP 3 0 rfl rfl (i := ((ln - 1) * 8) + (wt (ln - 1))) (by omega) (by decide) d_TS_nextCell_67 ?_
      refine lv_bipush (v := nI 36) hx hb d_TS_nextCell_68 (by decide) ?_
      refine nr_irem hx hb d_TS_nextCell_70 (by omega) (by omega) (by omega) ?_
      exact rt_i E hP hD hS ⟨by unfold tNx; rw [if_pos ⟨by omega, by omega⟩, nI_pred], by unfold tNt; rw [if_pos ⟨by omega, by omega⟩]⟩ d_TS_nextCell_71
    · refine lv_iconst (v := (-1)) hx hb d_TS_nextCell_46 (by decide) ?_
      exact rt_i E hP hD hS ⟨by unfold tNx; rw [if_neg (by omega)]; decide, by unfold tNt; rw [if_neg (by omega)]⟩ d_TS_nextCell_47
def tCl (pi ln : Nat) (re pa : Nat → Nat) : Nat := re (pi * 36 + pa (ln - 1)) / 2 ^ pa 0 % 2
set_option maxHeartbeats 1000000 in
set_option maxRecDepth 100000 in
theorem c_TS_closes (l : Launch) (D : va_G) (cI cL : ClassId) (a b1 b2 b3 b4 b5 pi op ln md fd : Nat) (re pa wo wc wt : Nat → Nat) (hln : 1 ≤ ln) (hl36 : ln ≤ 36) (hpa : ∀ k, pa k < 36) (hpi : pi < 3) (hre : ∀ i, re i < 2 ^ 36) : CI l y_TS_closes (.code y_TS_closes b_TS_closes 1 (some .boolean) :: Om) { frames := 2, cells := 0, slots := 0, locals := 42 } D [(a, .inr (3, [.ref b1, .ref b2, .ref b3, .ref b4, .ref b5, .int (nI pi), .long (lN op), .int (nI ln), .int (nI md), .int (nI fd)])), (b1, .inl (cL, 108, .inr (.inl (lA re)))), (b2, .inl (cI, 36, .inl (nA pa))), (b3, .inl (cI, 288, .inl (nA wo))), (b4, .inl (cI, 36, .inl (nA wc))), (b5, .inl (cI, 36, .inl (nA wt)))] [(cI, .int), (cL, .long)] [.ref a] (fun r u => r = nI (tCl pi ln re pa) ∧ u = [(a, .inr (3, [.ref b1, .ref b2, .ref b3, .ref b4, .ref b5, .int (nI pi), .long (lN op), .int (nI ln), .int (nI md), .int (nI fd)])), (b1, .inl (cL, 108, .inr (.inl (lA re)))), (b2, .inl (cI, 36, .inl (nA pa))), (b3, .inl (cI, 288, .inl (nA wo))), (b4, .inl (cI, 36, .inl (nA wc))), (b5, .inl (cI, 36, .inl (nA wt)))]) := by
  refine en_of (cc := b_TS_closes) (Qc := qI D [(cI, .int), (cL, .long)] (fun r u => r = nI (tCl pi ln re pa) ∧ u = [(a, .inr (3, [.ref b1, .ref b2, .ref b3, .ref b4, .ref b5, .int (nI pi), .long (lN op), .int (nI ln), .int (nI md), .int (nI fd)])), (b1, .inl (cL, 108, .inr (.inl (lA re)))), (b2, .inl (cI, 36, .inl (nA pa))), (b3, .inl (cI, 288, .inl (nA wo))), (b4, .inl (cI, 36, .inl (nA wc))), (b5, .inl (cI, 36, .inl (nA wt)))])) (by decide) rfl (Nat.le_of_ble_eq_true rfl) ?_
  intro p e s m below meth c A E hnm hP hD hS ls hl
  have hl : lv_has ls 1 [(0, .ref a)] := hl
  obtain ⟨hx, hb, hml, hown, hts, hr, hlk, hA, hK, hN⟩ := id E
  have ho : ∀ q ∈ Om, q.before _ s = true := fun q h => hts q (List.mem_cons_of_mem _ h)
  have hp1 := hpa (ln - 1)
  have hp0 := hpa 0
  have hr9 := hre (pi * 36 + pa (ln - 1))
  refine lv_aload_n hx hb d_TS_closes_0 rfl (lv_at hl 0 rfl) ?_
  refine va_get (D := D) (ci := 3) (v := .int (nI ln)) (C := R_TS) (T := F_TS) (N := 10) hx hb ho j_TS hown hK hP 0 rfl rfl 7 (by decide) (ho _ kf_TS_68) (fun _ h9 => h9) rfl d_TS_closes_1 ?_
  refine lv_iconst (v := nI 1) hx hb d_TS_closes_4 (by decide) ?_
  refine nr_icmp_lt (tgt := 17) hx hb d_TS_closes_5 (by decide) (by omega) (by omega) (fun h9 => absurd h9 (by omega)) (fun _ => ?_)
  refine lv_aload_n hx hb d_TS_closes_8 rfl (lv_at hl 0 rfl) ?_
  refine va_get (D := D) (ci := 3) (v := .int (nI ln)) (C := R_TS) (T := F_TS) (N := 10) hx hb ho j_TS hown hK hP 0 rfl rfl 7 (by decide) (ho _ kf_TS_68) (fun _ h9 => h9) rfl d_TS_closes_9 ?_
  refine lv_bipush (v := nI 36) hx hb d_TS_closes_12 (by decide) ?_
  refine nr_icmp_le (tgt := 19) hx hb d_TS_closes_14 (by decide) (by omega) (by omega) (fun _ => ?_) (fun h9 => absurd h9 (by omega))
  refine lv_aload_n hx hb d_TS_closes_19 rfl (lv_at hl 0 rfl) ?_
  refine lv_aload_n hx hb d_TS_closes_20 rfl (lv_at hl 0 rfl) ?_
  refine va_get (D := D) (ci := 3) (v := .int (nI pi)) (C := R_TS) (T := F_TS) (N := 10) hx hb ho j_TS hown hK hP 0 rfl rfl 5 (by decide) (ho _ kf_TS_61) (fun _ h9 => h9) rfl d_TS_closes_21 ?_
  refine lv_aload_n hx hb d_TS_closes_24 rfl (lv_at hl 0 rfl) ?_
  refine va_get (D := D) (ci := 3) (v := .ref b2) (C := R_TS) (T := F_TS) (N := 10) hx hb ho j_TS hown hK hP 0 rfl rfl 1 (by decide) (ho _ kf_TS_9) (fun _ h9 => h9) rfl d_TS_closes_25 ?_
  refine lv_aload_n hx hb d_TS_closes_28 rfl (lv_at hl 0 rfl) ?_
  refine va_get (D := D) (ci := 3) (v := .int (nI ln)) (C := R_TS) (T := F_TS) (N := 10) hx hb ho j_TS hown hK hP 0 rfl rfl 7 (by decide) (ho _ kf_TS_68) (fun _ h9 => h9) rfl d_TS_closes_29 ?_
  refine lv_iconst (v := nI 1) hx hb d_TS_closes_32 (by decide) ?_
  refine nr_isub hx hb d_TS_closes_33 (by omega) ?_
  refine nr_ialdN hx hb hK hP 2 0 rfl rfl (i := ln - 1) (by omega) (by decide) d_TS_closes_34 ?_
  refine af_l (wc := [(a, .inr (3, [.ref b1, .ref b2, .ref b3, .ref b4, .ref b5, .int (nI pi), .long (lN op), .int (nI ln), .int (nI md), .int (nI fd)])), (b1, .inl (cL, 108, .inr (.inl (lA re)))), (b2, .inl (cI, 36, .inl (nA pa))), (b3, .inl (cI, 288, .inl (nA wo))), (b4, .inl (cI, 36, .inl (nA wc))), (b5, .inl (cI, 36, .inl (nA wt)))]) (wr := []) (rest := []) [0, 1, 2, 3, 4, 5] [] hP hD hS hA rfl rfl (by decide) (by decide) (rn_V E (As := [.int (nI pi), .int (nI (pa (ln - 1)))]) m_TS_reach km_TS_86 (c_TS_reach l D cI cL a b1 b2 b3 b4 b5 pi op ln md fd re pa wo wc wt pi (pa (ln - 1)) (by omega) (by omega) _) ⟨rfl, rfl, by dsimp only; omega, by dsimp only; omega⟩ (hP.sub [0, 1, 2, 3, 4, 5] rfl) (hD.sub [0, 1, 2, 3, 4, 5] (by decide) rfl) (q0 := 0) (ci := 3) rfl rfl rfl hl.1 rfl (Nat.le_of_ble_eq_true rfl) ⟨Nat.le_of_ble_eq_true rfl, Nat.le_of_ble_eq_true rfl⟩ d_TS_closes_35) (fun r_2 u_1 H locs hw hP hD hS => ?_)
  obtain ⟨rfl, rfl⟩ := hw
  have hP : va_P D classes [(a, .inr (3, [.ref b1, .ref b2, .ref b3, .ref b4, .ref b5, .int (nI pi), .long (lN op), .int (nI ln), .int (nI md), .int (nI fd)])), (b1, .inl (cL, 108, .inr (.inl (lA re)))), (b2, .inl (cI, 36, .inl (nA pa))), (b3, .inl (cI, 288, .inl (nA wo))), (b4, .inl (cI, 36, .inl (nA wc))), (b5, .inl (cI, 36, .inl (nA wt)))] H := hP
  have hD : va_D A [(a, .inr (3, [.ref b1, .ref b2, .ref b3, .ref b4, .ref b5, .int (nI pi), .long (lN op), .int (nI ln), .int (nI md), .int (nI fd)])), (b1, .inl (cL, 108, .inr (.inl (lA re)))), (b2, .inl (cI, 36, .inl (nA pa))), (b3, .inl (cI, 288, .inl (nA wo))), (b4, .inl (cI, 36, .inl (nA wc))), (b5, .inl (cI, 36, .inl (nA wt)))] := hD
  refine lv_aload_n hx hb d_TS_closes_38 rfl (lv_at hl 0 rfl) ?_
  refine va_get (D := D) (ci := 3) (v := .ref b2) (C := R_TS) (T := F_TS) (N := 10) hx hb ho j_TS hown hK hP 0 rfl rfl 1 (by decide) (ho _ kf_TS_9) (fun _ h9 => h9) rfl d_TS_closes_39 ?_
  refine lv_iconst (v := nI 0) hx hb d_TS_closes_42 (by decide) ?_
  refine nr_ialdN hx hb hK hP 2 0 rfl rfl (i := 0) (by omega) (by decide) d_TS_closes_43 ?_
  refine nr_lushr hx hb d_TS_closes_44 (by omega) (by omega) ?_
  refine lv_lconst (v := lN 1) hx hb d_TS_closes_45 rfl ?_
  refine nr_land1 hx hb d_TS_closes_46 ?_
  refine lv_lconst (v := lN 0) hx hb d_TS_closes_47 rfl ?_
  refine nr_lcmp_eq (tgt := 56) hx hb d_TS_closes_48 d_TS_closes_49 (by decide) (by omega) (by omega) (fun h_3 => ?_) (fun h_3 => ?_)
  · refine lv_iconst (v := nI 0) hx hb d_TS_closes_56 (by decide) ?_
    exact rt_z E hP hD hS (by decide) ⟨by congr 1; unfold tCl; omega, rfl⟩ d_TS_closes_57
  · refine lv_iconst (v := nI 1) hx hb d_TS_closes_52 (by decide) ?_
    refine lv_goto (tgt := 57) hx hb d_TS_closes_53 (by decide) ?_
    exact rt_z E hP hD hS (by decide) ⟨by congr 1; unfold tCl; omega, rfl⟩ d_TS_closes_57
