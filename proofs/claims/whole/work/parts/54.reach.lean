/-! TourSearch: where a piece goes from a cell, as bits -/
abbrev dt (a b : Nat) : Nat := a - b + (b - a)
theorem max0 {y k : Nat} (hy : y < 2 ^ 30) (hk : k < 2 ^ 30) : (if nI 0 < nI y - nI k then nI y - nI k else nI 0) = nI (y - k) := by
  rcases Nat.lt_or_ge k y with q | q
  · rw [pk_sub (by omega), if_pos ((nI_ltI (by omega) (by omega)).mpr (by omega))]
  · rw [show y - k = 0 by omega]
    rcases Nat.lt_or_ge y k with q2 | q2
    · have := pk_sneg (a := y) hk q2
      rw [if_neg]
      intro z
      rw [nI_0] at z
      exact Int32.lt_irrefl (Int32.lt_trans this z)
    · rw [show y = k by omega, Int32.sub_self, if_neg]
      rw [nI_0]
      exact Int32.lt_irrefl
theorem sq_dt {a b : Nat} : (nI a - nI b) * (nI a - nI b) = nI (dt a b * dt a b) := by
  rcases Nat.le_total b a with h | h
  · rw [pk_sub h, pk_mul, show dt a b = a - b by unfold dt; omega]
  · rw [← Int32.neg_sub, pk_sub h, Int32.neg_mul_neg, pk_mul, show dt a b = b - a by unfold dt; omega]
abbrev tDd (x y tx ty : Nat) : Nat := dt tx x * dt tx x + dt ty y * dt ty y
def rX (p x y w ty : Nat) : Nat → Nat → Nat → Nat
  | 0, _, acc => acc
  | m + 1, tx, acc => if tx ≤ x + 2 ∧ tx < w then rX p x y w ty m (tx + 1) (if tGo p (tDd x y tx ty) = 0 then acc else acc ||| 2 ^ (tx + w * ty)) else acc
def rY (p x y w h : Nat) : Nat → Nat → Nat → Nat
  | 0, _, acc => acc
  | m + 1, ty, acc => if ty ≤ y + 2 ∧ ty < h then rY p x y w h m (ty + 1) (rX p x y w ty 7 (x - 2) acc) else acc
/-- the cells to which a piece goes from (x, y) -/
def rF (w h p x y : Nat) : Nat := rY p x y w h 7 (y - 2) 0
set_option maxHeartbeats 1000000 in
set_option maxRecDepth 100000 in
theorem L_TS_rx {p : Program} {l : Launch} {e : Env} {s : State} {m : MethodId} {args : Array Value} {below : List Frame} {meth : Method} {c : Code} {A : Nat → Prop} {D : va_G} {cI cL : ClassId} {c0 : Cond} {Q : State → Prop} (p0 x y w h : Nat) (hp : p0 < 3) (hx0 : x < 6) (hy0 : y < 6) (hw6 : w ≤ 6) (hh6 : h ≤ 6) (ty : Nat) (hty : ty < h) (hty2 : ty ≤ y + 2) (hty3 : y ≤ ty + 2) (E : En p s m args meth c b_TS_reachFrom 9 (c0 :: Om) R_TS (some .long) A D [(cI, .int), (cL, .long)]) : ∀ (m1 : Nat) (tx : Nat) (acc : Nat), tx ≤ x + 3 → x + 3 < tx + m1 → x ≤ tx + 2 → (∀ (H : Heap) (locs : List Loc), va_P D classes [] H → va_D A [] → va_S A s.heap H locs → ∀ ls : Array Slot, lv_has ls 9 [(0, .int (nI p0)), (1, .int (nI x)), (2, .int (nI y)), (3, .int (nI w)), (4, .int (nI h)), (5, .long (lN (rX p0 x y w ty m1 tx acc))), (7, .int (nI ty))] → W p l e { frames := 1, cells := 0, slots := 0, locals := 40 } s m args below meth c H locs 0 0 Q (F0 m 96 ls [])) → ∀ (H : Heap) (locs : List Loc), va_P D classes [] H → va_D A [] → va_S A s.heap H locs → ∀ ls : Array Slot, lv_has ls 9 [(0, .int (nI p0)), (1, .int (nI x)), (2, .int (nI y)), (3, .int (nI w)), (4, .int (nI h)), (5, .long (lN acc)), (7, .int (nI ty)), (8, .int (nI tx))] → W p l e { frames := 1, cells := 0, slots := 0, locals := 40 } s m args below meth c H locs 0 0 Q (F0 m 36 ls []) := by
  obtain ⟨hx, hb, hml, hown, hts, hr, hlk, hA, hK, hN⟩ := id E
  have ho : ∀ q ∈ Om, q.before _ s = true := fun q h => hts q (List.mem_cons_of_mem _ h)
  intro m1
  induction m1 with
  | zero =>
    intro tx acc h1 h2 h3 hq
    exact absurd h2 (by omega)
  | succ m1 ih =>
    intro tx acc h1 h2 h3 hq H locs hP hD hS ls hl
    refine lv_iload hx hb d_TS_reachFrom_36 (lv_at hl 7 rfl) ?_
    refine lv_iload_n hx hb d_TS_reachFrom_38 rfl (lv_at hl 1 rfl) ?_
    refine lv_iconst (v := nI 2) hx hb d_TS_reachFrom_39 (by decide) ?_
    refine nr_iadd hx hb d_TS_reachFrom_40 ?_
    refine nr_icmp_gt (tgt := 96) hx hb d_TS_reachFrom_41 (by decide) (by omega) (by omega) (fun h_1 => ?_) (fun h_1 => ?_)
    · rw [rX, if_neg (by omega)] at hq
      exact hq _ _ hP hD hS ls (lv_sub hl [0, 1, 2, 3, 4, 5, 6] rfl)
    · refine lv_iload hx hb d_TS_reachFrom_44 (lv_at hl 7 rfl) ?_
      refine lv_iload_n hx hb d_TS_reachFrom_46 rfl (lv_at hl 3 rfl) ?_
      refine nr_icmp_ge (tgt := 96) hx hb d_TS_reachFrom_47 (by decide) (by omega) (by omega) (fun h_2 => ?_) (fun h_2 => ?_)
      · rw [rX, if_neg (by omega)] at hq
        exact hq _ _ hP hD hS ls (lv_sub hl [0, 1, 2, 3, 4, 5, 6] rfl)
      · have hd1 : dt tx x ≤ 2 := by unfold dt; omega
        have hd2 : dt ty y ≤ 2 := by unfold dt; omega
        have hq1 := Nat.mul_le_mul hd1 hd1
        have hq2 := Nat.mul_le_mul hd2 hd2
        have hce := ce_lt (show tx < w by omega) hty hw6 hh6
        refine lv_iload_n hx hb d_TS_reachFrom_50 rfl (lv_at hl 0 rfl) ?_
        refine lv_iload hx hb d_TS_reachFrom_51 (lv_at hl 7 rfl) ?_
        refine lv_iload_n hx hb d_TS_reachFrom_53 rfl (lv_at hl 1 rfl) ?_
        refine lv_isub hx hb d_TS_reachFrom_54 ?_
        refine lv_iload hx hb d_TS_reachFrom_55 (lv_at hl 7 rfl) ?_
        refine lv_iload_n hx hb d_TS_reachFrom_57 rfl (lv_at hl 1 rfl) ?_
        refine lv_isub hx hb d_TS_reachFrom_58 ?_
        refine lv_imul hx hb d_TS_reachFrom_59 ?_
        rw [sq_dt (a := tx) (b := x)]
        refine lv_iload hx hb d_TS_reachFrom_60 (lv_at hl 6 rfl) ?_
        refine lv_iload_n hx hb d_TS_reachFrom_62 rfl (lv_at hl 2 rfl) ?_
        refine lv_isub hx hb d_TS_reachFrom_63 ?_
        refine lv_iload hx hb d_TS_reachFrom_64 (lv_at hl 6 rfl) ?_
        refine lv_iload_n hx hb d_TS_reachFrom_66 rfl (lv_at hl 2 rfl) ?_
        refine lv_isub hx hb d_TS_reachFrom_67 ?_
        refine lv_imul hx hb d_TS_reachFrom_68 ?_
        rw [sq_dt (a := ty) (b := y)]
        refine nr_iadd hx hb d_TS_reachFrom_69 ?_
        have hgg := tGo_1 p0 ((dt tx x * dt tx x) + (dt ty y * dt ty y))
        refine af_i (wc := []) (wr := []) (rest := []) [] [] hP hD hS hA rfl rfl (by decide) (by decide) (rn_S E (As := [.int (nI p0), .int (nI ((dt tx x * dt tx x) + (dt ty y * dt ty y)))]) m_TS_goes km_TS_42 (c_TS_goes l D cI cL p0 ((dt tx x * dt tx x) + (dt ty y * dt ty y)) (by omega) (by omega) _) ⟨rfl, rfl, by dsimp only; omega, by dsimp only; omega⟩ (hP.sub [] rfl) (hD.sub [] (by decide) rfl) rfl hl.1 rfl (Nat.le_of_ble_eq_true rfl) ⟨Nat.le_of_ble_eq_true rfl, Nat.le_of_ble_eq_true rfl⟩ d_TS_reachFrom_70) (fun r_4 u_3 H locs hw hP hD hS => ?_)
        obtain ⟨rfl, rfl⟩ := hw
        have hP : va_P D classes [] H := hP
        have hD : va_D A [] := hD
        refine nr_if_eq (tgt := 90) hx hb d_TS_reachFrom_73 (by decide) (by omega) (fun h_5 => ?_) (fun h_5 => ?_)
        · refine nr_iinc (lv' := [(8, .int (nI (tx + 1))), (0, .int (nI p0)), (1, .int (nI x)), (2, .int (nI y)), (3, .int (nI w)), (4, .int (nI h)), (5, .long (lN acc)), (7, .int (nI ty))]) hx hb d_TS_reachFrom_90 hl (k := 7) rfl (by decide) rfl (fun ls hl => ?_)
          refine lv_goto (tgt := 36) hx hb d_TS_reachFrom_93 (by decide) ?_
          exact ih (tx + 1) acc (by omega) (by omega) (by omega) (by rw [rX, if_pos ⟨by omega, by omega⟩, show (if tGo p0 (tDd x y tx ty) = 0 then acc else acc ||| 2 ^ (tx + w * ty)) = acc from if_pos (show tGo p0 (dt tx x * dt tx x + dt ty y * dt ty y) = 0 by omega)] at hq; exact hq) _ _ hP hD hS ls (lv_sub hl [1, 2, 3, 4, 5, 6, 7, 0] rfl)
        · refine lv_lload hx hb d_TS_reachFrom_76 (lv_at hl 5 rfl) ?_
          refine lv_lconst (v := lN 1) hx hb d_TS_reachFrom_78 rfl ?_
          refine lv_iload hx hb d_TS_reachFrom_79 (lv_at hl 7 rfl) ?_
          refine lv_iload_n hx hb d_TS_reachFrom_81 rfl (lv_at hl 3 rfl) ?_
          refine lv_iload hx hb d_TS_reachFrom_82 (lv_at hl 6 rfl) ?_
          refine nr_imul hx hb d_TS_reachFrom_84 ?_
          refine nr_iadd hx hb d_TS_reachFrom_85 ?_
          refine nr_lshl1 hx hb d_TS_reachFrom_86 (by omega) ?_
          refine nr_lor hx hb d_TS_reachFrom_87 ?_
          refine lv_lstore (lv' := [(5, .long (lN (acc ||| (2 ^ (tx + (w * ty)))))), (0, .int (nI p0)), (1, .int (nI x)), (2, .int (nI y)), (3, .int (nI w)), (4, .int (nI h)), (7, .int (nI ty)), (8, .int (nI tx))]) hx hb d_TS_reachFrom_88 hl (by decide) rfl (fun ls hl => ?_)
          refine nr_iinc (lv' := [(8, .int (nI (tx + 1))), (5, .long (lN (acc ||| (2 ^ (tx + (w * ty)))))), (0, .int (nI p0)), (1, .int (nI x)), (2, .int (nI y)), (3, .int (nI w)), (4, .int (nI h)), (7, .int (nI ty))]) hx hb d_TS_reachFrom_90 hl (k := 7) rfl (by decide) rfl (fun ls hl => ?_)
          refine lv_goto (tgt := 36) hx hb d_TS_reachFrom_93 (by decide) ?_
          exact ih (tx + 1) (acc ||| (2 ^ (tx + (w * ty)))) (by omega) (by omega) (by omega) (by rw [rX, if_pos ⟨by omega, by omega⟩, show (if tGo p0 (tDd x y tx ty) = 0 then acc else acc ||| 2 ^ (tx + w * ty)) = acc ||| (2 ^ (tx + (w * ty))) from if_neg (show ¬ tGo p0 (dt tx x * dt tx x + dt ty y * dt ty y) = 0 by omega)] at hq; exact hq) _ _ hP hD hS ls (lv_sub hl [2, 3, 4, 5, 6, 1, 7, 0] rfl)
set_option maxHeartbeats 1000000 in
set_option maxRecDepth 100000 in
theorem L_TS_ry {p : Program} {l : Launch} {e : Env} {s : State} {m : MethodId} {args : Array Value} {below : List Frame} {meth : Method} {c : Code} {A : Nat → Prop} {D : va_G} {cI cL : ClassId} {c0 : Cond} {post : Int64 → va_W → Prop} (p0 x y w h : Nat) (hp : p0 < 3) (hx0 : x < 6) (hy0 : y < 6) (hw6 : w ≤ 6) (hh6 : h ≤ 6) (E : En p s m args meth c b_TS_reachFrom 9 (c0 :: Om) R_TS (some .long) A D [(cI, .int), (cL, .long)]) : ∀ (m1 : Nat) (ty : Nat) (acc : Nat), ty ≤ y + 3 → y + 3 < ty + m1 → y ≤ ty + 2 → post (lN (rY p0 x y w h m1 ty acc)) [] → ∀ (H : Heap) (locs : List Loc), va_P D classes [] H → va_D A [] → va_S A s.heap H locs → ∀ ls : Array Slot, lv_has ls 9 [(0, .int (nI p0)), (1, .int (nI x)), (2, .int (nI y)), (3, .int (nI w)), (4, .int (nI h)), (5, .long (lN acc)), (7, .int (nI ty))] → W p l e { frames := 1, cells := 0, slots := 0, locals := 40 } s m args below meth c H locs 0 0 (MQ below (qL D [(cI, .int), (cL, .long)] post A) args s 0 0 A) (F0 m 12 ls []) := by
  obtain ⟨hx, hb, hml, hown, hts, hr, hlk, hA, hK, hN⟩ := id E
  have ho : ∀ q ∈ Om, q.before _ s = true := fun q h => hts q (List.mem_cons_of_mem _ h)
  intro m1
  induction m1 with
  | zero =>
    intro ty acc h1 h2 h3 hq
    exact absurd h2 (by omega)
  | succ m1 ih =>
    intro ty acc h1 h2 h3 hq H locs hP hD hS ls hl
    refine lv_iload hx hb d_TS_reachFrom_12 (lv_at hl 6 rfl) ?_
    refine lv_iload_n hx hb d_TS_reachFrom_14 rfl (lv_at hl 2 rfl) ?_
    refine lv_iconst (v := nI 2) hx hb d_TS_reachFrom_15 (by decide) ?_
    refine nr_iadd hx hb d_TS_reachFrom_16 ?_
    refine nr_icmp_gt (tgt := 102) hx hb d_TS_reachFrom_17 (by decide) (by omega) (by omega) (fun h_1 => ?_) (fun h_1 => ?_)
    · refine lv_lload hx hb d_TS_reachFrom_102 (lv_at hl 5 rfl) ?_
      exact rt_l E hP hD hS (by rw [rY, if_neg (by omega)] at hq; exact hq) d_TS_reachFrom_104
    · refine lv_iload hx hb d_TS_reachFrom_20 (lv_at hl 6 rfl) ?_
      refine lv_iload hx hb d_TS_reachFrom_22 (lv_at hl 4 rfl) ?_
      refine nr_icmp_ge (tgt := 102) hx hb d_TS_reachFrom_24 (by decide) (by omega) (by omega) (fun h_2 => ?_) (fun h_2 => ?_)
      · refine lv_lload hx hb d_TS_reachFrom_102 (lv_at hl 5 rfl) ?_
        exact rt_l E hP hD hS (by rw [rY, if_neg (by omega)] at hq; exact hq) d_TS_reachFrom_104
      · refine lv_iconst (v := nI 0) hx hb d_TS_reachFrom_27 (by decide) ?_
        refine lv_iload_n hx hb d_TS_reachFrom_28 rfl (lv_at hl 1 rfl) ?_
        refine lv_iconst (v := nI 2) hx hb d_TS_reachFrom_29 (by decide) ?_
        refine lv_isub hx hb d_TS_reachFrom_30 ?_
        refine va_mmax hx hb (hml.trans hl.1.symm) hown (ho _ km_TS_36) (ho _ kq_max.1) (ho _ kz_MT) (ho _ kq_max.2) (Nat.le_of_ble_eq_true rfl) (Nat.le_of_ble_eq_true rfl) (Nat.zero_le _) (Nat.zero_le _) d_TS_reachFrom_31 ?_
        rw [max0 (y := x) (k := 2) (by omega) (by decide)]
        refine lv_istore (lv' := [(8, .int (nI (x - 2))), (0, .int (nI p0)), (1, .int (nI x)), (2, .int (nI y)), (3, .int (nI w)), (4, .int (nI h)), (5, .long (lN acc)), (7, .int (nI ty))]) hx hb d_TS_reachFrom_34 hl (by decide) rfl (fun ls hl => ?_)
        refine L_TS_rx p0 x y w h hp hx0 hy0 hw6 hh6 ty (by omega) (by omega) (by omega) E 7 (x - 2) acc (by omega) (by omega) (by omega) (fun H locs hP hD hS ls hl => ?_) _ _ hP hD hS ls (lv_sub hl [1, 2, 3, 4, 5, 6, 7, 0] rfl)
        refine nr_iinc (lv' := [(7, .int (nI (ty + 1))), (0, .int (nI p0)), (1, .int (nI x)), (2, .int (nI y)), (3, .int (nI w)), (4, .int (nI h)), (5, .long (lN (rX p0 x y w ty 7 (x - 2) acc)))]) hx hb d_TS_reachFrom_96 hl (k := 6) rfl (by decide) rfl (fun ls hl => ?_)
        refine lv_goto (tgt := 12) hx hb d_TS_reachFrom_99 (by decide) ?_
        exact ih (ty + 1) (rX p0 x y w ty 7 (x - 2) acc) (by omega) (by omega) (by omega) (by rw [rY, if_pos ⟨by omega, by omega⟩] at hq; exact hq) _ _ hP hD hS ls (lv_sub hl [1, 2, 3, 4, 5, 6, 0] rfl)
set_option maxHeartbeats 1000000 in
set_option maxRecDepth 100000 in
theorem c_TS_reachFrom (l : Launch) (D : va_G) (cI cL : ClassId) (p0 x y w h : Nat) (hp : p0 < 3) (hx0 : x < 6) (hy0 : y < 6) (hw6 : w ≤ 6) (hh6 : h ≤ 6) : CL l y_TS_reachFrom (.code y_TS_reachFrom b_TS_reachFrom 9 (some .long) :: Om) { frames := 1, cells := 0, slots := 0, locals := 40 } D [] [(cI, .int), (cL, .long)] [.int (nI p0), .int (nI x), .int (nI y), .int (nI w), .int (nI h)] (fun r u => r = lN (rF w h p0 x y) ∧ u = []) := by
  refine en_of (cc := b_TS_reachFrom) (Qc := qL D [(cI, .int), (cL, .long)] (fun r u => r = lN (rF w h p0 x y) ∧ u = [])) (by decide) rfl (Nat.le_of_ble_eq_true rfl) ?_
  intro p e s m below meth c A E hnm hP hD hS ls hl
  have hl : lv_has ls 9 [(0, .int (nI p0)), (1, .int (nI x)), (2, .int (nI y)), (3, .int (nI w)), (4, .int (nI h))] := hl
  obtain ⟨hx, hb, hml, hown, hts, hr, hlk, hA, hK, hN⟩ := id E
  have ho : ∀ q ∈ Om, q.before _ s = true := fun q h => hts q (List.mem_cons_of_mem _ h)
  refine lv_lconst (v := lN 0) hx hb d_TS_reachFrom_0 rfl ?_
  refine lv_lstore (lv' := [(5, .long (lN 0)), (0, .int (nI p0)), (1, .int (nI x)), (2, .int (nI y)), (3, .int (nI w)), (4, .int (nI h))]) hx hb d_TS_reachFrom_1 hl (by decide) rfl (fun ls hl => ?_)
  refine lv_iconst (v := nI 0) hx hb d_TS_reachFrom_3 (by decide) ?_
  refine lv_iload_n hx hb d_TS_reachFrom_4 rfl (lv_at hl 3 rfl) ?_
  refine lv_iconst (v := nI 2) hx hb d_TS_reachFrom_5 (by decide) ?_
  refine lv_isub hx hb d_TS_reachFrom_6 ?_
  refine va_mmax hx hb (hml.trans hl.1.symm) hown (ho _ km_TS_36) (ho _ kq_max.1) (ho _ kz_MT) (ho _ kq_max.2) (Nat.le_of_ble_eq_true rfl) (Nat.le_of_ble_eq_true rfl) (Nat.zero_le _) (Nat.zero_le _) d_TS_reachFrom_7 ?_
  rw [max0 (y := y) (k := 2) (by omega) (by decide)]
  refine lv_istore (lv' := [(7, .int (nI (y - 2))), (5, .long (lN 0)), (0, .int (nI p0)), (1, .int (nI x)), (2, .int (nI y)), (3, .int (nI w)), (4, .int (nI h))]) hx hb d_TS_reachFrom_10 hl (by decide) rfl (fun ls hl => ?_)
  exact L_TS_ry p0 x y w h hp hx0 hy0 hw6 hh6 E 7 (y - 2) 0 (by omega) (by omega) (by omega) ⟨rfl, rfl⟩ _ _ hP hD hS ls (lv_sub hl [2, 3, 4, 5, 6, 1, 0] rfl)
