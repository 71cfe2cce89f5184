/-! TourSearch: the ways on, entering a cell, the run -/
theorem nI_min {a b : Nat} (ha : a < 2 ^ 31) (hb : b < 2 ^ 31) : (if nI b < nI a then nI b else nI a) = nI (min a b) := by
  by_cases h : b < a
  · rw [if_pos ((nI_ltI hb ha).mpr h), Nat.min_eq_right (by omega)]
  · rw [if_neg (fun q => h ((nI_ltI hb ha).mp q)), Nat.min_eq_left (by omega)]
theorem nI_max {a b : Nat} (ha : a < 2 ^ 31) (hb : b < 2 ^ 31) : (if nI a < nI b then nI b else nI a) = nI (max a b) := by
  by_cases h : a < b
  · rw [if_pos ((nI_ltI ha hb).mpr h), Nat.max_eq_right (by omega)]
  · rw [if_neg (fun q => h ((nI_ltI ha hb).mp q)), Nat.max_eq_left (by omega)]
/-- the key of a way on: how many ways on it has itself, then the cell -/
abbrev tKey (pi op : Nat) (re : Nat → Nat) (nx : Nat) : Nat := pop 64 (re (pi * 36 + nx) &&& op) * 36 + nx
def lW (pi op : Nat) (re : Nat → Nat) (fr many : Nat) : Nat → Nat → Nat → (Nat → Nat) → Nat → Nat
  | 0, _, _, wo => wo
  | m + 1, i, left, wo => if i < many then lW pi op re fr many m (i + 1) (left ^^^ lowb left) (iW (tKey pi op re (pop 64 (lowb left - 1))) fr (i + 1) (fr + i) wo) else wo
theorem lW_lt {pi op : Nat} {re : Nat → Nat} {fr many : Nat} : ∀ m i left wo, left < 2 ^ 36 → many ≤ i + pop 64 left → (∀ j, wo j < 4000) → ∀ j, lW pi op re fr many m i left wo j < 4000 := by
  intro m
  induction m with
  | zero => intro i left wo _ _ h; exact h
  | succ m ih =>
    intro i left wo h1 h2 h
    rw [lW]
    split
    · have h0 : 0 < left := by
        rcases Nat.eq_zero_or_pos left with q | q
        · rw [q, pop_zero] at h2; omega
        · exact q
      obtain ⟨k, q, hk, -, hlow, hpop, -, hlt, hpp⟩ := low_all h0 h1
      have hp := pop_le 64 (re (pi * 36 + pop 64 (lowb left - 1)) &&& op)
      refine ih _ _ _ hlt (by omega) (iW_lt (by unfold tKey; omega) _ _ _ h)
    · exact h
set_option maxHeartbeats 1000000 in
set_option maxRecDepth 100000 in
theorem L_TS_list {p : Program} {l : Launch} {e : Env} {s : State} {m : MethodId} {args : Array Value} {below : List Frame} {meth : Method} {c : Code} {A : Nat → Prop} {D : va_G} {cI cL : ClassId} {c0 : Cond} {post : Int32 → va_W → Prop} (a b1 b2 b3 b4 b5 pi op ln md fd : Nat) (re pa wc wt : Nat → Nat) (cc0 fr many : Nat) (hpi : pi < 3) (hop : op < 2 ^ 36) (hre : ∀ i, re i < 2 ^ 36) (hfr : fr + 8 ≤ 288) (hmany : many ≤ 8) (E : En p s m args meth c b_TS_listWaysOn 11 (c0 :: Om) R_TS (some .int) A D [(cI, .int), (cL, .long)]) : ∀ (m1 : Nat) (i : Nat) (left : Nat) (wo : Nat → Nat), i ≤ many → many < i + m1 → left < 2 ^ 36 → many ≤ i + pop 64 left → (∀ j, wo j < 4000) → post (nI many) [(a, .inr (3, [.ref b1, .ref b2, .ref b3, .ref b4, .ref b5, .int (nI pi), .long (lN op), .int (nI ln), .int (nI md), .int (nI fd)])), (b1, .inl (cL, 108, .inr (.inl (lA re)))), (b2, .inl (cI, 36, .inl (nA pa))), (b3, .inl (cI, 288, .inl (nA (lW pi op re fr many m1 i left wo)))), (b4, .inl (cI, 36, .inl (nA wc))), (b5, .inl (cI, 36, .inl (nA wt)))] → ∀ (H : Heap) (locs : List Loc), va_P D classes [(a, .inr (3, [.ref b1, .ref b2, .ref b3, .ref b4, .ref b5, .int (nI pi), .long (lN op), .int (nI ln), .int (nI md), .int (nI fd)])), (b1, .inl (cL, 108, .inr (.inl (lA re)))), (b2, .inl (cI, 36, .inl (nA pa))), (b3, .inl (cI, 288, .inl (nA wo))), (b4, .inl (cI, 36, .inl (nA wc))), (b5, .inl (cI, 36, .inl (nA wt)))] H → va_D A [(a, .inr (3, [.ref b1, .ref b2, .ref b3, .ref b4, .ref b5, .int (nI pi), .long (lN op), .int (nI ln), .int (nI md), .int (nI fd)])), (b1, .inl (cL, 108, .inr (.inl (lA re)))), (b2, .inl (cI, 36, .inl (nA pa))), (b3, .inl (cI, 288, .inl (nA wo))), (b4, .inl (cI, 36, .inl (nA wc))), (b5, .inl (cI, 36, .inl (nA wt)))] → va_S A s.heap H locs → ∀ ls : Array Slot, lv_has ls 11 [(0, .ref a), (1, .int (nI cc0)), (2, .int (nI fr)), (3, .long (lN left)), (5, .int (nI many)), (6, .int (nI i))] → W p l e { frames := 2, cells := 0, slots := 0, locals := 42 } s m args below meth c H locs 0 0 (MQ below (qI D [(cI, .int), (cL, .long)] post A) args s 0 0 A) (F0 m 29 ls []) := by
  obtain ⟨hx, hb, hml, hown, hts, hr, hlk, hA, hK, hN⟩ := id E
  have ho : ∀ q ∈ Om, q.before _ s = true := fun q h => hts q (List.mem_cons_of_mem _ h)
  intro m1
  induction m1 with
  | zero =>
    intro i left wo h1 h2 hleft hpl hwo hq
    exact absurd h2 (by omega)
  | succ m1 ih =>
    intro i left wo h1 h2 hleft hpl hwo hq H locs hP hD hS ls hl
    refine lv_iload hx hb d_TS_listWaysOn_29 (lv_at hl 5 rfl) ?_
    refine lv_iload hx hb d_TS_listWaysOn_31 (lv_at hl 4 rfl) ?_
    refine nr_icmp_ge (tgt := 97) hx hb d_TS_listWaysOn_33 (by decide) (by omega) (by omega) (fun h_1 => ?_) (fun h_1 => ?_)
    · refine lv_iload hx hb d_TS_listWaysOn_97 (lv_at hl 4 rfl) ?_
      exact rt_i E hP hD hS (by rw [lW, if_neg (by omega)] at hq; exact hq) d_TS_listWaysOn_99
    · have hl0 : 0 < left := by
        rcases Nat.eq_zero_or_pos left with q | q
        · rw [q, pop_zero] at hpl; omega
        · exact q
      obtain ⟨kk, qq, hkk, -, hlow, hpop, -, hlt, hpp⟩ := low_all hl0 hleft
      have hl1 : 1 ≤ lowb left := by rw [hlow]; exact Nat.pow_pos (by decide)
      have hl2 : lowb left ≤ left := Nat.and_le_left
      have hrr := hre (pi * 36 + pop 64 (lowb left - 1))
      have ha9 : re (pi * 36 + pop 64 (lowb left - 1)) &&& op < 2 ^ 36 := Nat.and_lt_two_pow _ hop
      have hp9 := pop_le 64 (re (pi * 36 + pop 64 (lowb left - 1)) &&& op)
      refine lv_lload_n hx hb d_TS_listWaysOn_36 rfl (lv_at hl 3 rfl) ?_
      refine lv_lload_n hx hb d_TS_listWaysOn_37 rfl (lv_at hl 3 rfl) ?_
      refine nr_lneg hx hb d_TS_listWaysOn_38 (by omega) ?_
      refine nr_land hx hb d_TS_listWaysOn_39 ?_
      refine lv_lstore (lv' := [(7, .long (lN (lowb left))), (0, .ref a), (1, .int (nI cc0)), (2, .int (nI fr)), (3, .long (lN left)), (5, .int (nI many)), (6, .int (nI i))]) hx hb d_TS_listWaysOn_40 hl (by decide) rfl (fun ls hl => ?_)
      refine lv_lload_n hx hb d_TS_listWaysOn_42 rfl (lv_at hl 4 rfl) ?_
      refine lv_lload hx hb d_TS_listWaysOn_43 (lv_at hl 0 rfl) ?_
      refine nr_lxor hx hb d_TS_listWaysOn_45 ?_
      refine lv_lstore_n (lv' := [(3, .long (lN (left ^^^ (lowb left)))), (7, .long (lN (lowb left))), (0, .ref a), (1, .int (nI cc0)), (2, .int (nI fr)), (5, .int (nI many)), (6, .int (nI i))]) hx hb d_TS_listWaysOn_46 rfl hl (by decide) rfl (fun ls hl => ?_)
      refine lv_lload hx hb d_TS_listWaysOn_47 (lv_at hl 1 rfl) ?_
      refine lv_lconst (v := lN 1) hx hb d_TS_listWaysOn_49 rfl ?_
      refine nr_lsub hx hb d_TS_listWaysOn_50 (by omega) ?_
      refine af_i (wc := []) (wr := [(a, .inr (3, [.ref b1, .ref b2, .ref b3, .ref b4, .ref b5, .int (nI pi), .long (lN op), .int (nI ln), .int (nI md), .int (nI fd)])), (b1, .inl (cL, 108, .inr (.inl (lA re)))), (b2, .inl (cI, 36, .inl (nA pa))), (b3, .inl (cI, 288, .inl (nA wo))), (b4, .inl (cI, 36, .inl (nA wc))), (b5, .inl (cI, 36, .inl (nA wt)))]) (rest := []) [] [0, 1, 2, 3, 4, 5] hP hD hS hA rfl rfl (by decide) (by decide) (rn_S E (As := [.long (lN ((lowb left) - 1))]) m_LG_bitCount km_TS_95 (c_LG_bitCount l D cI cL ((lowb left) - 1) (by omega) _) ⟨rfl, rfl, Nat.le_of_ble_eq_true rfl, Nat.le_of_ble_eq_true rfl⟩ (hP.sub [] rfl) (hD.sub [] (by decide) rfl) rfl hl.1 rfl (Nat.le_of_ble_eq_true rfl) ⟨Nat.le_of_ble_eq_true rfl, Nat.le_of_ble_eq_true rfl⟩ d_TS_listWaysOn_51) (fun r_3 u_2 H locs hw hP hD hS => ?_)
      obtain ⟨rfl, rfl⟩ := hw
      have hP : va_P D classes [(a, .inr (3, [.ref b1, .ref b2, .ref b3, .ref b4, .ref b5, .int (nI pi), .long (lN op), .int (nI ln), .int (nI md), .int (nI fd)])), (b1, .inl (cL, 108, .inr (.inl (lA re)))), (b2, .inl (cI, 36, .inl (nA pa))), (b3, .inl (cI, 288, .inl (nA wo))), (b4, .inl (cI, 36, .inl (nA wc))), (b5, .inl (cI, 36, .inl (nA wt)))] H := hP
      have hD : va_D A [(a, .inr (3, [.ref b1, .ref b2, .ref b3, .ref b4, .ref b5, .int (nI pi), .long (lN op), .int (nI ln), .int (nI md), .int (nI fd)])), (b1, .inl (cL, 108, .inr (.inl (lA re)))), (b2, .inl (cI, 36, .inl (nA pa))), (b3, .inl (cI, 288, .inl (nA wo))), (b4, .inl (cI, 36, .inl (nA wc))), (b5, .inl (cI, 36, .inl (nA wt)))] := hD
      refine lv_istore (lv' := [(9, .int (nI (pop 64 ((lowb left) - 1)))), (3, .long (lN (left ^^^ (lowb left)))), (7, .long (lN (lowb left))), (0, .ref a), (1, .int (nI cc0)), (2, .int (nI fr)), (5, .int (nI many)), (6, .int (nI i))]) hx hb d_TS_listWaysOn_54 hl (by decide) rfl (fun ls hl => ?_)
      refine lv_aload_n hx hb d_TS_listWaysOn_56 rfl (lv_at hl 3 rfl) ?_
      refine lv_aload_n hx hb d_TS_listWaysOn_57 rfl (lv_at hl 3 rfl) ?_
      refine va_get (D := D) (ci := 3) (v := .int (nI pi)) (C := R_TS) (T := F_TS) (N := 10) hx hb ho j_TS hown hK hP 0 rfl rfl 5 (by decide) (ho _ kf_TS_61) (fun _ h9 => h9) rfl d_TS_listWaysOn_58 ?_
      refine lv_iload hx hb d_TS_listWaysOn_61 (lv_at hl 0 rfl) ?_
      refine af_l (wc := [(a, .inr (3, [.ref b1, .ref b2, .ref b3, .ref b4, .ref b5, .int (nI pi), .long (lN op), .int (nI ln), .int (nI md), .int (nI fd)])), (b1, .inl (cL, 108, .inr (.inl (lA re)))), (b2, .inl (cI, 36, .inl (nA pa))), (b3, .inl (cI, 288, .inl (nA wo))), (b4, .inl (cI, 36, .inl (nA wc))), (b5, .inl (cI, 36, .inl (nA wt)))]) (wr := []) (rest := []) [0, 1, 2, 3, 4, 5] [] hP hD hS hA rfl rfl (by decide) (by decide) (rn_V E (As := [.int (nI pi), .int (nI (pop 64 ((lowb left) - 1)))]) m_TS_reach km_TS_86 (c_TS_reach l D cI cL a b1 b2 b3 b4 b5 pi op ln md fd re pa wo wc wt pi (pop 64 ((lowb left) - 1)) (by omega) (by omega) _) ⟨rfl, rfl, by dsimp only; omega, by dsimp only; omega⟩ (hP.sub [0, 1, 2, 3, 4, 5] rfl) (hD.sub [0, 1, 2, 3, 4, 5] (by decide) rfl) (q0 := 0) (ci := 3) rfl rfl rfl hl.1 rfl (Nat.le_of_ble_eq_true rfl) ⟨Nat.le_of_ble_eq_true rfl, Nat.le_of_ble_eq_true rfl⟩ d_TS_listWaysOn_63) (fun r_5 u_4 H locs hw hP hD hS => ?_)
      obtain ⟨rfl, rfl⟩ := hw
      have hP : va_P D classes [(a, .inr (3, [.ref b1, .ref b2, .ref b3, .ref b4, .ref b5, .int (nI pi), .long (lN op), .int (nI ln), .int (nI md), .int (nI fd)])), (b1, .inl (cL, 108, .inr (.inl (lA re)))), (b2, .inl (cI, 36, .inl (nA pa))), (b3, .inl (cI, 288, .inl (nA wo))), (b4, .inl (cI, 36, .inl (nA wc))), (b5, .inl (cI, 36, .inl (nA wt)))] H := hP
      have hD : va_D A [(a, .inr (3, [.ref b1, .ref b2, .ref b3, .ref b4, .ref b5, .int (nI pi), .long (lN op), .int (nI ln), .int (nI md), .int (nI fd)])), (b1, .inl (cL, 108, .inr (.inl (lA re)))), (b2, .inl (cI, 36, .inl (nA pa))), (b3, .inl (cI, 288, .inl (nA wo))), (b4, .inl (cI, 36, .inl (nA wc))), (b5, .inl (cI, 36, .inl (nA wt)))] := hD
      refine lv_aload_n hx hb d_TS_listWaysOn_66 rfl (lv_at hl 3 rfl) ?_
      refine va_get (D := D) (ci := 3) (v := .long (lN op)) (C := R_TS) (T := F_TS) (N := 10) hx hb ho j_TS hown hK hP 0 rfl rfl 6 (by decide) (ho _ kf_TS_64) (fun _ h9 => h9) rfl d_TS_listWaysOn_67 ?_
      refine nr_land hx hb d_TS_listWaysOn_70 ?_
      refine af_i (wc := []) (wr := [(a, .inr (3, [.ref b1, .ref b2, .ref b3, .ref b4, .ref b5, .int (nI pi), .long (lN op), .int (nI ln), .int (nI md), .int (nI fd)])), (b1, .inl (cL, 108, .inr (.inl (lA re)))), (b2, .inl (cI, 36, .inl (nA pa))), (b3, .inl (cI, 288, .inl (nA wo))), (b4, .inl (cI, 36, .inl (nA wc))), (b5, .inl (cI, 36, .inl (nA wt)))]) (rest := []) [] [0, 1, 2, 3, 4, 5] hP hD hS hA rfl rfl (by decide) (by decide) (rn_S E (As := [.long (lN ((re (pi * 36 + (pop 64 ((lowb left) - 1)))) &&& op))]) m_LG_bitCount km_TS_95 (c_LG_bitCount l D cI cL ((re (pi * 36 + (pop 64 ((lowb left) - 1)))) &&& op) (by omega) _) ⟨rfl, rfl, Nat.le_of_ble_eq_true rfl, Nat.le_of_ble_eq_true rfl⟩ (hP.sub [] rfl) (hD.sub [] (by decide) rfl) rfl hl.1 rfl (Nat.le_of_ble_eq_true rfl) ⟨Nat.le_of_ble_eq_true rfl, Nat.le_of_ble_eq_true rfl⟩ d_TS_listWaysOn_71) (fun r_7 u_6 H locs hw hP hD hS => ?_)
      obtain ⟨rfl, rfl⟩ := hw
      have hP : va_P D classes [(a, .inr (3, [.ref b1, .ref b2, .ref b3, .ref b4, .ref b5, .int (nI pi), .long (lN op), .int (nI ln), .int (nI md), .int (nI fd)])), (b1, .inl (cL, 108, .inr (.inl (lA re)))), (b2, .inl (cI, 36, .inl (nA pa))), (b3, .inl (cI, 288, .inl (nA wo))), (b4, .inl (cI, 36, .inl (nA wc))), (b5, .inl (cI, 36, .inl (nA wt)))] H := hP
      have hD : va_D A [(a, .inr (3, [.ref b1, .ref b2, .ref b3, .ref b4, .ref b5, .int (nI pi), .long (lN op), .int (nI ln), .int (nI md), .int (nI fd)])), (b1, .inl (cL, 108, .inr (.inl (lA re)))), (b2, .inl (cI, 36, .inl (nA pa))), (b3, .inl (cI, 288, .inl (nA wo))), (b4, .inl (cI, 36, .inl (nA wc))), (b5, .inl (cI, 36, .inl (nA wt)))] := hD
      refine lv_bipush (v := nI 36) hx hb d_TS_listWaysOn_74 (by decide) ?_
      refine nr_imul hx hb d_TS_listWaysOn_76 ?_
      refine lv_iload hx hb d_TS_listWaysOn_77 (lv_at hl 0 rfl) ?_
      refine nr_iadd hx hb d_TS_listWaysOn_79 ?_
      refine lv_istore (lv' := [(10, .int (nI (((pop 64 ((re (pi * 36 + (pop 64 ((lowb left) - 1)))) &&& op)) * 36) + (pop 64 ((lowb left) - 1))))), (9, .int (nI (pop 64 ((lowb left) - 1)))), (3, .long (lN (left ^^^ (lowb left)))), (7, .long (lN (lowb left))), (0, .ref a), (1, .int (nI cc0)), (2, .int (nI fr)), (5, .int (nI many)), (6, .int (nI i))]) hx hb d_TS_listWaysOn_80 hl (by decide) rfl (fun ls hl => ?_)
      refine lv_aload_n hx hb d_TS_listWaysOn_82 rfl (lv_at hl 4 rfl) ?_
      refine lv_iload hx hb d_TS_listWaysOn_83 (lv_at hl 0 rfl) ?_
      refine lv_iload_n hx hb d_TS_listWaysOn_85 rfl (lv_at hl 6 rfl) ?_
      refine lv_iload hx hb d_TS_listWaysOn_86 (lv_at hl 8 rfl) ?_
      refine af_v (wc := [(a, .inr (3, [.ref b1, .ref b2, .ref b3, .ref b4, .ref b5, .int (nI pi), .long (lN op), .int (nI ln), .int (nI md), .int (nI fd)])), (b1, .inl (cL, 108, .inr (.inl (lA re)))), (b2, .inl (cI, 36, .inl (nA pa))), (b3, .inl (cI, 288, .inl (nA wo))), (b4, .inl (cI, 36, .inl (nA wc))), (b5, .inl (cI, 36, .inl (nA wt)))]) (wr := []) (rest := []) [0, 1, 2, 3, 4, 5] [] hP hD hS hA rfl rfl (by decide) (by decide) (rn_V E (As := [.int (nI (((pop 64 ((re (pi * 36 + (pop 64 ((lowb left) - 1)))) &&& op)) * 36) + (pop 64 ((lowb left) - 1)))), .int (nI fr), .int (nI i)]) m_TS_insertWayOn km_TS_104 (c_TS_insert l D cI cL a b1 b2 b3 b4 b5 pi op ln md fd re pa wo wc wt (((pop 64 ((re (pi * 36 + (pop 64 ((lowb left) - 1)))) &&& op)) * 36) + (pop 64 ((lowb left) - 1))) fr i (by omega) (by omega) hwo _) ⟨rfl, rfl, by dsimp only; omega, by dsimp only; omega⟩ (hP.sub [0, 1, 2, 3, 4, 5] rfl) (hD.sub [0, 1, 2, 3, 4, 5] (by decide) rfl) (q0 := 0) (ci := 3) rfl rfl rfl hl.1 rfl (Nat.le_of_ble_eq_true rfl) ⟨Nat.le_of_ble_eq_true rfl, Nat.le_of_ble_eq_true rfl⟩ d_TS_listWaysOn_88) (fun u_8 H locs hw hP hD hS => ?_)
      obtain rfl := hw
      have hP : va_P D classes [(a, .inr (3, [.ref b1, .ref b2, .ref b3, .ref b4, .ref b5, .int (nI pi), .long (lN op), .int (nI ln), .int (nI md), .int (nI fd)])), (b1, .inl (cL, 108, .inr (.inl (lA re)))), (b2, .inl (cI, 36, .inl (nA pa))), (b3, .inl (cI, 288, .inl (nA (iW (((pop 64 ((re (pi * 36 + (pop 64 ((lowb left) - 1)))) &&& op)) * 36) + (pop 64 ((lowb left) - 1))) fr (i + 1) (fr + i) wo)))), (b4, .inl (cI, 36, .inl (nA wc))), (b5, .inl (cI, 36, .inl (nA wt)))] H := hP
      have hD : va_D A [(a, .inr (3, [.ref b1, .ref b2, .ref b3, .ref b4, .ref b5, .int (nI pi), .long (lN op), .int (nI ln), .int (nI md), .int (nI fd)])), (b1, .inl (cL, 108, .inr (.inl (lA re)))), (b2, .inl (cI, 36, .inl (nA pa))), (b3, .inl (cI, 288, .inl (nA (iW (((pop 64 ((re (pi * 36 + (pop 64 ((lowb left) - 1)))) &&& op)) * 36) + (pop 64 ((lowb left) - 1))) fr (i + 1) (fr + i) wo)))), (b4, .inl (cI, 36, .inl (nA wc))), (b5, .inl (cI, 36, .inl (nA wt)))] := hD
      refine nr_iinc (lv' := [(6, .int (nI (i + 1))), (10, .int (nI (((pop 64 ((re (pi * 36 + (pop 64 ((lowb left) - 1)))) &&& op)) * 36) + (pop 64 ((lowb left) - 1))))), (9, .int (nI (pop 64 ((lowb left) - 1)))), (3, .long (lN (left ^^^ (lowb left)))), (7, .long (lN (lowb left))), (0, .ref a), (1, .int (nI cc0)), (2, .int (nI fr)), (5, .int (nI many))]) hx hb d_TS_listWaysOn_91 hl (k := 8) rfl (by decide) rfl (fun ls hl => ?_)
      refine lv_goto (tgt := 29) hx hb d_TS_listWaysOn_94 (by decide) ?_
      exact ih (i + 1) (left ^^^ lowb left) (iW (((pop 64 ((re (pi * 36 + (pop 64 ((lowb left) - 1)))) &&& op)) * 36) + (pop 64 ((lowb left) - 1))) fr (i + 1) (fr + i) wo) (by omega) (by omega) hlt (by omega) (iW_lt (by omega) _ _ _ hwo) (by rw [lW, if_pos (by omega)] at hq; exact hq) _ _ hP hD hS ls (lv_sub hl [5, 6, 7, 3, 8, 0] rfl)
abbrev tLf (pi op : Nat) (re : Nat → Nat) (c0 : Nat) : Nat := re (pi * 36 + c0) &&& op
abbrev tMn (pi op : Nat) (re : Nat → Nat) (c0 : Nat) : Nat := min 8 (pop 64 (tLf pi op re c0))
def tLs (pi op : Nat) (re : Nat → Nat) (fr c0 : Nat) (wo : Nat → Nat) : Nat → Nat := lW pi op re fr (tMn pi op re c0) 9 0 (tLf pi op re c0) wo
set_option maxHeartbeats 1000000 in
set_option maxRecDepth 100000 in
theorem c_TS_list (l : Launch) (D : va_G) (cI cL : ClassId) (a b1 b2 b3 b4 b5 pi op ln md fd : Nat) (re pa wo wc wt : Nat → Nat) (c0 fr : Nat) (hc : c0 < 36) (hpi : pi < 3) (hop : op < 2 ^ 36) (hre : ∀ i, re i < 2 ^ 36) (hfr : fr + 8 ≤ 288) (hwo : ∀ j, wo j < 4000) : CI l y_TS_listWaysOn (.code y_TS_listWaysOn b_TS_listWaysOn 11 (some .int) :: Om) { frames := 2, cells := 0, slots := 0, locals := 42 } D [(a, .inr (3, [.ref b1, .ref b2, .ref b3, .ref b4, .ref b5, .int (nI pi), .long (lN op), .int (nI ln), .int (nI md), .int (nI fd)])), (b1, .inl (cL, 108, .inr (.inl (lA re)))), (b2, .inl (cI, 36, .inl (nA pa))), (b3, .inl (cI, 288, .inl (nA wo))), (b4, .inl (cI, 36, .inl (nA wc))), (b5, .inl (cI, 36, .inl (nA wt)))] [(cI, .int), (cL, .long)] [.ref a, .int (nI c0), .int (nI fr)] (fun r u => r = nI (tMn pi op re c0) ∧ u = [(a, .inr (3, [.ref b1, .ref b2, .ref b3, .ref b4, .ref b5, .int (nI pi), .long (lN op), .int (nI ln), .int (nI md), .int (nI fd)])), (b1, .inl (cL, 108, .inr (.inl (lA re)))), (b2, .inl (cI, 36, .inl (nA pa))), (b3, .inl (cI, 288, .inl (nA (tLs pi op re fr c0 wo)))), (b4, .inl (cI, 36, .inl (nA wc))), (b5, .inl (cI, 36, .inl (nA wt)))]) := by
  refine en_of (cc := b_TS_listWaysOn) (Qc := qI D [(cI, .int), (cL, .long)] (fun r u => r = nI (tMn pi op re c0) ∧ u = [(a, .inr (3, [.ref b1, .ref b2, .ref b3, .ref b4, .ref b5, .int (nI pi), .long (lN op), .int (nI ln), .int (nI md), .int (nI fd)])), (b1, .inl (cL, 108, .inr (.inl (lA re)))), (b2, .inl (cI, 36, .inl (nA pa))), (b3, .inl (cI, 288, .inl (nA (tLs pi op re fr c0 wo)))), (b4, .inl (cI, 36, .inl (nA wc))), (b5, .inl (cI, 36, .inl (nA wt)))])) (by decide) rfl (Nat.le_of_ble_eq_true rfl) ?_
  intro p e s m below meth c A E hnm hP hD hS ls hl
  have hl : lv_has ls 11 [(0, .ref a), (1, .int (nI c0)), (2, .int (nI fr))] := hl
  obtain ⟨hx, hb, hml, hown, hts, hr, hlk, hA, hK, hN⟩ := id E
  have ho : ∀ q ∈ Om, q.before _ s = true := fun q h => hts q (List.mem_cons_of_mem _ h)
  have ha8 : re (pi * 36 + c0) &&& op < 2 ^ 36 := Nat.and_lt_two_pow _ hop
  have hp8 := pop_le 64 (re (pi * 36 + c0) &&& op)
  have hmn : tMn pi op re c0 = min 8 (pop 64 (re (pi * 36 + c0) &&& op)) := rfl
  refine lv_aload_n hx hb d_TS_listWaysOn_0 rfl (lv_at hl 0 rfl) ?_
  refine lv_aload_n hx hb d_TS_listWaysOn_1 rfl (lv_at hl 0 rfl) ?_
  refine va_get (D := D) (ci := 3) (v := .int (nI pi)) (C := R_TS) (T := F_TS) (N := 10) hx hb ho j_TS hown hK hP 0 rfl rfl 5 (by decide) (ho _ kf_TS_61) (fun _ h9 => h9) rfl d_TS_listWaysOn_2 ?_
  refine lv_iload_n hx hb d_TS_listWaysOn_5 rfl (lv_at hl 1 rfl) ?_
  refine af_l (wc := [(a, .inr (3, [.ref b1, .ref b2, .ref b3, .ref b4, .ref b5, .int (nI pi), .long (lN op), .int (nI ln), .int (nI md), .int (nI fd)])), (b1, .inl (cL, 108, .inr (.inl (lA re)))), (b2, .inl (cI, 36, .inl (nA pa))), (b3, .inl (cI, 288, .inl (nA wo))), (b4, .inl (cI, 36, .inl (nA wc))), (b5, .inl (cI, 36, .inl (nA wt)))]) (wr := []) (rest := []) [0, 1, 2, 3, 4, 5] [] hP hD hS hA rfl rfl (by decide) (by decide) (rn_V E (As := [.int (nI pi), .int (nI c0)]) m_TS_reach km_TS_86 (c_TS_reach l D cI cL a b1 b2 b3 b4 b5 pi op ln md fd re pa wo wc wt pi c0 (by omega) (by omega) _) ⟨rfl, rfl, by dsimp only; omega, by dsimp only; omega⟩ (hP.sub [0, 1, 2, 3, 4, 5] rfl) (hD.sub [0, 1, 2, 3, 4, 5] (by decide) rfl) (q0 := 0) (ci := 3) rfl rfl rfl hl.1 rfl (Nat.le_of_ble_eq_true rfl) ⟨Nat.le_of_ble_eq_true rfl, Nat.le_of_ble_eq_true rfl⟩ d_TS_listWaysOn_6) (fun r_2 u_1 H locs hw hP hD hS => ?_)
  obtain ⟨rfl, rfl⟩ := hw
  have hP : va_P D classes [(a, .inr (3, [.ref b1, .ref b2, .ref b3, .ref b4, .ref b5, .int (nI pi), .long (lN op), .int (nI ln), .int (nI md), .int (nI fd)])), (b1, .inl (cL, 108, .inr (.inl (lA re)))), (b2, .inl (cI, 36, .inl (nA pa))), (b3, .inl (cI, 288, .inl (nA wo))), (b4, .inl (cI, 36, .inl (nA wc))), (b5, .inl (cI, 36, .inl (nA wt)))] H := hP
  have hD : va_D A [(a, .inr (3, [.ref b1, .ref b2, .ref b3, .ref b4, .ref b5, .int (nI pi), .long (lN op), .int (nI ln), .int (nI md), .int (nI fd)])), (b1, .inl (cL, 108, .inr (.inl (lA re)))), (b2, .inl (cI, 36, .inl (nA pa))), (b3, .inl (cI, 288, .inl (nA wo))), (b4, .inl (cI, 36, .inl (nA wc))), (b5, .inl (cI, 36, .inl (nA wt)))] := hD
  refine lv_aload_n hx hb d_TS_listWaysOn_9 rfl (lv_at hl 0 rfl) ?_
  refine va_get (D := D) (ci := 3) (v := .long (lN op)) (C := R_TS) (T := F_TS) (N := 10) hx hb ho j_TS hown hK hP 0 rfl rfl 6 (by decide) (ho _ kf_TS_64) (fun _ h9 => h9) rfl d_TS_listWaysOn_10 ?_
  refine nr_land hx hb d_TS_listWaysOn_13 ?_
  refine lv_lstore_n (lv' := [(3, .long (lN ((re (pi * 36 + c0)) &&& op))), (0, .ref a), (1, .int (nI c0)), (2, .int (nI fr))]) hx hb d_TS_listWaysOn_14 rfl hl (by decide) rfl (fun ls hl => ?_)
  refine lv_bipush (v := nI 8) hx hb d_TS_listWaysOn_15 (by decide) ?_
  refine lv_lload_n hx hb d_TS_listWaysOn_17 rfl (lv_at hl 0 rfl) ?_
  refine af_i (wc := []) (wr := [(a, .inr (3, [.ref b1, .ref b2, .ref b3, .ref b4, .ref b5, .int (nI pi), .long (lN op), .int (nI ln), .int (nI md), .int (nI fd)])), (b1, .inl (cL, 108, .inr (.inl (lA re)))), (b2, .inl (cI, 36, .inl (nA pa))), (b3, .inl (cI, 288, .inl (nA wo))), (b4, .inl (cI, 36, .inl (nA wc))), (b5, .inl (cI, 36, .inl (nA wt)))]) (rest := [.int (nI 8)]) [] [0, 1, 2, 3, 4, 5] hP hD hS hA rfl rfl (by decide) (by decide) (rn_S E (As := [.long (lN ((re (pi * 36 + c0)) &&& op))]) m_LG_bitCount km_TS_95 (c_LG_bitCount l D cI cL ((re (pi * 36 + c0)) &&& op) (by omega) _) ⟨rfl, rfl, Nat.le_of_ble_eq_true rfl, Nat.le_of_ble_eq_true rfl⟩ (hP.sub [] rfl) (hD.sub [] (by decide) rfl) rfl hl.1 rfl (Nat.le_of_ble_eq_true rfl) ⟨Nat.le_of_ble_eq_true rfl, Nat.le_of_ble_eq_true rfl⟩ d_TS_listWaysOn_18) (fun r_4 u_3 H locs hw hP hD hS => ?_)
  obtain ⟨rfl, rfl⟩ := hw
  have hP : va_P D classes [(a, .inr (3, [.ref b1, .ref b2, .ref b3, .ref b4, .ref b5, .int (nI pi), .long (lN op), .int (nI ln), .int (nI md), .int (nI fd)])), (b1, .inl (cL, 108, .inr (.inl (lA re)))), (b2, .inl (cI, 36, .inl (nA pa))), (b3, .inl (cI, 288, .inl (nA wo))), (b4, .inl (cI, 36, .inl (nA wc))), (b5, .inl (cI, 36, .inl (nA wt)))] H := hP
  have hD : va_D A [(a, .inr (3, [.ref b1, .ref b2, .ref b3, .ref b4, .ref b5, .int (nI pi), .long (lN op), .int (nI ln), .int (nI md), .int (nI fd)])), (b1, .inl (cL, 108, .inr (.inl (lA re)))), (b2, .inl (cI, 36, .inl (nA pa))), (b3, .inl (cI, 288, .inl (nA wo))), (b4, .inl (cI, 36, .inl (nA wc))), (b5, .inl (cI, 36, .inl (nA wt)))] := hD
  refine va_mmin hx hb (hml.trans hl.1.symm) hown (ho _ km_TS_101) (ho _ kq_min.1) (ho _ kz_MT) (ho _ kq_min.2) (Nat.le_of_ble_eq_true rfl) (Nat.le_of_ble_eq_true rfl) (Nat.zero_le _) (Nat.zero_le _) d_TS_listWaysOn_21 ?_
  rw [nI_min (a := 8) (b := pop 64 ((re (pi * 36 + c0)) &&& op)) (by omega) (by omega)]
  refine lv_istore (lv' := [(5, .int (nI (min 8 (pop 64 ((re (pi * 36 + c0)) &&& op))))), (3, .long (lN ((re (pi * 36 + c0)) &&& op))), (0, .ref a), (1, .int (nI c0)), (2, .int (nI fr))]) hx hb d_TS_listWaysOn_24 hl (by decide) rfl (fun ls hl => ?_)
  refine lv_iconst (v := nI 0) hx hb d_TS_listWaysOn_26 (by decide) ?_
  refine lv_istore (lv' := [(6, .int (nI 0)), (5, .int (nI (min 8 (pop 64 ((re (pi * 36 + c0)) &&& op))))), (3, .long (lN ((re (pi * 36 + c0)) &&& op))), (0, .ref a), (1, .int (nI c0)), (2, .int (nI fr))]) hx hb d_TS_listWaysOn_27 hl (by decide) rfl (fun ls hl => ?_)
  exact L_TS_list a b1 b2 b3 b4 b5 pi op ln md fd re pa wc wt c0 fr (tMn pi op re c0) hpi hop hre hfr (by omega) E 9 0 (re (pi * 36 + c0) &&& op) wo (by omega) (by omega) ha8 (by omega) hwo ⟨rfl, rfl⟩ _ _ hP hD hS ls (lv_sub hl [3, 4, 5, 2, 1, 0] rfl)
abbrev T7 : Type := (Nat → Nat) × (Nat → Nat) × (Nat → Nat) × (Nat → Nat) × Nat × Nat × Nat
abbrev tOp (op c0 : Nat) : Nat := op &&& (2 ^ c0 ^^^ 18446744073709551615)
/-- a cell is come to -/
def tEn (pi : Nat) (re : Nat → Nat) (c0 : Nat) (st : T7) : T7 := if st.2.2.2.2.2.1 < 36 then (va_up st.1 st.2.2.2.2.2.1 c0, tLs pi (tOp st.2.2.2.2.1 c0) re (st.2.2.2.2.2.1 * 8) c0 st.2.1, va_up st.2.2.1 st.2.2.2.2.2.1 (tMn pi (tOp st.2.2.2.2.1 c0) re c0), va_up st.2.2.2.1 st.2.2.2.2.2.1 0, tOp st.2.2.2.2.1 c0, st.2.2.2.2.2.1 + 1, st.2.2.2.2.2.2) else st
theorem tEn_in {pi : Nat} {re : Nat → Nat} {c0 : Nat} {st : T7} (h : st.2.2.2.2.2.1 < 36) : tEn pi re c0 st = (va_up st.1 st.2.2.2.2.2.1 c0, tLs pi (tOp st.2.2.2.2.1 c0) re (st.2.2.2.2.2.1 * 8) c0 st.2.1, va_up st.2.2.1 st.2.2.2.2.2.1 (tMn pi (tOp st.2.2.2.2.1 c0) re c0), va_up st.2.2.2.1 st.2.2.2.2.2.1 0, tOp st.2.2.2.2.1 c0, st.2.2.2.2.2.1 + 1, st.2.2.2.2.2.2) := if_pos h
theorem tEn_out {pi : Nat} {re : Nat → Nat} {c0 : Nat} {st : T7} (h : ¬ st.2.2.2.2.2.1 < 36) : tEn pi re c0 st = st := if_neg h
abbrev tBk (st : T7) : T7 := (st.1, st.2.1, st.2.2.1, st.2.2.2.1, st.2.2.2.2.1 ||| 2 ^ st.1 (st.2.2.2.2.2.1 - 1), st.2.2.2.2.2.1 - 1, st.2.2.2.2.2.2)
abbrev J7 (st : T7) : Prop := (∀ k, st.1 k < 36) ∧ (∀ k, st.2.1 k < 4000) ∧ (∀ k, st.2.2.1 k ≤ 8) ∧ (∀ k, st.2.2.2.1 k ≤ 8) ∧ st.2.2.2.2.1 < 2 ^ 36 ∧ st.2.2.2.2.2.1 ≤ 36 ∧ st.2.2.2.2.2.2 ≤ 100000
theorem j7_mk (pa wo wc wt : Nat → Nat) (op ln md : Nat) (h1 : ∀ k, pa k < 36) (h2 : ∀ k, wo k < 4000) (h3 : ∀ k, wc k ≤ 8) (h4 : ∀ k, wt k ≤ 8) (h5 : op < 2 ^ 36) (h6 : ln ≤ 36) (h7 : md ≤ 100000) : J7 (pa, wo, wc, wt, op, ln, md) := ⟨h1, h2, h3, h4, h5, h6, h7⟩
theorem up_le {f : Nat → Nat} {i x b : Nat} (h : ∀ k, f k ≤ b) (hx : x ≤ b) : ∀ k, va_up f i x k ≤ b := fun k => by
  unfold va_up
  split
  · exact hx
  · exact h k
theorem tOp_lt {op c0 : Nat} (h : op < 2 ^ 36) : tOp op c0 < 2 ^ 36 := Nat.lt_of_le_of_lt Nat.and_le_left h
theorem tLs_lt {pi op : Nat} {re : Nat → Nat} {fr c0 : Nat} {wo : Nat → Nat} (h : op < 2 ^ 36) (hw : ∀ j, wo j < 4000) : ∀ j, tLs pi op re fr c0 wo j < 4000 := by
  have h1 : tLf pi op re c0 < 2 ^ 36 := Nat.and_lt_two_pow (n := 36) _ h
  have h2 : tMn pi op re c0 ≤ 0 + pop 64 (tLf pi op re c0) := by rw [Nat.zero_add]; exact Nat.min_le_right _ _
  unfold tLs
  exact lW_lt 9 0 (tLf pi op re c0) wo h1 h2 hw
theorem tMn_le {pi op : Nat} {re : Nat → Nat} {c0 : Nat} : tMn pi op re c0 ≤ 8 := Nat.min_le_left _ _
theorem j7_en {pi : Nat} {re : Nat → Nat} {c0 : Nat} {st : T7} (hc : c0 < 36) (h : J7 st) : J7 (tEn pi re c0 st) := by
  obtain ⟨h1, h2, h3, h4, h5, h6, h7⟩ := h
  by_cases h : st.2.2.2.2.2.1 < 36
  · rw [tEn_in h]
    have a2 := tLs_lt (pi := pi) (re := re) (fr := st.2.2.2.2.2.1 * 8) (c0 := c0) (tOp_lt (c0 := c0) h5) h2
    have a3 := up_le (i := st.2.2.2.2.2.1) h3 (tMn_le (pi := pi) (op := tOp st.2.2.2.2.1 c0) (re := re) (c0 := c0))
    exact j7_mk (va_up st.1 st.2.2.2.2.2.1 c0) (tLs pi (tOp st.2.2.2.2.1 c0) re (st.2.2.2.2.2.1 * 8) c0 st.2.1) (va_up st.2.2.1 st.2.2.2.2.2.1 (tMn pi (tOp st.2.2.2.2.1 c0) re c0)) (va_up st.2.2.2.1 st.2.2.2.2.2.1 0) (tOp st.2.2.2.2.1 c0) (st.2.2.2.2.2.1 + 1) st.2.2.2.2.2.2 (up_lt h1 hc) a2 a3 (up_le h4 (Nat.zero_le _)) (tOp_lt h5) (Nat.succ_le_of_lt h) h7
  · rw [tEn_out h]
    exact ⟨h1, h2, h3, h4, h5, h6, h7⟩
theorem j7_bk {st : T7} (h : J7 st) : J7 (tBk st) := by
  obtain ⟨h1, h2, h3, h4, h5, h6, h7⟩ := h
  exact ⟨h1, h2, h3, h4, Nat.or_lt_two_pow (n := 36) h5 (Nat.pow_lt_pow_right (by decide) (h1 _)), Nat.le_trans (Nat.sub_le _ _) h6, h7⟩
theorem j7_nt {st : T7} (h : J7 st) : J7 (st.1, st.2.1, st.2.2.1, tNt st.2.2.2.2.2.1 st.2.2.1 st.2.2.2.1, st.2.2.2.2.1, st.2.2.2.2.2.1, st.2.2.2.2.2.2) := by
  obtain ⟨h1, h2, h3, h4, h5, h6, h7⟩ := h
  refine ⟨h1, h2, h3, ?_, h5, h6, h7⟩
  dsimp only
  unfold tNt
  split
  · exact up_le h4 (by omega)
  · exact h4
set_option maxHeartbeats 1000000 in
set_option maxRecDepth 100000 in
theorem c_TS_enterIn (l : Launch) (D : va_G) (cI cL : ClassId) (a b1 b2 b3 b4 b5 pi fd : Nat) (re : Nat → Nat) (c0 : Nat) (hc : c0 < 36) (hpi : pi < 3) (hre : ∀ i, re i < 2 ^ 36) (st : T7) (hj : J7 st) (hlt : st.2.2.2.2.2.1 < 36) : CV l y_TS_enter (.code y_TS_enter b_TS_enter 2 none :: Om) { frames := 3, cells := 0, slots := 0, locals := 72 } D [(a, .inr (3, [.ref b1, .ref b2, .ref b3, .ref b4, .ref b5, .int (nI pi), .long (lN st.2.2.2.2.1), .int (nI st.2.2.2.2.2.1), .int (nI st.2.2.2.2.2.2), .int (nI fd)])), (b1, .inl (cL, 108, .inr (.inl (lA re)))), (b2, .inl (cI, 36, .inl (nA st.1))), (b3, .inl (cI, 288, .inl (nA st.2.1))), (b4, .inl (cI, 36, .inl (nA st.2.2.1))), (b5, .inl (cI, 36, .inl (nA st.2.2.2.1)))] [(cI, .int), (cL, .long)] [.ref a, .int (nI c0)] (fun u => u = [(a, .inr (3, [.ref b1, .ref b2, .ref b3, .ref b4, .ref b5, .int (nI pi), .long (lN ((tEn pi re c0 st).2.2.2.2.1)), .int (nI ((tEn pi re c0 st).2.2.2.2.2.1)), .int (nI ((tEn pi re c0 st).2.2.2.2.2.2)), .int (nI fd)])), (b1, .inl (cL, 108, .inr (.inl (lA re)))), (b2, .inl (cI, 36, .inl (nA ((tEn pi re c0 st).1)))), (b3, .inl (cI, 288, .inl (nA ((tEn pi re c0 st).2.1)))), (b4, .inl (cI, 36, .inl (nA ((tEn pi re c0 st).2.2.1)))), (b5, .inl (cI, 36, .inl (nA ((tEn pi re c0 st).2.2.2.1))))]) := by
  refine en_of (cc := b_TS_enter) (Qc := qV D [(cI, .int), (cL, .long)] (fun u => u = [(a, .inr (3, [.ref b1, .ref b2, .ref b3, .ref b4, .ref b5, .int (nI pi), .long (lN ((tEn pi re c0 st).2.2.2.2.1)), .int (nI ((tEn pi re c0 st).2.2.2.2.2.1)), .int (nI ((tEn pi re c0 st).2.2.2.2.2.2)), .int (nI fd)])), (b1, .inl (cL, 108, .inr (.inl (lA re)))), (b2, .inl (cI, 36, .inl (nA ((tEn pi re c0 st).1)))), (b3, .inl (cI, 288, .inl (nA ((tEn pi re c0 st).2.1)))), (b4, .inl (cI, 36, .inl (nA ((tEn pi re c0 st).2.2.1)))), (b5, .inl (cI, 36, .inl (nA ((tEn pi re c0 st).2.2.2.1))))])) (by decide) rfl (Nat.le_of_ble_eq_true rfl) ?_
  intro p e s m below meth c A E hnm hP hD hS ls hl
  have hl : lv_has ls 2 [(0, .ref a), (1, .int (nI c0))] := hl
  obtain ⟨hx, hb, hml, hown, hts, hr, hlk, hA, hK, hN⟩ := id E
  have ho : ∀ q ∈ Om, q.before _ s = true := fun q h => hts q (List.mem_cons_of_mem _ h)
  have hop2 : tOp st.2.2.2.2.1 c0 < 2 ^ 36 := tOp_lt hj.2.2.2.2.1
  have hwo := hj.2.1
  refine lv_aload_n hx hb d_TS_enter_0 rfl (lv_at hl 0 rfl) ?_
  refine va_get (D := D) (ci := 3) (v := .int (nI st.2.2.2.2.2.1)) (C := R_TS) (T := F_TS) (N := 10) hx hb ho j_TS hown hK hP 0 rfl rfl 7 (by decide) (ho _ kf_TS_68) (fun _ h9 => h9) rfl d_TS_enter_1 ?_
  refine nr_if_lt (tgt := 16) hx hb d_TS_enter_4 (by decide) (by omega) ?_
  refine lv_aload_n hx hb d_TS_enter_7 rfl (lv_at hl 0 rfl) ?_
  refine va_get (D := D) (ci := 3) (v := .int (nI st.2.2.2.2.2.1)) (C := R_TS) (T := F_TS) (N := 10) hx hb ho j_TS hown hK hP 0 rfl rfl 7 (by decide) (ho _ kf_TS_68) (fun _ h9 => h9) rfl d_TS_enter_8 ?_
  refine lv_bipush (v := nI 36) hx hb d_TS_enter_11 (by decide) ?_
  refine nr_icmp_lt (tgt := 17) hx hb d_TS_enter_13 (by decide) (by omega) (by omega) (fun _ => ?_) (fun h9 => absurd h9 (by omega))
  refine lv_aload_n hx hb d_TS_enter_17 rfl (lv_at hl 0 rfl) ?_
  refine lv_dup hx hb d_TS_enter_18 rfl ?_
  refine va_get (D := D) (ci := 3) (v := .long (lN st.2.2.2.2.1)) (C := R_TS) (T := F_TS) (N := 10) hx hb ho j_TS hown hK hP 0 rfl rfl 6 (by decide) (ho _ kf_TS_64) (fun _ h9 => h9) rfl d_TS_enter_19 ?_
  refine lv_lconst (v := lN 1) hx hb d_TS_enter_22 rfl ?_
  refine lv_iload_n hx hb d_TS_enter_23 rfl (lv_at hl 1 rfl) ?_
  refine nr_lshl1 hx hb d_TS_enter_24 (by omega) ?_
  refine lv_ldc2 (v := lN 18446744073709551615) hx hb hown (ho _ kl_TS_90) d_TS_enter_25 ?_
  refine nr_lxor hx hb d_TS_enter_28 ?_
  refine nr_land hx hb d_TS_enter_29 ?_
  refine va_put (D := D) (ci := 3) (v := .long (lN (st.2.2.2.2.1 &&& ((2 ^ c0) ^^^ 18446744073709551615)))) (ty := .long) (C := R_TS) (T := F_TS) (N := 10) hx hb ho j_TS t_TS t_TS_ok n_TS hown hK hP hD hS 0 rfl rfl 6 (by decide) (ho _ kf_TS_64) (fun _ h9 => h9) rfl (by decide +kernel) rfl rfl (Nat.le_of_ble_eq_true rfl) d_TS_enter_30 (fun H locs hP hD hS => ?_)
  have hP : va_P D classes [(a, .inr (3, [.ref b1, .ref b2, .ref b3, .ref b4, .ref b5, .int (nI pi), .long (lN (st.2.2.2.2.1 &&& ((2 ^ c0) ^^^ 18446744073709551615))), .int (nI st.2.2.2.2.2.1), .int (nI st.2.2.2.2.2.2), .int (nI fd)])), (b1, .inl (cL, 108, .inr (.inl (lA re)))), (b2, .inl (cI, 36, .inl (nA st.1))), (b3, .inl (cI, 288, .inl (nA st.2.1))), (b4, .inl (cI, 36, .inl (nA st.2.2.1))), (b5, .inl (cI, 36, .inl (nA st.2.2.2.1)))] H := hP
  have hD : va_D A [(a, .inr (3, [.ref b1, .ref b2, .ref b3, .ref b4, .ref b5, .int (nI pi), .long (lN (st.2.2.2.2.1 &&& ((2 ^ c0) ^^^ 18446744073709551615))), .int (nI st.2.2.2.2.2.1), .int (nI st.2.2.2.2.2.2), .int (nI fd)])), (b1, .inl (cL, 108, .inr (.inl (lA re)))), (b2, .inl (cI, 36, .inl (nA st.1))), (b3, .inl (cI, 288, .inl (nA st.2.1))), (b4, .inl (cI, 36, .inl (nA st.2.2.1))), (b5, .inl (cI, 36, .inl (nA st.2.2.2.1)))] := hD
  refine lv_aload_n hx hb d_TS_enter_33 rfl (lv_at hl 0 rfl) ?_
  refine va_get (D := D) (ci := 3) (v := .ref b2) (C := R_TS) (T := F_TS) (N := 10) hx hb ho j_TS hown hK hP 0 rfl rfl 1 (by decide) (ho _ kf_TS_9) (fun _ h9 => h9) rfl d_TS_enter_34 ?_
  refine lv_aload_n hx hb d_TS_enter_37 rfl (lv_at hl 0 rfl) ?_
  refine va_get (D := D) (ci := 3) (v := .int (nI st.2.2.2.2.2.1)) (C := R_TS) (T := F_TS) (N := 10) hx hb ho j_TS hown hK hP 0 rfl rfl 7 (by decide) (ho _ kf_TS_68) (fun _ h9 => h9) rfl d_TS_enter_38 ?_
  refine lv_iload_n hx hb d_TS_enter_41 rfl (lv_at hl 1 rfl) ?_
  refine nr_iast hx hb hK hP hD hS 2 0 rfl rfl (i := st.2.2.2.2.2.1) (x := c0) (by omega) (by decide) d_TS_enter_42 (fun H locs hP hD hS => ?_)
  have hP : va_P D classes [(a, .inr (3, [.ref b1, .ref b2, .ref b3, .ref b4, .ref b5, .int (nI pi), .long (lN (st.2.2.2.2.1 &&& ((2 ^ c0) ^^^ 18446744073709551615))), .int (nI st.2.2.2.2.2.1), .int (nI st.2.2.2.2.2.2), .int (nI fd)])), (b1, .inl (cL, 108, .inr (.inl (lA re)))), (b2, .inl (cI, 36, .inl (nA (va_up st.1 st.2.2.2.2.2.1 c0)))), (b3, .inl (cI, 288, .inl (nA st.2.1))), (b4, .inl (cI, 36, .inl (nA st.2.2.1))), (b5, .inl (cI, 36, .inl (nA st.2.2.2.1)))] H := hP
  have hD : va_D A [(a, .inr (3, [.ref b1, .ref b2, .ref b3, .ref b4, .ref b5, .int (nI pi), .long (lN (st.2.2.2.2.1 &&& ((2 ^ c0) ^^^ 18446744073709551615))), .int (nI st.2.2.2.2.2.1), .int (nI st.2.2.2.2.2.2), .int (nI fd)])), (b1, .inl (cL, 108, .inr (.inl (lA re)))), (b2, .inl (cI, 36, .inl (nA (va_up st.1 st.2.2.2.2.2.1 c0)))), (b3, .inl (cI, 288, .inl (nA st.2.1))), (b4, .inl (cI, 36, .inl (nA st.2.2.1))), (b5, .inl (cI, 36, .inl (nA st.2.2.2.1)))] := hD
  refine lv_aload_n hx hb d_TS_enter_43 rfl (lv_at hl 0 rfl) ?_
  refine va_get (D := D) (ci := 3) (v := .ref b5) (C := R_TS) (T := F_TS) (N := 10) hx hb ho j_TS hown hK hP 0 rfl rfl 4 (by decide) (ho _ kf_TS_21) (fun _ h9 => h9) rfl d_TS_enter_44 ?_
  refine lv_aload_n hx hb d_TS_enter_47 rfl (lv_at hl 0 rfl) ?_
  refine va_get (D := D) (ci := 3) (v := .int (nI st.2.2.2.2.2.1)) (C := R_TS) (T := F_TS) (N := 10) hx hb ho j_TS hown hK hP 0 rfl rfl 7 (by decide) (ho _ kf_TS_68) (fun _ h9 => h9) rfl d_TS_enter_48 ?_
  refine lv_iconst (v := nI 0) hx hb d_TS_enter_51 (by decide) ?_
  refine nr_iast hx hb hK hP hD hS 5 0 rfl rfl (i := st.2.2.2.2.2.1) (x := 0) (by omega) (by decide) d_TS_enter_52 (fun H locs hP hD hS => ?_)
  have hP : va_P D classes [(a, .inr (3, [.ref b1, .ref b2, .ref b3, .ref b4, .ref b5, .int (nI pi), .long (lN (st.2.2.2.2.1 &&& ((2 ^ c0) ^^^ 18446744073709551615))), .int (nI st.2.2.2.2.2.1), .int (nI st.2.2.2.2.2.2), .int (nI fd)])), (b1, .inl (cL, 108, .inr (.inl (lA re)))), (b2, .inl (cI, 36, .inl (nA (va_up st.1 st.2.2.2.2.2.1 c0)))), (b3, .inl (cI, 288, .inl (nA st.2.1))), (b4, .inl (cI, 36, .inl (nA st.2.2.1))), (b5, .inl (cI, 36, .inl (nA (va_up st.2.2.2.1 st.2.2.2.2.2.1 0))))] H := hP
  have hD : va_D A [(a, .inr (3, [.ref b1, .ref b2, .ref b3, .ref b4, .ref b5, .int (nI pi), .long (lN (st.2.2.2.2.1 &&& ((2 ^ c0) ^^^ 18446744073709551615))), .int (nI st.2.2.2.2.2.1), .int (nI st.2.2.2.2.2.2), .int (nI fd)])), (b1, .inl (cL, 108, .inr (.inl (lA re)))), (b2, .inl (cI, 36, .inl (nA (va_up st.1 st.2.2.2.2.2.1 c0)))), (b3, .inl (cI, 288, .inl (nA st.2.1))), (b4, .inl (cI, 36, .inl (nA st.2.2.1))), (b5, .inl (cI, 36, .inl (nA (va_up st.2.2.2.1 st.2.2.2.2.2.1 0))))] := hD
  refine lv_aload_n hx hb d_TS_enter_53 rfl (lv_at hl 0 rfl) ?_
  refine va_get (D := D) (ci := 3) (v := .ref b4) (C := R_TS) (T := F_TS) (N := 10) hx hb ho j_TS hown hK hP 0 rfl rfl 3 (by decide) (ho _ kf_TS_18) (fun _ h9 => h9) rfl d_TS_enter_54 ?_
  refine lv_aload_n hx hb d_TS_enter_57 rfl (lv_at hl 0 rfl) ?_
  refine va_get (D := D) (ci := 3) (v := .int (nI st.2.2.2.2.2.1)) (C := R_TS) (T := F_TS) (N := 10) hx hb ho j_TS hown hK hP 0 rfl rfl 7 (by decide) (ho _ kf_TS_68) (fun _ h9 => h9) rfl d_TS_enter_58 ?_
  refine lv_aload_n hx hb d_TS_enter_61 rfl (lv_at hl 0 rfl) ?_
  refine lv_iload_n hx hb d_TS_enter_62 rfl (lv_at hl 1 rfl) ?_
  refine lv_aload_n hx hb d_TS_enter_63 rfl (lv_at hl 0 rfl) ?_
  refine va_get (D := D) (ci := 3) (v := .int (nI st.2.2.2.2.2.1)) (C := R_TS) (T := F_TS) (N := 10) hx hb ho j_TS hown hK hP 0 rfl rfl 7 (by decide) (ho _ kf_TS_68) (fun _ h9 => h9) rfl d_TS_enter_64 ?_
  refine lv_bipush (v := nI 8) hx hb d_TS_enter_67 (by decide) ?_
  refine nr_imul hx hb d_TS_enter_69 ?_
  refine af_i (wc := [(a, .inr (3, [.ref b1, .ref b2, .ref b3, .ref b4, .ref b5, .int (nI pi), .long (lN (st.2.2.2.2.1 &&& ((2 ^ c0) ^^^ 18446744073709551615))), .int (nI st.2.2.2.2.2.1), .int (nI st.2.2.2.2.2.2), .int (nI fd)])), (b1, .inl (cL, 108, .inr (.inl (lA re)))), (b2, .inl (cI, 36, .inl (nA (va_up st.1 st.2.2.2.2.2.1 c0)))), (b3, .inl (cI, 288, .inl (nA st.2.1))), (b4, .inl (cI, 36, .inl (nA st.2.2.1))), (b5, .inl (cI, 36, .inl (nA (va_up st.2.2.2.1 st.2.2.2.2.2.1 0))))]) (wr := []) (rest := [.int (nI st.2.2.2.2.2.1), .ref b4]) [0, 1, 2, 3, 4, 5] [] hP hD hS hA rfl rfl (by decide) (by decide) (rn_V E (As := [.int (nI c0), .int (nI (st.2.2.2.2.2.1 * 8))]) m_TS_listWaysOn km_TS_92 (c_TS_list l D cI cL a b1 b2 b3 b4 b5 pi (st.2.2.2.2.1 &&& ((2 ^ c0) ^^^ 18446744073709551615)) st.2.2.2.2.2.1 st.2.2.2.2.2.2 fd re (va_up st.1 st.2.2.2.2.2.1 c0) st.2.1 st.2.2.1 (va_up st.2.2.2.1 st.2.2.2.2.2.1 0) c0 (st.2.2.2.2.2.1 * 8) (by omega) hpi hop2 hre (by omega) hwo _) ⟨rfl, rfl, by dsimp only; omega, by dsimp only; omega⟩ (hP.sub [0, 1, 2, 3, 4, 5] rfl) (hD.sub [0, 1, 2, 3, 4, 5] (by decide) rfl) (q0 := 0) (ci := 3) rfl rfl rfl hl.1 rfl (Nat.le_of_ble_eq_true rfl) ⟨Nat.le_of_ble_eq_true rfl, Nat.le_of_ble_eq_true rfl⟩ d_TS_enter_70) (fun r_2 u_1 H locs hw hP hD hS => ?_)
  obtain ⟨rfl, rfl⟩ := hw
  have hP : va_P D classes [(a, .inr (3, [.ref b1, .ref b2, .ref b3, .ref b4, .ref b5, .int (nI pi), .long (lN (st.2.2.2.2.1 &&& ((2 ^ c0) ^^^ 18446744073709551615))), .int (nI st.2.2.2.2.2.1), .int (nI st.2.2.2.2.2.2), .int (nI fd)])), (b1, .inl (cL, 108, .inr (.inl (lA re)))), (b2, .inl (cI, 36, .inl (nA (va_up st.1 st.2.2.2.2.2.1 c0)))), (b3, .inl (cI, 288, .inl (nA (tLs pi (st.2.2.2.2.1 &&& ((2 ^ c0) ^^^ 18446744073709551615)) re (st.2.2.2.2.2.1 * 8) c0 st.2.1)))), (b4, .inl (cI, 36, .inl (nA st.2.2.1))), (b5, .inl (cI, 36, .inl (nA (va_up st.2.2.2.1 st.2.2.2.2.2.1 0))))] H := hP
  have hD : va_D A [(a, .inr (3, [.ref b1, .ref b2, .ref b3, .ref b4, .ref b5, .int (nI pi), .long (lN (st.2.2.2.2.1 &&& ((2 ^ c0) ^^^ 18446744073709551615))), .int (nI st.2.2.2.2.2.1), .int (nI st.2.2.2.2.2.2), .int (nI fd)])), (b1, .inl (cL, 108, .inr (.inl (lA re)))), (b2, .inl (cI, 36, .inl (nA (va_up st.1 st.2.2.2.2.2.1 c0)))), (b3, .inl (cI, 288, .inl (nA (tLs pi (st.2.2.2.2.1 &&& ((2 ^ c0) ^^^ 18446744073709551615)) re (st.2.2.2.2.2.1 * 8) c0 st.2.1)))), (b4, .inl (cI, 36, .inl (nA st.2.2.1))), (b5, .inl (cI, 36, .inl (nA (va_up st.2.2.2.1 st.2.2.2.2.2.1 0))))] := hD
  refine nr_iast hx hb hK hP hD hS 4 0 rfl rfl (i := st.2.2.2.2.2.1) (x := tMn pi (st.2.2.2.2.1 &&& ((2 ^ c0) ^^^ 18446744073709551615)) re c0) (by omega) (by decide) d_TS_enter_73 (fun H locs hP hD hS => ?_)
  have hP : va_P D classes [(a, .inr (3, [.ref b1, .ref b2, .ref b3, .ref b4, .ref b5, .int (nI pi), .long (lN (st.2.2.2.2.1 &&& ((2 ^ c0) ^^^ 18446744073709551615))), .int (nI st.2.2.2.2.2.1), .int (nI st.2.2.2.2.2.2), .int (nI fd)])), (b1, .inl (cL, 108, .inr (.inl (lA re)))), (b2, .inl (cI, 36, .inl (nA (va_up st.1 st.2.2.2.2.2.1 c0)))), (b3, .inl (cI, 288, .inl (nA (tLs pi (st.2.2.2.2.1 &&& ((2 ^ c0) ^^^ 18446744073709551615)) re (st.2.2.2.2.2.1 * 8) c0 st.2.1)))), (b4, .inl (cI, 36, .inl (nA (va_up st.2.2.1 st.2.2.2.2.2.1 (tMn pi (st.2.2.2.2.1 &&& ((2 ^ c0) ^^^ 18446744073709551615)) re c0))))), (b5, .inl (cI, 36, .inl (nA (va_up st.2.2.2.1 st.2.2.2.2.2.1 0))))] H := hP
  have hD : va_D A [(a, .inr (3, [.ref b1, .ref b2, .ref b3, .ref b4, .ref b5, .int (nI pi), .long (lN (st.2.2.2.2.1 &&& ((2 ^ c0) ^^^ 18446744073709551615))), .int (nI st.2.2.2.2.2.1), .int (nI st.2.2.2.2.2.2), .int (nI fd)])), (b1, .inl (cL, 108, .inr (.inl (lA re)))), (b2, .inl (cI, 36, .inl (nA (va_up st.1 st.2.2.2.2.2.1 c0)))), (b3, .inl (cI, 288, .inl (nA (tLs pi (st.2.2.2.2.1 &&& ((2 ^ c0) ^^^ 18446744073709551615)) re (st.2.2.2.2.2.1 * 8) c0 st.2.1)))), (b4, .inl (cI, 36, .inl (nA (va_up st.2.2.1 st.2.2.2.2.2.1 (tMn pi (st.2.2.2.2.1 &&& ((2 ^ c0) ^^^ 18446744073709551615)) re c0))))), (b5, .inl (cI, 36, .inl (nA (va_up st.2.2.2.1 st.2.2.2.2.2.1 0))))] := hD
  refine lv_aload_n hx hb d_TS_enter_74 rfl (lv_at hl 0 rfl) ?_
  refine lv_dup hx hb d_TS_enter_75 rfl ?_
  refine va_get (D := D) (ci := 3) (v := .int (nI st.2.2.2.2.2.1)) (C := R_TS) (T := F_TS) (N := 10) hx hb ho j_TS hown hK hP 0 rfl rfl 7 (by decide) (ho _ kf_TS_68) (fun _ h9 => h9) rfl d_TS_enter_76 ?_
  refine lv_iconst (v := nI 1) hx hb d_TS_enter_79 (by decide) ?_
  refine nr_iadd hx hb d_TS_enter_80 ?_
  refine va_put (D := D) (ci := 3) (v := .int (nI (st.2.2.2.2.2.1 + 1))) (ty := .int) (C := R_TS) (T := F_TS) (N := 10) hx hb ho j_TS t_TS t_TS_ok n_TS hown hK hP hD hS 0 rfl rfl 7 (by decide) (ho _ kf_TS_68) (fun _ h9 => h9) rfl (by decide +kernel) rfl rfl (Nat.le_of_ble_eq_true rfl) d_TS_enter_81 (fun H locs hP hD hS => ?_)
  have hP : va_P D classes [(a, .inr (3, [.ref b1, .ref b2, .ref b3, .ref b4, .ref b5, .int (nI pi), .long (lN (st.2.2.2.2.1 &&& ((2 ^ c0) ^^^ 18446744073709551615))), .int (nI (st.2.2.2.2.2.1 + 1)), .int (nI st.2.2.2.2.2.2), .int (nI fd)])), (b1, .inl (cL, 108, .inr (.inl (lA re)))), (b2, .inl (cI, 36, .inl (nA (va_up st.1 st.2.2.2.2.2.1 c0)))), (b3, .inl (cI, 288, .inl (nA (tLs pi (st.2.2.2.2.1 &&& ((2 ^ c0) ^^^ 18446744073709551615)) re (st.2.2.2.2.2.1 * 8) c0 st.2.1)))), (b4, .inl (cI, 36, .inl (nA (va_up st.2.2.1 st.2.2.2.2.2.1 (tMn pi (st.2.2.2.2.1 &&& ((2 ^ c0) ^^^ 18446744073709551615)) re c0))))), (b5, .inl (cI, 36, .inl (nA (va_up st.2.2.2.1 st.2.2.2.2.2.1 0))))] H := hP
  have hD : va_D A [(a, .inr (3, [.ref b1, .ref b2, .ref b3, .ref b4, .ref b5, .int (nI pi), .long (lN (st.2.2.2.2.1 &&& ((2 ^ c0) ^^^ 18446744073709551615))), .int (nI (st.2.2.2.2.2.1 + 1)), .int (nI st.2.2.2.2.2.2), .int (nI fd)])), (b1, .inl (cL, 108, .inr (.inl (lA re)))), (b2, .inl (cI, 36, .inl (nA (va_up st.1 st.2.2.2.2.2.1 c0)))), (b3, .inl (cI, 288, .inl (nA (tLs pi (st.2.2.2.2.1 &&& ((2 ^ c0) ^^^ 18446744073709551615)) re (st.2.2.2.2.2.1 * 8) c0 st.2.1)))), (b4, .inl (cI, 36, .inl (nA (va_up st.2.2.1 st.2.2.2.2.2.1 (tMn pi (st.2.2.2.2.1 &&& ((2 ^ c0) ^^^ 18446744073709551615)) re c0))))), (b5, .inl (cI, 36, .inl (nA (va_up st.2.2.2.1 st.2.2.2.2.2.1 0))))] := hD
  exact rt_v E hP hD hS (by rw [tEn_in hlt]) d_TS_enter_84
set_option maxHeartbeats 1000000 in
set_option maxRecDepth 100000 in
theorem c_TS_enterOut (l : Launch) (D : va_G) (cI cL : ClassId) (a b1 b2 b3 b4 b5 pi fd : Nat) (re : Nat → Nat) (c0 : Nat) (st : T7) (hj : J7 st) (hlt : ¬ st.2.2.2.2.2.1 < 36) : CV l y_TS_enter (.code y_TS_enter b_TS_enter 2 none :: Om) { frames := 3, cells := 0, slots := 0, locals := 72 } D [(a, .inr (3, [.ref b1, .ref b2, .ref b3, .ref b4, .ref b5, .int (nI pi), .long (lN st.2.2.2.2.1), .int (nI st.2.2.2.2.2.1), .int (nI st.2.2.2.2.2.2), .int (nI fd)])), (b1, .inl (cL, 108, .inr (.inl (lA re)))), (b2, .inl (cI, 36, .inl (nA st.1))), (b3, .inl (cI, 288, .inl (nA st.2.1))), (b4, .inl (cI, 36, .inl (nA st.2.2.1))), (b5, .inl (cI, 36, .inl (nA st.2.2.2.1)))] [(cI, .int), (cL, .long)] [.ref a, .int (nI c0)] (fun u => u = [(a, .inr (3, [.ref b1, .ref b2, .ref b3, .ref b4, .ref b5, .int (nI pi), .long (lN ((tEn pi re c0 st).2.2.2.2.1)), .int (nI ((tEn pi re c0 st).2.2.2.2.2.1)), .int (nI ((tEn pi re c0 st).2.2.2.2.2.2)), .int (nI fd)])), (b1, .inl (cL, 108, .inr (.inl (lA re)))), (b2, .inl (cI, 36, .inl (nA ((tEn pi re c0 st).1)))), (b3, .inl (cI, 288, .inl (nA ((tEn pi re c0 st).2.1)))), (b4, .inl (cI, 36, .inl (nA ((tEn pi re c0 st).2.2.1)))), (b5, .inl (cI, 36, .inl (nA ((tEn pi re c0 st).2.2.2.1))))]) := by
  refine en_of (cc := b_TS_enter) (Qc := qV D [(cI, .int), (cL, .long)] (fun u => u = [(a, .inr (3, [.ref b1, .ref b2, .ref b3, .ref b4, .ref b5, .int (nI pi), .long (lN ((tEn pi re c0 st).2.2.2.2.1)), .int (nI ((tEn pi re c0 st).2.2.2.2.2.1)), .int (nI ((tEn pi re c0 st).2.2.2.2.2.2)), .int (nI fd)])), (b1, .inl (cL, 108, .inr (.inl (lA re)))), (b2, .inl (cI, 36, .inl (nA ((tEn pi re c0 st).1)))), (b3, .inl (cI, 288, .inl (nA ((tEn pi re c0 st).2.1)))), (b4, .inl (cI, 36, .inl (nA ((tEn pi re c0 st).2.2.1)))), (b5, .inl (cI, 36, .inl (nA ((tEn pi re c0 st).2.2.2.1))))])) (by decide) rfl (Nat.le_of_ble_eq_true rfl) ?_
  intro p e s m below meth c A E hnm hP hD hS ls hl
  have hl : lv_has ls 2 [(0, .ref a), (1, .int (nI c0))] := hl
  obtain ⟨hx, hb, hml, hown, hts, hr, hlk, hA, hK, hN⟩ := id E
  have ho : ∀ q ∈ Om, q.before _ s = true := fun q h => hts q (List.mem_cons_of_mem _ h)
  have hl9 := hj.2.2.2.2.2.1
  refine lv_aload_n hx hb d_TS_enter_0 rfl (lv_at hl 0 rfl) ?_
  refine va_get (D := D) (ci := 3) (v := .int (nI st.2.2.2.2.2.1)) (C := R_TS) (T := F_TS) (N := 10) hx hb ho j_TS hown hK hP 0 rfl rfl 7 (by decide) (ho _ kf_TS_68) (fun _ h9 => h9) rfl d_TS_enter_1 ?_
  refine nr_if_lt (tgt := 16) hx hb d_TS_enter_4 (by decide) (by omega) ?_
  refine lv_aload_n hx hb d_TS_enter_7 rfl (lv_at hl 0 rfl) ?_
  refine va_get (D := D) (ci := 3) (v := .int (nI st.2.2.2.2.2.1)) (C := R_TS) (T := F_TS) (N := 10) hx hb ho j_TS hown hK hP 0 rfl rfl 7 (by decide) (ho _ kf_TS_68) (fun _ h9 => h9) rfl d_TS_enter_8 ?_
  refine lv_bipush (v := nI 36) hx hb d_TS_enter_11 (by decide) ?_
  refine nr_icmp_lt (tgt := 17) hx hb d_TS_enter_13 (by decide) (by omega) (by omega) (fun h9 => absurd h9 (by omega)) (fun _ => ?_)
  exact rt_v E hP hD hS (by rw [tEn_out hlt]) d_TS_enter_16
theorem c_TS_enter (l : Launch) (D : va_G) (cI cL : ClassId) (a b1 b2 b3 b4 b5 pi fd : Nat) (re : Nat → Nat) (c0 : Nat) (hc : c0 < 36) (hpi : pi < 3) (hre : ∀ i, re i < 2 ^ 36) (st : T7) (hj : J7 st) : CV l y_TS_enter (.code y_TS_enter b_TS_enter 2 none :: Om) { frames := 3, cells := 0, slots := 0, locals := 72 } D [(a, .inr (3, [.ref b1, .ref b2, .ref b3, .ref b4, .ref b5, .int (nI pi), .long (lN st.2.2.2.2.1), .int (nI st.2.2.2.2.2.1), .int (nI st.2.2.2.2.2.2), .int (nI fd)])), (b1, .inl (cL, 108, .inr (.inl (lA re)))), (b2, .inl (cI, 36, .inl (nA st.1))), (b3, .inl (cI, 288, .inl (nA st.2.1))), (b4, .inl (cI, 36, .inl (nA st.2.2.1))), (b5, .inl (cI, 36, .inl (nA st.2.2.2.1)))] [(cI, .int), (cL, .long)] [.ref a, .int (nI c0)] (fun u => u = [(a, .inr (3, [.ref b1, .ref b2, .ref b3, .ref b4, .ref b5, .int (nI pi), .long (lN ((tEn pi re c0 st).2.2.2.2.1)), .int (nI ((tEn pi re c0 st).2.2.2.2.2.1)), .int (nI ((tEn pi re c0 st).2.2.2.2.2.2)), .int (nI fd)])), (b1, .inl (cL, 108, .inr (.inl (lA re)))), (b2, .inl (cI, 36, .inl (nA ((tEn pi re c0 st).1)))), (b3, .inl (cI, 288, .inl (nA ((tEn pi re c0 st).2.1)))), (b4, .inl (cI, 36, .inl (nA ((tEn pi re c0 st).2.2.1)))), (b5, .inl (cI, 36, .inl (nA ((tEn pi re c0 st).2.2.2.1))))]) := by
  by_cases h : st.2.2.2.2.2.1 < 36
  · exact c_TS_enterIn l D cI cL a b1 b2 b3 b4 b5 pi fd re c0 hc hpi hre st hj h
  · exact c_TS_enterOut l D cI cL a b1 b2 b3 b4 b5 pi fd re c0 st hj h
