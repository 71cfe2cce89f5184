/-! Rectangle: laying what is given, the narrowest cell, the look ahead -/
theorem rZ_s {m k b : Nat} {f : Nat → Nat} (h : k < b) : rZ (m + 1) k b f = rZ m (k + 1) b (va_up f k 0) := by rw [rZ, if_pos h]
theorem rZ_e {m k b : Nat} {f : Nat → Nat} (h : ¬ k < b) : rZ (m + 1) k b f = f := by rw [rZ, if_neg h]
abbrev S3 : Type := (Nat → Nat) × (Nat → Nat) × (Nat → Nat)
def rLay (n al : Nat) (fx co ro : Nat → Nat) : Nat → Nat → S3 → Nat × S3
  | 0, _, st => (1, st)
  | m + 1, k, st => if k < n then (if fx k = 0 then rLay n al fx co ro m (k + 1) st else if rCh al co ro st.2.1 st.2.2 k / 2 ^ fx k % 2 = 0 then (0, st) else rLay n al fx co ro m (k + 1) (va_up st.1 k (fx k), rPut st.2.1 (co k) (fx k), rPut st.2.2 (ro k) (fx k))) else (1, st)
set_option maxHeartbeats 1000000 in
set_option maxRecDepth 100000 in
theorem L_RC_lay3 {p : Program} {l : Launch} {e : Env} {s : State} {m : MethodId} {args : Array Value} {below : List Frame} {meth : Method} {c : Code} {A : Nat → Prop} {D : va_G} {cI cL : ClassId} {c0 : Cond} {post : Int32 → va_W → Prop} (a b1 b2 b3 b4 b5 b6 n g sh al fd : Nat) (fx le wi co ro : Nat → Nat) (hco : ∀ k, co k < 6) (hro : ∀ k, ro k < 6) (hn : n ≤ 36) (hal : al < 128) (hfx : ∀ k, fx k < 7) (E : En p s m args meth c b_RC_layGiven 3 (c0 :: Om) R_RC (some .boolean) A D [(cI, .int), (cL, .long)]) : ∀ (m1 : Nat) (k : Nat) (tr : Nat → Nat) (uc : Nat → Nat) (ur : Nat → Nat), k ≤ n → n < k + m1 → (∀ k, uc k < 128) → (∀ k, ur k < 128) → post (nI (rLay n al fx co ro m1 k (tr, uc, ur)).1) [(a, .inr (2, [.int (nI n), .int (nI g), .int (nI sh), .int (nI al), .ref b1, .ref b2, .ref b3, .ref b4, .ref b5, .ref b6, .long (lN (lz ((rLay n al fx co ro m1 k (tr, uc, ur)).2.2.1))), .long (lN (lz ((rLay n al fx co ro m1 k (tr, uc, ur)).2.2.2))), .int (nI fd)])), (b1, .inl (cI, 36, .inl (nA fx))), (b2, .inl (cI, 36, .inl (nA le))), (b3, .inl (cI, 36, .inl (nA ((rLay n al fx co ro m1 k (tr, uc, ur)).2.1)))), (b4, .inl (cI, 36, .inl (nA wi))), (b5, .inl (cI, 36, .inl (nA (e8 co)))), (b6, .inl (cI, 36, .inl (nA (e8 ro))))] → ∀ (H : Heap) (locs : List Loc), va_P D classes [(a, .inr (2, [.int (nI n), .int (nI g), .int (nI sh), .int (nI al), .ref b1, .ref b2, .ref b3, .ref b4, .ref b5, .ref b6, .long (lN (lz uc)), .long (lN (lz ur)), .int (nI fd)])), (b1, .inl (cI, 36, .inl (nA fx))), (b2, .inl (cI, 36, .inl (nA le))), (b3, .inl (cI, 36, .inl (nA tr))), (b4, .inl (cI, 36, .inl (nA wi))), (b5, .inl (cI, 36, .inl (nA (e8 co)))), (b6, .inl (cI, 36, .inl (nA (e8 ro))))] H → va_D A [(a, .inr (2, [.int (nI n), .int (nI g), .int (nI sh), .int (nI al), .ref b1, .ref b2, .ref b3, .ref b4, .ref b5, .ref b6, .long (lN (lz uc)), .long (lN (lz ur)), .int (nI fd)])), (b1, .inl (cI, 36, .inl (nA fx))), (b2, .inl (cI, 36, .inl (nA le))), (b3, .inl (cI, 36, .inl (nA tr))), (b4, .inl (cI, 36, .inl (nA wi))), (b5, .inl (cI, 36, .inl (nA (e8 co)))), (b6, .inl (cI, 36, .inl (nA (e8 ro))))] → va_S A s.heap H locs → ∀ ls : Array Slot, lv_has ls 3 [(0, .ref a), (1, .int (nI k))] → W p l e { frames := 1, cells := 0, slots := 0, locals := 22 } s m args below meth c H locs 0 0 (MQ below (qI D [(cI, .int), (cL, .long)] post A) args s 0 0 A) (F0 m 35 ls []) := by
  obtain ⟨hx, hb, hml, hown, hts, hr, hlk, hA, hK, hN⟩ := id E
  have ho : ∀ q ∈ Om, q.before _ s = true := fun q h => hts q (List.mem_cons_of_mem _ h)
  intro m1
  induction m1 with
  | zero =>
    intro k tr uc ur h1 h2 hu1 hu2 hq
    exact absurd h2 (by omega)
  | succ m1 ih =>
    intro k tr uc ur h1 h2 hu1 hu2 hq H locs hP hD hS ls hl
    refine lv_iload_n hx hb d_RC_layGiven_35 rfl (lv_at hl 1 rfl) ?_
    refine lv_aload_n hx hb d_RC_layGiven_36 rfl (lv_at hl 0 rfl) ?_
    refine va_get (D := D) (ci := 2) (v := .int (nI n)) (C := R_RC) (T := F_RC) (N := 13) hx hb ho j_RC hown hK hP 0 rfl rfl 0 (by decide) (ho _ kf_RC_36) (fun _ h9 => h9) rfl d_RC_layGiven_37 ?_
    refine nr_icmp_ge (tgt := 80) hx hb d_RC_layGiven_40 (by decide) (by omega) (by omega) (fun h_1 => ?_) (fun h_1 => ?_)
    · refine lv_iconst (v := nI 1) hx hb d_RC_layGiven_80 (by decide) ?_
      exact rt_z E hP hD hS (by decide) (by rw [rLay] at hq; dsimp only at hq; rw [if_neg (by omega)] at hq; exact hq) d_RC_layGiven_81
    · refine lv_aload_n hx hb d_RC_layGiven_43 rfl (lv_at hl 0 rfl) ?_
      refine va_get (D := D) (ci := 2) (v := .ref b1) (C := R_RC) (T := F_RC) (N := 13) hx hb ho j_RC hown hK hP 0 rfl rfl 4 (by decide) (ho _ kf_RC_9) (fun _ h9 => h9) rfl d_RC_layGiven_44 ?_
      refine lv_iload_n hx hb d_RC_layGiven_47 rfl (lv_at hl 1 rfl) ?_
      have hfk := hfx k
      refine nr_ialdN hx hb hK hP 1 0 rfl rfl (i := k) (by omega) (by decide) d_RC_layGiven_48 ?_
      refine lv_istore_n (lv' := [(2, .int (nI (fx k))), (0, .ref a), (1, .int (nI k))]) hx hb d_RC_layGiven_49 rfl hl (by decide) rfl (fun ls hl => ?_)
      refine lv_iload_n hx hb d_RC_layGiven_50 rfl (lv_at hl 0 rfl) ?_
      refine nr_if_eq (tgt := 74) hx hb d_RC_layGiven_51 (by decide) (by omega) (fun h_2 => ?_) (fun h_2 => ?_)
      · refine nr_iinc (lv' := [(1, .int (nI (k + 1))), (2, .int (nI (fx k))), (0, .ref a)]) hx hb d_RC_layGiven_74 hl (k := 2) rfl (by decide) rfl (fun ls hl => ?_)
        refine lv_goto (tgt := 35) hx hb d_RC_layGiven_77 (by decide) ?_
        exact ih (k + 1) tr uc ur (by omega) (by omega) hu1 hu2 (by rw [rLay] at hq; dsimp only at hq; rw [if_pos (by omega), if_pos (by omega)] at hq; exact hq) _ _ hP hD hS ls (lv_sub hl [2, 0] rfl)
      · refine lv_aload_n hx hb d_RC_layGiven_54 rfl (lv_at hl 1 rfl) ?_
        refine lv_iload_n hx hb d_RC_layGiven_55 rfl (lv_at hl 2 rfl) ?_
        refine af_i (wc := [(a, .inr (2, [.int (nI n), .int (nI g), .int (nI sh), .int (nI al), .ref b1, .ref b2, .ref b3, .ref b4, .ref b5, .ref b6, .long (lN (lz uc)), .long (lN (lz ur)), .int (nI fd)])), (b1, .inl (cI, 36, .inl (nA fx))), (b2, .inl (cI, 36, .inl (nA le))), (b3, .inl (cI, 36, .inl (nA tr))), (b4, .inl (cI, 36, .inl (nA wi))), (b5, .inl (cI, 36, .inl (nA (e8 co)))), (b6, .inl (cI, 36, .inl (nA (e8 ro))))]) (wr := []) (rest := []) [0, 1, 2, 3, 4, 5, 6] [] hP hD hS hA rfl rfl (by decide) (by decide) (rn_V E (As := [.int (nI k)]) m_RC_choicesAt km_RC_73 (c_RC_choicesAt l D cI cL a b1 b2 b3 b4 b5 b6 n g sh al fd fx le tr wi co ro uc ur k (by omega) hco hro hal hu1 hu2 _) ⟨rfl, rfl, Nat.le_of_ble_eq_true rfl, Nat.le_of_ble_eq_true rfl⟩ (hP.sub [0, 1, 2, 3, 4, 5, 6] rfl) (hD.sub [0, 1, 2, 3, 4, 5, 6] (by decide) rfl) (q0 := 0) (ci := 2) rfl rfl rfl hl.1 rfl (Nat.le_of_ble_eq_true rfl) ⟨Nat.le_of_ble_eq_true rfl, Nat.le_of_ble_eq_true rfl⟩ d_RC_layGiven_56) (fun r_4 u_3 H locs hw hP hD hS => ?_)
        obtain ⟨rfl, rfl⟩ := hw
        have hP : va_P D classes [(a, .inr (2, [.int (nI n), .int (nI g), .int (nI sh), .int (nI al), .ref b1, .ref b2, .ref b3, .ref b4, .ref b5, .ref b6, .long (lN (lz uc)), .long (lN (lz ur)), .int (nI fd)])), (b1, .inl (cI, 36, .inl (nA fx))), (b2, .inl (cI, 36, .inl (nA le))), (b3, .inl (cI, 36, .inl (nA tr))), (b4, .inl (cI, 36, .inl (nA wi))), (b5, .inl (cI, 36, .inl (nA (e8 co)))), (b6, .inl (cI, 36, .inl (nA (e8 ro))))] H := hP
        have hD : va_D A [(a, .inr (2, [.int (nI n), .int (nI g), .int (nI sh), .int (nI al), .ref b1, .ref b2, .ref b3, .ref b4, .ref b5, .ref b6, .long (lN (lz uc)), .long (lN (lz ur)), .int (nI fd)])), (b1, .inl (cI, 36, .inl (nA fx))), (b2, .inl (cI, 36, .inl (nA le))), (b3, .inl (cI, 36, .inl (nA tr))), (b4, .inl (cI, 36, .inl (nA wi))), (b5, .inl (cI, 36, .inl (nA (e8 co)))), (b6, .inl (cI, 36, .inl (nA (e8 ro))))] := hD
        refine lv_iload_n hx hb d_RC_layGiven_59 rfl (lv_at hl 0 rfl) ?_
        have hch := rCh_le al co ro uc ur k
        refine nr_iushr hx hb d_RC_layGiven_60 (by omega) (by omega) ?_
        refine lv_iconst (v := nI 1) hx hb d_RC_layGiven_61 (by decide) ?_
        refine nr_iand1 hx hb d_RC_layGiven_62 ?_
        refine nr_if_ne (tgt := 68) hx hb d_RC_layGiven_63 (by decide) (by omega) (fun h_5 => ?_) (fun h_5 => ?_)
        · refine lv_aload_n hx hb d_RC_layGiven_68 rfl (lv_at hl 1 rfl) ?_
          refine lv_iload_n hx hb d_RC_layGiven_69 rfl (lv_at hl 2 rfl) ?_
          refine lv_iload_n hx hb d_RC_layGiven_70 rfl (lv_at hl 0 rfl) ?_
          refine af_v (wc := [(a, .inr (2, [.int (nI n), .int (nI g), .int (nI sh), .int (nI al), .ref b1, .ref b2, .ref b3, .ref b4, .ref b5, .ref b6, .long (lN (lz uc)), .long (lN (lz ur)), .int (nI fd)])), (b1, .inl (cI, 36, .inl (nA fx))), (b2, .inl (cI, 36, .inl (nA le))), (b3, .inl (cI, 36, .inl (nA tr))), (b4, .inl (cI, 36, .inl (nA wi))), (b5, .inl (cI, 36, .inl (nA (e8 co)))), (b6, .inl (cI, 36, .inl (nA (e8 ro))))]) (wr := []) (rest := []) [0, 1, 2, 3, 4, 5, 6] [] hP hD hS hA rfl rfl (by decide) (by decide) (rn_V E (As := [.int (nI k), .int (nI (fx k))]) m_RC_put km_RC_77 (c_RC_put l D cI cL a b1 b2 b3 b4 b5 b6 n g sh al fd fx le tr wi co ro uc ur k (fx k) (by omega) (by omega) hco hro hu1 hu2 _) ⟨rfl, rfl, Nat.le_of_ble_eq_true rfl, Nat.le_of_ble_eq_true rfl⟩ (hP.sub [0, 1, 2, 3, 4, 5, 6] rfl) (hD.sub [0, 1, 2, 3, 4, 5, 6] (by decide) rfl) (q0 := 0) (ci := 2) rfl rfl rfl hl.1 rfl (Nat.le_of_ble_eq_true rfl) ⟨Nat.le_of_ble_eq_true rfl, Nat.le_of_ble_eq_true rfl⟩ d_RC_layGiven_71) (fun u_6 H locs hw hP hD hS => ?_)
          obtain rfl := hw
          have hP : va_P D classes [(a, .inr (2, [.int (nI n), .int (nI g), .int (nI sh), .int (nI al), .ref b1, .ref b2, .ref b3, .ref b4, .ref b5, .ref b6, .long (lN (lz (rPut uc (co k) (fx k)))), .long (lN (lz (rPut ur (ro k) (fx k)))), .int (nI fd)])), (b1, .inl (cI, 36, .inl (nA fx))), (b2, .inl (cI, 36, .inl (nA le))), (b3, .inl (cI, 36, .inl (nA (va_up tr k (fx k))))), (b4, .inl (cI, 36, .inl (nA wi))), (b5, .inl (cI, 36, .inl (nA (e8 co)))), (b6, .inl (cI, 36, .inl (nA (e8 ro))))] H := hP
          have hD : va_D A [(a, .inr (2, [.int (nI n), .int (nI g), .int (nI sh), .int (nI al), .ref b1, .ref b2, .ref b3, .ref b4, .ref b5, .ref b6, .long (lN (lz (rPut uc (co k) (fx k)))), .long (lN (lz (rPut ur (ro k) (fx k)))), .int (nI fd)])), (b1, .inl (cI, 36, .inl (nA fx))), (b2, .inl (cI, 36, .inl (nA le))), (b3, .inl (cI, 36, .inl (nA (va_up tr k (fx k))))), (b4, .inl (cI, 36, .inl (nA wi))), (b5, .inl (cI, 36, .inl (nA (e8 co)))), (b6, .inl (cI, 36, .inl (nA (e8 ro))))] := hD
          refine nr_iinc (lv' := [(1, .int (nI (k + 1))), (2, .int (nI (fx k))), (0, .ref a)]) hx hb d_RC_layGiven_74 hl (k := 2) rfl (by decide) rfl (fun ls hl => ?_)
          refine lv_goto (tgt := 35) hx hb d_RC_layGiven_77 (by decide) ?_
          exact ih (k + 1) (va_up tr k (fx k)) (rPut uc (co k) (fx k)) (rPut ur (ro k) (fx k)) (by omega) (by omega) (rPut_lt hu1 (hfx k)) (rPut_lt hu2 (hfx k)) (by rw [rLay] at hq; dsimp only at hq; rw [if_pos (by omega), if_neg (by omega), if_neg (by omega)] at hq; exact hq) _ _ hP hD hS ls (lv_sub hl [2, 0] rfl)
        · refine lv_iconst (v := nI 0) hx hb d_RC_layGiven_66 (by decide) ?_
          exact rt_z E hP hD hS (by decide) (by rw [rLay] at hq; dsimp only at hq; rw [if_pos (by omega), if_neg (by omega), if_pos (by omega)] at hq; exact hq) d_RC_layGiven_67
set_option maxHeartbeats 1000000 in
set_option maxRecDepth 100000 in
theorem L_RC_lay2 {p : Program} {l : Launch} {e : Env} {s : State} {m : MethodId} {args : Array Value} {below : List Frame} {meth : Method} {c : Code} {A : Nat → Prop} {D : va_G} {cI cL : ClassId} {c0 : Cond} {post : Int32 → va_W → Prop} (a b1 b2 b3 b4 b5 b6 n g sh al fd : Nat) (fx le wi co ro : Nat → Nat) (uc ur : Nat → Nat) (hco : ∀ k, co k < 6) (hro : ∀ k, ro k < 6) (hn : n ≤ 36) (hal : al < 128) (hfx : ∀ k, fx k < 7) (huc : ∀ k, uc k < 128) (hur : ∀ k, ur k < 128) (E : En p s m args meth c b_RC_layGiven 3 (c0 :: Om) R_RC (some .boolean) A D [(cI, .int), (cL, .long)]) : ∀ (m1 : Nat) (k : Nat) (tr : Nat → Nat), k ≤ n → n < k + m1 → post (nI (rLay n al fx co ro (n + 1) 0 (rZ m1 k n tr, uc, ur)).1) [(a, .inr (2, [.int (nI n), .int (nI g), .int (nI sh), .int (nI al), .ref b1, .ref b2, .ref b3, .ref b4, .ref b5, .ref b6, .long (lN (lz ((rLay n al fx co ro (n + 1) 0 (rZ m1 k n tr, uc, ur)).2.2.1))), .long (lN (lz ((rLay n al fx co ro (n + 1) 0 (rZ m1 k n tr, uc, ur)).2.2.2))), .int (nI fd)])), (b1, .inl (cI, 36, .inl (nA fx))), (b2, .inl (cI, 36, .inl (nA le))), (b3, .inl (cI, 36, .inl (nA ((rLay n al fx co ro (n + 1) 0 (rZ m1 k n tr, uc, ur)).2.1)))), (b4, .inl (cI, 36, .inl (nA wi))), (b5, .inl (cI, 36, .inl (nA (e8 co)))), (b6, .inl (cI, 36, .inl (nA (e8 ro))))] → ∀ (H : Heap) (locs : List Loc), va_P D classes [(a, .inr (2, [.int (nI n), .int (nI g), .int (nI sh), .int (nI al), .ref b1, .ref b2, .ref b3, .ref b4, .ref b5, .ref b6, .long (lN (lz uc)), .long (lN (lz ur)), .int (nI fd)])), (b1, .inl (cI, 36, .inl (nA fx))), (b2, .inl (cI, 36, .inl (nA le))), (b3, .inl (cI, 36, .inl (nA tr))), (b4, .inl (cI, 36, .inl (nA wi))), (b5, .inl (cI, 36, .inl (nA (e8 co)))), (b6, .inl (cI, 36, .inl (nA (e8 ro))))] H → va_D A [(a, .inr (2, [.int (nI n), .int (nI g), .int (nI sh), .int (nI al), .ref b1, .ref b2, .ref b3, .ref b4, .ref b5, .ref b6, .long (lN (lz uc)), .long (lN (lz ur)), .int (nI fd)])), (b1, .inl (cI, 36, .inl (nA fx))), (b2, .inl (cI, 36, .inl (nA le))), (b3, .inl (cI, 36, .inl (nA tr))), (b4, .inl (cI, 36, .inl (nA wi))), (b5, .inl (cI, 36, .inl (nA (e8 co)))), (b6, .inl (cI, 36, .inl (nA (e8 ro))))] → va_S A s.heap H locs → ∀ ls : Array Slot, lv_has ls 3 [(0, .ref a), (1, .int (nI k))] → W p l e { frames := 1, cells := 0, slots := 0, locals := 22 } s m args below meth c H locs 0 0 (MQ below (qI D [(cI, .int), (cL, .long)] post A) args s 0 0 A) (F0 m 12 ls []) := by
  obtain ⟨hx, hb, hml, hown, hts, hr, hlk, hA, hK, hN⟩ := id E
  have ho : ∀ q ∈ Om, q.before _ s = true := fun q h => hts q (List.mem_cons_of_mem _ h)
  intro m1
  induction m1 with
  | zero =>
    intro k tr h1 h2 hq
    exact absurd h2 (by omega)
  | succ m1 ih =>
    intro k tr h1 h2 hq H locs hP hD hS ls hl
    refine lv_iload_n hx hb d_RC_layGiven_12 rfl (lv_at hl 1 rfl) ?_
    refine lv_aload_n hx hb d_RC_layGiven_13 rfl (lv_at hl 0 rfl) ?_
    refine va_get (D := D) (ci := 2) (v := .int (nI n)) (C := R_RC) (T := F_RC) (N := 13) hx hb ho j_RC hown hK hP 0 rfl rfl 0 (by decide) (ho _ kf_RC_36) (fun _ h9 => h9) rfl d_RC_layGiven_14 ?_
    refine nr_icmp_ge (tgt := 33) hx hb d_RC_layGiven_17 (by decide) (by omega) (by omega) (fun h_1 => ?_) (fun h_1 => ?_)
    · refine lv_iconst (v := nI 0) hx hb d_RC_layGiven_33 (by decide) ?_
      refine lv_istore_n (lv' := [(1, .int (nI 0)), (0, .ref a)]) hx hb d_RC_layGiven_34 rfl hl (by decide) rfl (fun ls hl => ?_)
      exact L_RC_lay3 a b1 b2 b3 b4 b5 b6 n g sh al fd fx le wi co ro hco hro hn hal hfx E (n + 1) 0 tr uc ur (by omega) (by omega) huc hur (by rw [rZ, if_neg (by omega)] at hq; exact hq) _ _ hP hD hS ls (lv_sub hl [1, 0] rfl)
    · refine lv_aload_n hx hb d_RC_layGiven_20 rfl (lv_at hl 0 rfl) ?_
      refine va_get (D := D) (ci := 2) (v := .ref b3) (C := R_RC) (T := F_RC) (N := 13) hx hb ho j_RC hown hK hP 0 rfl rfl 6 (by decide) (ho _ kf_RC_18) (fun _ h9 => h9) rfl d_RC_layGiven_21 ?_
      refine lv_iload_n hx hb d_RC_layGiven_24 rfl (lv_at hl 1 rfl) ?_
      refine lv_iconst (v := nI 0) hx hb d_RC_layGiven_25 (by decide) ?_
      refine nr_iast hx hb hK hP hD hS 3 0 rfl rfl (i := k) (x := 0) (by omega) (by decide) d_RC_layGiven_26 (fun H locs hP hD hS => ?_)
      have hP : va_P D classes [(a, .inr (2, [.int (nI n), .int (nI g), .int (nI sh), .int (nI al), .ref b1, .ref b2, .ref b3, .ref b4, .ref b5, .ref b6, .long (lN (lz uc)), .long (lN (lz ur)), .int (nI fd)])), (b1, .inl (cI, 36, .inl (nA fx))), (b2, .inl (cI, 36, .inl (nA le))), (b3, .inl (cI, 36, .inl (nA (va_up tr k 0)))), (b4, .inl (cI, 36, .inl (nA wi))), (b5, .inl (cI, 36, .inl (nA (e8 co)))), (b6, .inl (cI, 36, .inl (nA (e8 ro))))] H := hP
      have hD : va_D A [(a, .inr (2, [.int (nI n), .int (nI g), .int (nI sh), .int (nI al), .ref b1, .ref b2, .ref b3, .ref b4, .ref b5, .ref b6, .long (lN (lz uc)), .long (lN (lz ur)), .int (nI fd)])), (b1, .inl (cI, 36, .inl (nA fx))), (b2, .inl (cI, 36, .inl (nA le))), (b3, .inl (cI, 36, .inl (nA (va_up tr k 0)))), (b4, .inl (cI, 36, .inl (nA wi))), (b5, .inl (cI, 36, .inl (nA (e8 co)))), (b6, .inl (cI, 36, .inl (nA (e8 ro))))] := hD
      refine nr_iinc (lv' := [(1, .int (nI (k + 1))), (0, .ref a)]) hx hb d_RC_layGiven_27 hl (k := 1) rfl (by decide) rfl (fun ls hl => ?_)
      refine lv_goto (tgt := 12) hx hb d_RC_layGiven_30 (by decide) ?_
      exact ih (k + 1) (va_up tr k 0) (by omega) (by omega) (by rw [rZ, if_pos (by omega)] at hq; exact hq) _ _ hP hD hS ls (lv_sub hl [1, 0] rfl)
/-- laying what is given: 1 and what then stands, or 0 -/
def rLG (n al : Nat) (fx co ro : Nat → Nat) (st : S3) : Nat × S3 := rLay n al fx co ro (n + 1) 0 (rZ (n + 1) 0 n st.1, rZ 7 0 6 st.2.1, rZ 7 0 6 st.2.2)
theorem rZ_lt {b c : Nat} (hc : 0 < c) : ∀ m k f, (∀ j, f j < c) → ∀ j, rZ m k b f j < c := by
  intro m
  induction m with
  | zero => intro k f hf; exact hf
  | succ m ih =>
    intro k f hf
    rw [rZ]
    split
    · exact ih _ _ (up_lt hf hc)
    · exact hf
set_option maxHeartbeats 1000000 in
set_option maxRecDepth 100000 in
theorem c_RC_layGiven (l : Launch) (D : va_G) (cI cL : ClassId) (a b1 b2 b3 b4 b5 b6 n g sh al fd : Nat) (fx le tr wi co ro uc ur : Nat → Nat) (hco : ∀ k, co k < 6) (hro : ∀ k, ro k < 6) (hn : n ≤ 36) (hal : al < 128) (hfx : ∀ k, fx k < 7) (huc : ∀ k, uc k < 128) (hur : ∀ k, ur k < 128) : CI l y_RC_layGiven (.code y_RC_layGiven b_RC_layGiven 3 (some .boolean) :: Om) { frames := 1, cells := 0, slots := 0, locals := 22 } D [(a, .inr (2, [.int (nI n), .int (nI g), .int (nI sh), .int (nI al), .ref b1, .ref b2, .ref b3, .ref b4, .ref b5, .ref b6, .long (lN (lz uc)), .long (lN (lz ur)), .int (nI fd)])), (b1, .inl (cI, 36, .inl (nA fx))), (b2, .inl (cI, 36, .inl (nA le))), (b3, .inl (cI, 36, .inl (nA tr))), (b4, .inl (cI, 36, .inl (nA wi))), (b5, .inl (cI, 36, .inl (nA (e8 co)))), (b6, .inl (cI, 36, .inl (nA (e8 ro))))] [(cI, .int), (cL, .long)] [.ref a] (fun r u => r = nI (rLG n al fx co ro (tr, uc, ur)).1 ∧ u = [(a, .inr (2, [.int (nI n), .int (nI g), .int (nI sh), .int (nI al), .ref b1, .ref b2, .ref b3, .ref b4, .ref b5, .ref b6, .long (lN (lz ((rLG n al fx co ro (tr, uc, ur)).2.2.1))), .long (lN (lz ((rLG n al fx co ro (tr, uc, ur)).2.2.2))), .int (nI fd)])), (b1, .inl (cI, 36, .inl (nA fx))), (b2, .inl (cI, 36, .inl (nA le))), (b3, .inl (cI, 36, .inl (nA ((rLG n al fx co ro (tr, uc, ur)).2.1)))), (b4, .inl (cI, 36, .inl (nA wi))), (b5, .inl (cI, 36, .inl (nA (e8 co)))), (b6, .inl (cI, 36, .inl (nA (e8 ro))))]) := by
  refine en_of (cc := b_RC_layGiven) (Qc := qI D [(cI, .int), (cL, .long)] (fun r u => r = nI (rLG n al fx co ro (tr, uc, ur)).1 ∧ u = [(a, .inr (2, [.int (nI n), .int (nI g), .int (nI sh), .int (nI al), .ref b1, .ref b2, .ref b3, .ref b4, .ref b5, .ref b6, .long (lN (lz ((rLG n al fx co ro (tr, uc, ur)).2.2.1))), .long (lN (lz ((rLG n al fx co ro (tr, uc, ur)).2.2.2))), .int (nI fd)])), (b1, .inl (cI, 36, .inl (nA fx))), (b2, .inl (cI, 36, .inl (nA le))), (b3, .inl (cI, 36, .inl (nA ((rLG n al fx co ro (tr, uc, ur)).2.1)))), (b4, .inl (cI, 36, .inl (nA wi))), (b5, .inl (cI, 36, .inl (nA (e8 co)))), (b6, .inl (cI, 36, .inl (nA (e8 ro))))])) (by decide) rfl (Nat.le_of_ble_eq_true rfl) ?_
  intro p e s m below meth c A E hnm hP hD hS ls hl
  have hl : lv_has ls 3 [(0, .ref a)] := hl
  obtain ⟨hx, hb, hml, hown, hts, hr, hlk, hA, hK, hN⟩ := id E
  have ho : ∀ q ∈ Om, q.before _ s = true := fun q h => hts q (List.mem_cons_of_mem _ h)
  refine lv_aload_n hx hb d_RC_layGiven_0 rfl (lv_at hl 0 rfl) ?_
  refine lv_lconst (v := lN 0) hx hb d_RC_layGiven_1 rfl ?_
  rw [show lN 0 = lN (lz (rZ 7 0 6 uc)) by rw [lz_z]]
  refine va_put (D := D) (ci := 2) (v := .long (lN (lz (rZ 7 0 6 uc)))) (ty := .long) (C := R_RC) (T := F_RC) (N := 13) hx hb ho j_RC t_RC t_RC_ok n_RC hown hK hP hD hS 0 rfl rfl 10 (by decide) (ho _ kf_RC_84) (fun _ h9 => h9) rfl (by decide +kernel) rfl rfl (Nat.le_of_ble_eq_true rfl) d_RC_layGiven_2 (fun H locs hP hD hS => ?_)
  have hP : va_P D classes [(a, .inr (2, [.int (nI n), .int (nI g), .int (nI sh), .int (nI al), .ref b1, .ref b2, .ref b3, .ref b4, .ref b5, .ref b6, .long (lN (lz (rZ 7 0 6 uc))), .long (lN (lz ur)), .int (nI fd)])), (b1, .inl (cI, 36, .inl (nA fx))), (b2, .inl (cI, 36, .inl (nA le))), (b3, .inl (cI, 36, .inl (nA tr))), (b4, .inl (cI, 36, .inl (nA wi))), (b5, .inl (cI, 36, .inl (nA (e8 co)))), (b6, .inl (cI, 36, .inl (nA (e8 ro))))] H := hP
  have hD : va_D A [(a, .inr (2, [.int (nI n), .int (nI g), .int (nI sh), .int (nI al), .ref b1, .ref b2, .ref b3, .ref b4, .ref b5, .ref b6, .long (lN (lz (rZ 7 0 6 uc))), .long (lN (lz ur)), .int (nI fd)])), (b1, .inl (cI, 36, .inl (nA fx))), (b2, .inl (cI, 36, .inl (nA le))), (b3, .inl (cI, 36, .inl (nA tr))), (b4, .inl (cI, 36, .inl (nA wi))), (b5, .inl (cI, 36, .inl (nA (e8 co)))), (b6, .inl (cI, 36, .inl (nA (e8 ro))))] := hD
  refine lv_aload_n hx hb d_RC_layGiven_5 rfl (lv_at hl 0 rfl) ?_
  refine lv_lconst (v := lN 0) hx hb d_RC_layGiven_6 rfl ?_
  rw [show lN 0 = lN (lz (rZ 7 0 6 ur)) by rw [lz_z]]
  refine va_put (D := D) (ci := 2) (v := .long (lN (lz (rZ 7 0 6 ur)))) (ty := .long) (C := R_RC) (T := F_RC) (N := 13) hx hb ho j_RC t_RC t_RC_ok n_RC hown hK hP hD hS 0 rfl rfl 11 (by decide) (ho _ kf_RC_88) (fun _ h9 => h9) rfl (by decide +kernel) rfl rfl (Nat.le_of_ble_eq_true rfl) d_RC_layGiven_7 (fun H locs hP hD hS => ?_)
  have hP : va_P D classes [(a, .inr (2, [.int (nI n), .int (nI g), .int (nI sh), .int (nI al), .ref b1, .ref b2, .ref b3, .ref b4, .ref b5, .ref b6, .long (lN (lz (rZ 7 0 6 uc))), .long (lN (lz (rZ 7 0 6 ur))), .int (nI fd)])), (b1, .inl (cI, 36, .inl (nA fx))), (b2, .inl (cI, 36, .inl (nA le))), (b3, .inl (cI, 36, .inl (nA tr))), (b4, .inl (cI, 36, .inl (nA wi))), (b5, .inl (cI, 36, .inl (nA (e8 co)))), (b6, .inl (cI, 36, .inl (nA (e8 ro))))] H := hP
  have hD : va_D A [(a, .inr (2, [.int (nI n), .int (nI g), .int (nI sh), .int (nI al), .ref b1, .ref b2, .ref b3, .ref b4, .ref b5, .ref b6, .long (lN (lz (rZ 7 0 6 uc))), .long (lN (lz (rZ 7 0 6 ur))), .int (nI fd)])), (b1, .inl (cI, 36, .inl (nA fx))), (b2, .inl (cI, 36, .inl (nA le))), (b3, .inl (cI, 36, .inl (nA tr))), (b4, .inl (cI, 36, .inl (nA wi))), (b5, .inl (cI, 36, .inl (nA (e8 co)))), (b6, .inl (cI, 36, .inl (nA (e8 ro))))] := hD
  refine lv_iconst (v := nI 0) hx hb d_RC_layGiven_10 (by decide) ?_
  refine lv_istore_n (lv' := [(1, .int (nI 0)), (0, .ref a)]) hx hb d_RC_layGiven_11 rfl hl (by decide) rfl (fun ls hl => ?_)
  exact L_RC_lay2 a b1 b2 b3 b4 b5 b6 n g sh al fd fx le wi co ro (rZ 7 0 6 uc) (rZ 7 0 6 ur) hco hro hn hal hfx (rZ_lt (by decide) _ _ _ huc) (rZ_lt (by decide) _ _ _ hur) E (n + 1) 0 tr (by omega) (by omega) ⟨rfl, rfl⟩ _ _ hP hD hS ls (lv_sub hl [1, 0] rfl)
def rNr (n al : Nat) (co ro tr uc ur : Nat → Nat) : Nat → Nat → Nat → Nat → Nat
  | 0, _, nw, _ => nw
  | m + 1, k, nw, fw => if k < n ∧ 1 < fw then (if tr k = 0 then (if pop 32 (rCh al co ro uc ur k) < fw then rNr n al co ro tr uc ur m (k + 1) (k + 1) (pop 32 (rCh al co ro uc ur k)) else rNr n al co ro tr uc ur m (k + 1) nw fw) else rNr n al co ro tr uc ur m (k + 1) nw fw) else nw
/-- 0 when no cell is left empty, else one more than an empty cell -/
def rNo (n g al : Nat) (co ro tr uc ur : Nat → Nat) : Nat := rNr n al co ro tr uc ur (n + 1) 0 0 (g + 1)
set_option maxHeartbeats 1000000 in
set_option maxRecDepth 100000 in
theorem L_RC_narrow {p : Program} {l : Launch} {e : Env} {s : State} {m : MethodId} {args : Array Value} {below : List Frame} {meth : Method} {c : Code} {A : Nat → Prop} {D : va_G} {cI cL : ClassId} {c0 : Cond} {post : Int32 → va_W → Prop} (a b1 b2 b3 b4 b5 b6 n g sh al fd : Nat) (fx le tr wi co ro uc ur : Nat → Nat) (hco : ∀ k, co k < 6) (hro : ∀ k, ro k < 6) (hn : n ≤ 36) (hal : al < 128) (htr : ∀ k, tr k < 8) (huc : ∀ k, uc k < 128) (hur : ∀ k, ur k < 128) (E : En p s m args meth c b_RC_narrowestOpenCell 5 (c0 :: Om) R_RC (some .int) A D [(cI, .int), (cL, .long)]) : ∀ (m1 : Nat) (k : Nat) (nw : Nat) (fw : Nat), k ≤ n → n < k + m1 → fw ≤ 100 → post (nI (rNr n al co ro tr uc ur m1 k nw fw) - 1) [(a, .inr (2, [.int (nI n), .int (nI g), .int (nI sh), .int (nI al), .ref b1, .ref b2, .ref b3, .ref b4, .ref b5, .ref b6, .long (lN (lz uc)), .long (lN (lz ur)), .int (nI fd)])), (b1, .inl (cI, 36, .inl (nA fx))), (b2, .inl (cI, 36, .inl (nA le))), (b3, .inl (cI, 36, .inl (nA tr))), (b4, .inl (cI, 36, .inl (nA wi))), (b5, .inl (cI, 36, .inl (nA (e8 co)))), (b6, .inl (cI, 36, .inl (nA (e8 ro))))] → ∀ (H : Heap) (locs : List Loc), va_P D classes [(a, .inr (2, [.int (nI n), .int (nI g), .int (nI sh), .int (nI al), .ref b1, .ref b2, .ref b3, .ref b4, .ref b5, .ref b6, .long (lN (lz uc)), .long (lN (lz ur)), .int (nI fd)])), (b1, .inl (cI, 36, .inl (nA fx))), (b2, .inl (cI, 36, .inl (nA le))), (b3, .inl (cI, 36, .inl (nA tr))), (b4, .inl (cI, 36, .inl (nA wi))), (b5, .inl (cI, 36, .inl (nA (e8 co)))), (b6, .inl (cI, 36, .inl (nA (e8 ro))))] H → va_D A [(a, .inr (2, [.int (nI n), .int (nI g), .int (nI sh), .int (nI al), .ref b1, .ref b2, .ref b3, .ref b4, .ref b5, .ref b6, .long (lN (lz uc)), .long (lN (lz ur)), .int (nI fd)])), (b1, .inl (cI, 36, .inl (nA fx))), (b2, .inl (cI, 36, .inl (nA le))), (b3, .inl (cI, 36, .inl (nA tr))), (b4, .inl (cI, 36, .inl (nA wi))), (b5, .inl (cI, 36, .inl (nA (e8 co)))), (b6, .inl (cI, 36, .inl (nA (e8 ro))))] → va_S A s.heap H locs → ∀ ls : Array Slot, lv_has ls 5 [(0, .ref a), (1, .int (nI nw - 1)), (2, .int (nI fw)), (3, .int (nI k))] → W p l e { frames := 1, cells := 0, slots := 0, locals := 21 } s m args below meth c H locs 0 0 (MQ below (qI D [(cI, .int), (cL, .long)] post A) args s 0 0 A) (F0 m 11 ls []) := by
  obtain ⟨hx, hb, hml, hown, hts, hr, hlk, hA, hK, hN⟩ := id E
  have ho : ∀ q ∈ Om, q.before _ s = true := fun q h => hts q (List.mem_cons_of_mem _ h)
  intro m1
  induction m1 with
  | zero =>
    intro k nw fw h1 h2 h3 hq
    exact absurd h2 (by omega)
  | succ m1 ih =>
    intro k nw fw h1 h2 h3 hq H locs hP hD hS ls hl
    refine lv_iload_n hx hb d_RC_narrowestOpenCell_11 rfl (lv_at hl 3 rfl) ?_
    refine lv_aload_n hx hb d_RC_narrowestOpenCell_12 rfl (lv_at hl 0 rfl) ?_
    refine va_get (D := D) (ci := 2) (v := .int (nI n)) (C := R_RC) (T := F_RC) (N := 13) hx hb ho j_RC hown hK hP 0 rfl rfl 0 (by decide) (ho _ kf_RC_36) (fun _ h9 => h9) rfl d_RC_narrowestOpenCell_13 ?_
    refine nr_icmp_ge (tgt := 60) hx hb d_RC_narrowestOpenCell_16 (by decide) (by omega) (by omega) (fun h_1 => ?_) (fun h_1 => ?_)
    · refine lv_iload_n hx hb d_RC_narrowestOpenCell_60 rfl (lv_at hl 1 rfl) ?_
      exact rt_i E hP hD hS (by rw [rNr, if_neg (by omega)] at hq; exact hq) d_RC_narrowestOpenCell_61
    · refine lv_iload_n hx hb d_RC_narrowestOpenCell_19 rfl (lv_at hl 2 rfl) ?_
      refine lv_iconst (v := nI 1) hx hb d_RC_narrowestOpenCell_20 (by decide) ?_
      refine nr_icmp_le (tgt := 60) hx hb d_RC_narrowestOpenCell_21 (by decide) (by omega) (by omega) (fun h_2 => ?_) (fun h_2 => ?_)
      · refine lv_iload_n hx hb d_RC_narrowestOpenCell_60 rfl (lv_at hl 1 rfl) ?_
        exact rt_i E hP hD hS (by rw [rNr, if_neg (by omega)] at hq; exact hq) d_RC_narrowestOpenCell_61
      · refine lv_aload_n hx hb d_RC_narrowestOpenCell_24 rfl (lv_at hl 0 rfl) ?_
        refine va_get (D := D) (ci := 2) (v := .ref b3) (C := R_RC) (T := F_RC) (N := 13) hx hb ho j_RC hown hK hP 0 rfl rfl 6 (by decide) (ho _ kf_RC_18) (fun _ h9 => h9) rfl d_RC_narrowestOpenCell_25 ?_
        refine lv_iload_n hx hb d_RC_narrowestOpenCell_28 rfl (lv_at hl 3 rfl) ?_
        have htk := htr k
        refine nr_ialdN hx hb hK hP 3 0 rfl rfl (i := k) (by omega) (by decide) d_RC_narrowestOpenCell_29 ?_
        refine nr_if_ne (tgt := 54) hx hb d_RC_narrowestOpenCell_30 (by decide) (by omega) (fun h_3 => ?_) (fun h_3 => ?_)
        · refine nr_iinc (lv' := [(3, .int (nI (k + 1))), (0, .ref a), (1, .int (nI nw - 1)), (2, .int (nI fw))]) hx hb d_RC_narrowestOpenCell_54 hl (k := 3) rfl (by decide) rfl (fun ls hl => ?_)
          refine lv_goto (tgt := 11) hx hb d_RC_narrowestOpenCell_57 (by decide) ?_
          exact ih (k + 1) nw fw (by omega) (by omega) (by omega) (by rw [rNr, if_pos ⟨by omega, by omega⟩] at hq; first | (rw [if_neg (by omega)] at hq; exact hq) | (rw [if_pos (by omega), if_neg (by omega)] at hq; exact hq)) _ _ hP hD hS ls (lv_sub hl [1, 2, 3, 0] rfl)
        · refine lv_aload_n hx hb d_RC_narrowestOpenCell_33 rfl (lv_at hl 0 rfl) ?_
          refine lv_iload_n hx hb d_RC_narrowestOpenCell_34 rfl (lv_at hl 3 rfl) ?_
          refine af_i (wc := [(a, .inr (2, [.int (nI n), .int (nI g), .int (nI sh), .int (nI al), .ref b1, .ref b2, .ref b3, .ref b4, .ref b5, .ref b6, .long (lN (lz uc)), .long (lN (lz ur)), .int (nI fd)])), (b1, .inl (cI, 36, .inl (nA fx))), (b2, .inl (cI, 36, .inl (nA le))), (b3, .inl (cI, 36, .inl (nA tr))), (b4, .inl (cI, 36, .inl (nA wi))), (b5, .inl (cI, 36, .inl (nA (e8 co)))), (b6, .inl (cI, 36, .inl (nA (e8 ro))))]) (wr := []) (rest := []) [0, 1, 2, 3, 4, 5, 6] [] hP hD hS hA rfl rfl (by decide) (by decide) (rn_V E (As := [.int (nI k)]) m_RC_choicesAt km_RC_73 (c_RC_choicesAt l D cI cL a b1 b2 b3 b4 b5 b6 n g sh al fd fx le tr wi co ro uc ur k (by omega) hco hro hal huc hur _) ⟨rfl, rfl, Nat.le_of_ble_eq_true rfl, Nat.le_of_ble_eq_true rfl⟩ (hP.sub [0, 1, 2, 3, 4, 5, 6] rfl) (hD.sub [0, 1, 2, 3, 4, 5, 6] (by decide) rfl) (q0 := 0) (ci := 2) rfl rfl rfl hl.1 rfl (Nat.le_of_ble_eq_true rfl) ⟨Nat.le_of_ble_eq_true rfl, Nat.le_of_ble_eq_true rfl⟩ d_RC_narrowestOpenCell_35) (fun r_5 u_4 H locs hw hP hD hS => ?_)
          obtain ⟨rfl, rfl⟩ := hw
          have hP : va_P D classes [(a, .inr (2, [.int (nI n), .int (nI g), .int (nI sh), .int (nI al), .ref b1, .ref b2, .ref b3, .ref b4, .ref b5, .ref b6, .long (lN (lz uc)), .long (lN (lz ur)), .int (nI fd)])), (b1, .inl (cI, 36, .inl (nA fx))), (b2, .inl (cI, 36, .inl (nA le))), (b3, .inl (cI, 36, .inl (nA tr))), (b4, .inl (cI, 36, .inl (nA wi))), (b5, .inl (cI, 36, .inl (nA (e8 co)))), (b6, .inl (cI, 36, .inl (nA (e8 ro))))] H := hP
          have hD : va_D A [(a, .inr (2, [.int (nI n), .int (nI g), .int (nI sh), .int (nI al), .ref b1, .ref b2, .ref b3, .ref b4, .ref b5, .ref b6, .long (lN (lz uc)), .long (lN (lz ur)), .int (nI fd)])), (b1, .inl (cI, 36, .inl (nA fx))), (b2, .inl (cI, 36, .inl (nA le))), (b3, .inl (cI, 36, .inl (nA tr))), (b4, .inl (cI, 36, .inl (nA wi))), (b5, .inl (cI, 36, .inl (nA (e8 co)))), (b6, .inl (cI, 36, .inl (nA (e8 ro))))] := hD
          have hch := rCh_le al co ro uc ur k
          have hpk := pop_le 32 (rCh al co ro uc ur k)
          refine af_i (wc := []) (wr := [(a, .inr (2, [.int (nI n), .int (nI g), .int (nI sh), .int (nI al), .ref b1, .ref b2, .ref b3, .ref b4, .ref b5, .ref b6, .long (lN (lz uc)), .long (lN (lz ur)), .int (nI fd)])), (b1, .inl (cI, 36, .inl (nA fx))), (b2, .inl (cI, 36, .inl (nA le))), (b3, .inl (cI, 36, .inl (nA tr))), (b4, .inl (cI, 36, .inl (nA wi))), (b5, .inl (cI, 36, .inl (nA (e8 co)))), (b6, .inl (cI, 36, .inl (nA (e8 ro))))]) (rest := []) [] [0, 1, 2, 3, 4, 5, 6] hP hD hS hA rfl rfl (by decide) (by decide) (rn_S E (As := [.int (nI (rCh al co ro uc ur k))]) m_IN_bitCount km_RC_95 (c_IN_bitCount l D cI cL (rCh al co ro uc ur k) (by omega) _) ⟨rfl, rfl, Nat.le_of_ble_eq_true rfl, Nat.le_of_ble_eq_true rfl⟩ (hP.sub [] rfl) (hD.sub [] (by decide) rfl) rfl hl.1 rfl (Nat.le_of_ble_eq_true rfl) ⟨Nat.le_of_ble_eq_true rfl, Nat.le_of_ble_eq_true rfl⟩ d_RC_narrowestOpenCell_38) (fun r_7 u_6 H locs hw hP hD hS => ?_)
          obtain ⟨rfl, rfl⟩ := hw
          have hP : va_P D classes [(a, .inr (2, [.int (nI n), .int (nI g), .int (nI sh), .int (nI al), .ref b1, .ref b2, .ref b3, .ref b4, .ref b5, .ref b6, .long (lN (lz uc)), .long (lN (lz ur)), .int (nI fd)])), (b1, .inl (cI, 36, .inl (nA fx))), (b2, .inl (cI, 36, .inl (nA le))), (b3, .inl (cI, 36, .inl (nA tr))), (b4, .inl (cI, 36, .inl (nA wi))), (b5, .inl (cI, 36, .inl (nA (e8 co)))), (b6, .inl (cI, 36, .inl (nA (e8 ro))))] H := hP
          have hD : va_D A [(a, .inr (2, [.int (nI n), .int (nI g), .int (nI sh), .int (nI al), .ref b1, .ref b2, .ref b3, .ref b4, .ref b5, .ref b6, .long (lN (lz uc)), .long (lN (lz ur)), .int (nI fd)])), (b1, .inl (cI, 36, .inl (nA fx))), (b2, .inl (cI, 36, .inl (nA le))), (b3, .inl (cI, 36, .inl (nA tr))), (b4, .inl (cI, 36, .inl (nA wi))), (b5, .inl (cI, 36, .inl (nA (e8 co)))), (b6, .inl (cI, 36, .inl (nA (e8 ro))))] := hD
          refine lv_istore (lv' := [(4, .int (nI (pop 32 (rCh al co ro uc ur k)))), (0, .ref a), (1, .int (nI nw - 1)), (2, .int (nI fw)), (3, .int (nI k))]) hx hb d_RC_narrowestOpenCell_41 hl (by decide) rfl (fun ls hl => ?_)
          refine lv_iload hx hb d_RC_narrowestOpenCell_43 (lv_at hl 0 rfl) ?_
          refine lv_iload_n hx hb d_RC_narrowestOpenCell_45 rfl (lv_at hl 3 rfl) ?_
          refine nr_icmp_ge (tgt := 54) hx hb d_RC_narrowestOpenCell_46 (by decide) (by omega) (by omega) (fun h_8 => ?_) (fun h_8 => ?_)
          · refine nr_iinc (lv' := [(3, .int (nI (k + 1))), (4, .int (nI (pop 32 (rCh al co ro uc ur k)))), (0, .ref a), (1, .int (nI nw - 1)), (2, .int (nI fw))]) hx hb d_RC_narrowestOpenCell_54 hl (k := 4) rfl (by decide) rfl (fun ls hl => ?_)
            refine lv_goto (tgt := 11) hx hb d_RC_narrowestOpenCell_57 (by decide) ?_
            exact ih (k + 1) nw fw (by omega) (by omega) (by omega) (by rw [rNr, if_pos ⟨by omega, by omega⟩] at hq; first | (rw [if_neg (by omega)] at hq; exact hq) | (rw [if_pos (by omega), if_neg (by omega)] at hq; exact hq)) _ _ hP hD hS ls (lv_sub hl [2, 3, 4, 0] rfl)
          · refine lv_iload hx hb d_RC_narrowestOpenCell_49 (lv_at hl 0 rfl) ?_
            refine lv_istore_n (lv' := [(2, .int (nI (pop 32 (rCh al co ro uc ur k)))), (4, .int (nI (pop 32 (rCh al co ro uc ur k)))), (0, .ref a), (1, .int (nI nw - 1)), (3, .int (nI k))]) hx hb d_RC_narrowestOpenCell_51 rfl hl (by decide) rfl (fun ls hl => ?_)
            refine lv_iload_n hx hb d_RC_narrowestOpenCell_52 rfl (lv_at hl 4 rfl) ?_
            refine lv_istore_n (lv' := [(1, .int (nI k)), (2, .int (nI (pop 32 (rCh al co ro uc ur k)))), (4, .int (nI (pop 32 (rCh al co ro uc ur k)))), (0, .ref a), (3, .int (nI k))]) hx hb d_RC_narrowestOpenCell_53 rfl hl (by decide) rfl (fun ls hl => ?_)
            refine nr_iinc (lv' := [(3, .int (nI (k + 1))), (1, .int (nI k)), (2, .int (nI (pop 32 (rCh al co ro uc ur k)))), (4, .int (nI (pop 32 (rCh al co ro uc ur k)))), (0, .ref a)]) hx hb d_RC_narrowestOpenCell_54 hl (k := 4) rfl (by decide) rfl (fun ls hl => ?_)
            refine lv_goto (tgt := 11) hx hb d_RC_narrowestOpenCell_57 (by decide) ?_
            have hl2 : lv_has ls 5 [(0, .ref a), (1, .int (nI k)), (2, .int (nI (pop 32 (rCh al co ro uc ur k)))), (3, .int (nI (k + 1)))] := lv_sub hl [4, 1, 2, 0] rfl
            rw [← nI_pred k] at hl2
            exact ih (k + 1) (k + 1) (pop 32 (rCh al co ro uc ur k)) (by omega) (by omega) (by omega) (by rw [rNr, if_pos ⟨by omega, by omega⟩, if_pos (by omega), if_pos (by omega)] at hq; exact hq) _ _ hP hD hS ls hl2
set_option maxHeartbeats 1000000 in
set_option maxRecDepth 100000 in
theorem c_RC_narrow (l : Launch) (D : va_G) (cI cL : ClassId) (a b1 b2 b3 b4 b5 b6 n g sh al fd : Nat) (fx le tr wi co ro uc ur : Nat → Nat) (hco : ∀ k, co k < 6) (hro : ∀ k, ro k < 6) (hn : n ≤ 36) (hal : al < 128) (htr : ∀ k, tr k < 8) (huc : ∀ k, uc k < 128) (hur : ∀ k, ur k < 128) (hg : g ≤ 6) : CI l y_RC_narrowestOpenCell (.code y_RC_narrowestOpenCell b_RC_narrowestOpenCell 5 (some .int) :: Om) { frames := 1, cells := 0, slots := 0, locals := 21 } D [(a, .inr (2, [.int (nI n), .int (nI g), .int (nI sh), .int (nI al), .ref b1, .ref b2, .ref b3, .ref b4, .ref b5, .ref b6, .long (lN (lz uc)), .long (lN (lz ur)), .int (nI fd)])), (b1, .inl (cI, 36, .inl (nA fx))), (b2, .inl (cI, 36, .inl (nA le))), (b3, .inl (cI, 36, .inl (nA tr))), (b4, .inl (cI, 36, .inl (nA wi))), (b5, .inl (cI, 36, .inl (nA (e8 co)))), (b6, .inl (cI, 36, .inl (nA (e8 ro))))] [(cI, .int), (cL, .long)] [.ref a] (fun r u => r = nI (rNo n g al co ro tr uc ur) - 1 ∧ u = [(a, .inr (2, [.int (nI n), .int (nI g), .int (nI sh), .int (nI al), .ref b1, .ref b2, .ref b3, .ref b4, .ref b5, .ref b6, .long (lN (lz uc)), .long (lN (lz ur)), .int (nI fd)])), (b1, .inl (cI, 36, .inl (nA fx))), (b2, .inl (cI, 36, .inl (nA le))), (b3, .inl (cI, 36, .inl (nA tr))), (b4, .inl (cI, 36, .inl (nA wi))), (b5, .inl (cI, 36, .inl (nA (e8 co)))), (b6, .inl (cI, 36, .inl (nA (e8 ro))))]) := by
  refine en_of (cc := b_RC_narrowestOpenCell) (Qc := qI D [(cI, .int), (cL, .long)] (fun r u => r = nI (rNo n g al co ro tr uc ur) - 1 ∧ u = [(a, .inr (2, [.int (nI n), .int (nI g), .int (nI sh), .int (nI al), .ref b1, .ref b2, .ref b3, .ref b4, .ref b5, .ref b6, .long (lN (lz uc)), .long (lN (lz ur)), .int (nI fd)])), (b1, .inl (cI, 36, .inl (nA fx))), (b2, .inl (cI, 36, .inl (nA le))), (b3, .inl (cI, 36, .inl (nA tr))), (b4, .inl (cI, 36, .inl (nA wi))), (b5, .inl (cI, 36, .inl (nA (e8 co)))), (b6, .inl (cI, 36, .inl (nA (e8 ro))))])) (by decide) rfl (Nat.le_of_ble_eq_true rfl) ?_
  intro p e s m below meth c A E hnm hP hD hS ls hl
  have hl : lv_has ls 5 [(0, .ref a)] := hl
  obtain ⟨hx, hb, hml, hown, hts, hr, hlk, hA, hK, hN⟩ := id E
  have ho : ∀ q ∈ Om, q.before _ s = true := fun q h => hts q (List.mem_cons_of_mem _ h)
  refine lv_iconst (v := (-1)) hx hb d_RC_narrowestOpenCell_0 (by decide) ?_
  refine lv_istore_n (lv' := [(1, .int (-1)), (0, .ref a)]) hx hb d_RC_narrowestOpenCell_1 rfl hl (by decide) rfl (fun ls hl => ?_)
  refine lv_aload_n hx hb d_RC_narrowestOpenCell_2 rfl (lv_at hl 1 rfl) ?_
  refine va_get (D := D) (ci := 2) (v := .int (nI g)) (C := R_RC) (T := F_RC) (N := 13) hx hb ho j_RC hown hK hP 0 rfl rfl 1 (by decide) (ho _ kf_RC_43) (fun _ h9 => h9) rfl d_RC_narrowestOpenCell_3 ?_
  refine lv_iconst (v := nI 1) hx hb d_RC_narrowestOpenCell_6 (by decide) ?_
  refine nr_iadd hx hb d_RC_narrowestOpenCell_7 ?_
  refine lv_istore_n (lv' := [(2, .int (nI (g + 1))), (1, .int (-1)), (0, .ref a)]) hx hb d_RC_narrowestOpenCell_8 rfl hl (by decide) rfl (fun ls hl => ?_)
  refine lv_iconst (v := nI 0) hx hb d_RC_narrowestOpenCell_9 (by decide) ?_
  refine lv_istore_n (lv' := [(3, .int (nI 0)), (2, .int (nI (g + 1))), (1, .int (-1)), (0, .ref a)]) hx hb d_RC_narrowestOpenCell_10 rfl hl (by decide) rfl (fun ls hl => ?_)
  have hl2 : lv_has ls 5 [(0, .ref a), (1, .int (-1)), (2, .int (nI (g + 1))), (3, .int (nI 0))] := lv_sub hl [3, 2, 1, 0] rfl
  rw [show (-1 : Int32) = nI 0 - 1 by decide] at hl2
  exact L_RC_narrow a b1 b2 b3 b4 b5 b6 n g sh al fd fx le tr wi co ro uc ur hco hro hn hal htr huc hur E (n + 1) 0 0 (g + 1) (by omega) (by omega) (by omega) ⟨rfl, rfl⟩ _ _ hP hD hS ls hl2
abbrev S2 : Type := (Nat → Nat) × (Nat → Nat)
def rC2 (n al : Nat) (co ro tr uc ur : Nat → Nat) : Nat → Nat → S2 → S2
  | 0, _, st => st
  | m + 1, k, st => if k < n then (if tr k = 0 then rC2 n al co ro tr uc ur m (k + 1) (va_up st.1 (co k) (st.1 (co k) ||| rCh al co ro uc ur k), va_up st.2 (ro k) (st.2 (ro k) ||| rCh al co ro uc ur k)) else rC2 n al co ro tr uc ur m (k + 1) st) else st
def rC3 (g sh : Nat) (st : S2) : Nat → Nat → Nat
  | 0, _ => 0
  | m + 1, v => if v ≤ g then (if rLw st.1 v 7 0 0 < sh ∨ rLw st.2 v 7 0 0 < sh then 1 else rC3 g sh st m (v + 1)) else 0
theorem rC3_1 (g sh : Nat) (st : S2) : ∀ m v, rC3 g sh st m v ≤ 1 := by
  intro m
  induction m with
  | zero => intro v; exact Nat.zero_le 1
  | succ m ih =>
    intro v
    rw [rC3]
    split
    · split
      · omega
      · exact ih _
    · omega
theorem rLw_le (f : Nat → Nat) (v : Nat) : ∀ m k x, rLw f v m k x ≤ x + m := by
  intro m
  induction m with
  | zero => intro k x; exact Nat.le_refl _
  | succ m ih =>
    intro k x
    rw [rLw]
    split
    · have := ih (k + 1) (x + f k / 2 ^ v % 2)
      omega
    · omega
/-- the look ahead: what columns and rows may hold -/
def rPs (n al : Nat) (co ro tr uc ur pm qm : Nat → Nat) : S2 := rC2 n al co ro tr uc ur (n + 1) 0 (rC1 uc 7 0 pm, rC1 ur 7 0 qm)
def rLk (n g sh al : Nat) (co ro tr uc ur pm qm : Nat → Nat) : Nat := rC3 g sh (rPs n al co ro tr uc ur pm qm) (g + 1) 1
set_option maxHeartbeats 1000000 in
set_option maxRecDepth 100000 in
theorem L_RC_lk3 {p : Program} {l : Launch} {e : Env} {s : State} {m : MethodId} {args : Array Value} {below : List Frame} {meth : Method} {c : Code} {A : Nat → Prop} {D : va_G} {cI cL : ClassId} {c0 : Cond} {post : Int32 → va_W → Prop} (a b1 b2 b3 b4 b5 b6 n g sh al fd : Nat) (fx le tr wi co ro uc ur : Nat → Nat) (pm qm : Nat → Nat) (hco : ∀ k, co k < 6) (hro : ∀ k, ro k < 6) (hn : n ≤ 36) (hg : g ≤ 6) (hsh : sh ≤ 6) (hal : al < 128) (htr : ∀ k, tr k < 8) (huc : ∀ k, uc k < 128) (hur : ∀ k, ur k < 128) (hpm : ∀ k, pm k < 128) (hqm : ∀ k, qm k < 128) (E : En p s m args meth c b_RC_someNumberLacksPlaces 8 (c0 :: Om) R_RC (some .boolean) A D [(cI, .int), (cL, .long)]) : ∀ (m1 : Nat) (v : Nat), 1 ≤ v → v ≤ g + 1 → g + 1 < v + m1 → post (nI (rC3 g sh (pm, qm) m1 v)) [(a, .inr (2, [.int (nI n), .int (nI g), .int (nI sh), .int (nI al), .ref b1, .ref b2, .ref b3, .ref b4, .ref b5, .ref b6, .long (lN (lz uc)), .long (lN (lz ur)), .int (nI fd)])), (b1, .inl (cI, 36, .inl (nA fx))), (b2, .inl (cI, 36, .inl (nA le))), (b3, .inl (cI, 36, .inl (nA tr))), (b4, .inl (cI, 36, .inl (nA wi))), (b5, .inl (cI, 36, .inl (nA (e8 co)))), (b6, .inl (cI, 36, .inl (nA (e8 ro))))] → ∀ (H : Heap) (locs : List Loc), va_P D classes [(a, .inr (2, [.int (nI n), .int (nI g), .int (nI sh), .int (nI al), .ref b1, .ref b2, .ref b3, .ref b4, .ref b5, .ref b6, .long (lN (lz uc)), .long (lN (lz ur)), .int (nI fd)])), (b1, .inl (cI, 36, .inl (nA fx))), (b2, .inl (cI, 36, .inl (nA le))), (b3, .inl (cI, 36, .inl (nA tr))), (b4, .inl (cI, 36, .inl (nA wi))), (b5, .inl (cI, 36, .inl (nA (e8 co)))), (b6, .inl (cI, 36, .inl (nA (e8 ro))))] H → va_D A [(a, .inr (2, [.int (nI n), .int (nI g), .int (nI sh), .int (nI al), .ref b1, .ref b2, .ref b3, .ref b4, .ref b5, .ref b6, .long (lN (lz uc)), .long (lN (lz ur)), .int (nI fd)])), (b1, .inl (cI, 36, .inl (nA fx))), (b2, .inl (cI, 36, .inl (nA le))), (b3, .inl (cI, 36, .inl (nA tr))), (b4, .inl (cI, 36, .inl (nA wi))), (b5, .inl (cI, 36, .inl (nA (e8 co)))), (b6, .inl (cI, 36, .inl (nA (e8 ro))))] → va_S A s.heap H locs → ∀ ls : Array Slot, lv_has ls 8 [(0, .ref a), (1, .long (lN (lz pm))), (3, .long (lN (lz qm))), (5, .int (nI v))] → W p l e { frames := 2, cells := 0, slots := 0, locals := 43 } s m args below meth c H locs 0 0 (MQ below (qI D [(cI, .int), (cL, .long)] post A) args s 0 0 A) (F0 m 76 ls []) := by
  obtain ⟨hx, hb, hml, hown, hts, hr, hlk, hA, hK, hN⟩ := id E
  have ho : ∀ q ∈ Om, q.before _ s = true := fun q h => hts q (List.mem_cons_of_mem _ h)
  intro m1
  induction m1 with
  | zero =>
    intro v h0 h1 h2 hq
    exact absurd h2 (by omega)
  | succ m1 ih =>
    intro v h0 h1 h2 hq H locs hP hD hS ls hl
    refine lv_iload hx hb d_RC_someNumberLacksPlaces_76 (lv_at hl 3 rfl) ?_
    refine lv_aload_n hx hb d_RC_someNumberLacksPlaces_78 rfl (lv_at hl 0 rfl) ?_
    refine va_get (D := D) (ci := 2) (v := .int (nI g)) (C := R_RC) (T := F_RC) (N := 13) hx hb ho j_RC hown hK hP 0 rfl rfl 1 (by decide) (ho _ kf_RC_43) (fun _ h9 => h9) rfl d_RC_someNumberLacksPlaces_79 ?_
    refine nr_icmp_gt (tgt := 119) hx hb d_RC_someNumberLacksPlaces_82 (by decide) (by omega) (by omega) (fun h_1 => ?_) (fun h_1 => ?_)
    · refine lv_iconst (v := nI 0) hx hb d_RC_someNumberLacksPlaces_119 (by decide) ?_
      exact rt_z E hP hD hS (by decide) (by rw [rC3, if_neg (by omega)] at hq; exact hq) d_RC_someNumberLacksPlaces_120
    · refine lv_lload_n hx hb d_RC_someNumberLacksPlaces_85 rfl (lv_at hl 1 rfl) ?_
      refine lv_iload hx hb d_RC_someNumberLacksPlaces_86 (lv_at hl 3 rfl) ?_
      refine af_i (wc := []) (wr := [(a, .inr (2, [.int (nI n), .int (nI g), .int (nI sh), .int (nI al), .ref b1, .ref b2, .ref b3, .ref b4, .ref b5, .ref b6, .long (lN (lz uc)), .long (lN (lz ur)), .int (nI fd)])), (b1, .inl (cI, 36, .inl (nA fx))), (b2, .inl (cI, 36, .inl (nA le))), (b3, .inl (cI, 36, .inl (nA tr))), (b4, .inl (cI, 36, .inl (nA wi))), (b5, .inl (cI, 36, .inl (nA (e8 co)))), (b6, .inl (cI, 36, .inl (nA (e8 ro))))]) (rest := []) [] [0, 1, 2, 3, 4, 5, 6] hP hD hS hA rfl rfl (by decide) (by decide) (rn_S E (As := [.long (lN (lz pm)), .int (nI v)]) m_RC_linesWith km_RC_107 (c_RC_linesWith l D cI cL v pm (by omega) hpm _) ⟨rfl, rfl, Nat.le_of_ble_eq_true rfl, Nat.le_of_ble_eq_true rfl⟩ (hP.sub [] rfl) (hD.sub [] (by decide) rfl) rfl hl.1 rfl (Nat.le_of_ble_eq_true rfl) ⟨Nat.le_of_ble_eq_true rfl, Nat.le_of_ble_eq_true rfl⟩ d_RC_someNumberLacksPlaces_88) (fun r_3 u_2 H locs hw hP hD hS => ?_)
      obtain ⟨rfl, rfl⟩ := hw
      have hP : va_P D classes [(a, .inr (2, [.int (nI n), .int (nI g), .int (nI sh), .int (nI al), .ref b1, .ref b2, .ref b3, .ref b4, .ref b5, .ref b6, .long (lN (lz uc)), .long (lN (lz ur)), .int (nI fd)])), (b1, .inl (cI, 36, .inl (nA fx))), (b2, .inl (cI, 36, .inl (nA le))), (b3, .inl (cI, 36, .inl (nA tr))), (b4, .inl (cI, 36, .inl (nA wi))), (b5, .inl (cI, 36, .inl (nA (e8 co)))), (b6, .inl (cI, 36, .inl (nA (e8 ro))))] H := hP
      have hD : va_D A [(a, .inr (2, [.int (nI n), .int (nI g), .int (nI sh), .int (nI al), .ref b1, .ref b2, .ref b3, .ref b4, .ref b5, .ref b6, .long (lN (lz uc)), .long (lN (lz ur)), .int (nI fd)])), (b1, .inl (cI, 36, .inl (nA fx))), (b2, .inl (cI, 36, .inl (nA le))), (b3, .inl (cI, 36, .inl (nA tr))), (b4, .inl (cI, 36, .inl (nA wi))), (b5, .inl (cI, 36, .inl (nA (e8 co)))), (b6, .inl (cI, 36, .inl (nA (e8 ro))))] := hD
      have hl1 := rLw_le pm v 7 0 0
      refine lv_aload_n hx hb d_RC_someNumberLacksPlaces_91 rfl (lv_at hl 0 rfl) ?_
      refine va_get (D := D) (ci := 2) (v := .int (nI sh)) (C := R_RC) (T := F_RC) (N := 13) hx hb ho j_RC hown hK hP 0 rfl rfl 2 (by decide) (ho _ kf_RC_46) (fun _ h9 => h9) rfl d_RC_someNumberLacksPlaces_92 ?_
      refine nr_icmp_lt (tgt := 111) hx hb d_RC_someNumberLacksPlaces_95 (by decide) (by omega) (by omega) (fun h_4 => ?_) (fun h_4 => ?_)
      · refine lv_iconst (v := nI 1) hx hb d_RC_someNumberLacksPlaces_111 (by decide) ?_
        exact rt_z E hP hD hS (by decide) (by rw [rC3] at hq; dsimp only at hq; rw [if_pos (by omega), if_pos (by first | exact Or.inl (by assumption) | exact Or.inr (by assumption))] at hq; exact hq) d_RC_someNumberLacksPlaces_112
      · refine lv_lload_n hx hb d_RC_someNumberLacksPlaces_98 rfl (lv_at hl 2 rfl) ?_
        refine lv_iload hx hb d_RC_someNumberLacksPlaces_99 (lv_at hl 3 rfl) ?_
        refine af_i (wc := []) (wr := [(a, .inr (2, [.int (nI n), .int (nI g), .int (nI sh), .int (nI al), .ref b1, .ref b2, .ref b3, .ref b4, .ref b5, .ref b6, .long (lN (lz uc)), .long (lN (lz ur)), .int (nI fd)])), (b1, .inl (cI, 36, .inl (nA fx))), (b2, .inl (cI, 36, .inl (nA le))), (b3, .inl (cI, 36, .inl (nA tr))), (b4, .inl (cI, 36, .inl (nA wi))), (b5, .inl (cI, 36, .inl (nA (e8 co)))), (b6, .inl (cI, 36, .inl (nA (e8 ro))))]) (rest := []) [] [0, 1, 2, 3, 4, 5, 6] hP hD hS hA rfl rfl (by decide) (by decide) (rn_S E (As := [.long (lN (lz qm)), .int (nI v)]) m_RC_linesWith km_RC_107 (c_RC_linesWith l D cI cL v qm (by omega) hqm _) ⟨rfl, rfl, Nat.le_of_ble_eq_true rfl, Nat.le_of_ble_eq_true rfl⟩ (hP.sub [] rfl) (hD.sub [] (by decide) rfl) rfl hl.1 rfl (Nat.le_of_ble_eq_true rfl) ⟨Nat.le_of_ble_eq_true rfl, Nat.le_of_ble_eq_true rfl⟩ d_RC_someNumberLacksPlaces_101) (fun r_6 u_5 H locs hw hP hD hS => ?_)
        obtain ⟨rfl, rfl⟩ := hw
        have hP : va_P D classes [(a, .inr (2, [.int (nI n), .int (nI g), .int (nI sh), .int (nI al), .ref b1, .ref b2, .ref b3, .ref b4, .ref b5, .ref b6, .long (lN (lz uc)), .long (lN (lz ur)), .int (nI fd)])), (b1, .inl (cI, 36, .inl (nA fx))), (b2, .inl (cI, 36, .inl (nA le))), (b3, .inl (cI, 36, .inl (nA tr))), (b4, .inl (cI, 36, .inl (nA wi))), (b5, .inl (cI, 36, .inl (nA (e8 co)))), (b6, .inl (cI, 36, .inl (nA (e8 ro))))] H := hP
        have hD : va_D A [(a, .inr (2, [.int (nI n), .int (nI g), .int (nI sh), .int (nI al), .ref b1, .ref b2, .ref b3, .ref b4, .ref b5, .ref b6, .long (lN (lz uc)), .long (lN (lz ur)), .int (nI fd)])), (b1, .inl (cI, 36, .inl (nA fx))), (b2, .inl (cI, 36, .inl (nA le))), (b3, .inl (cI, 36, .inl (nA tr))), (b4, .inl (cI, 36, .inl (nA wi))), (b5, .inl (cI, 36, .inl (nA (e8 co)))), (b6, .inl (cI, 36, .inl (nA (e8 ro))))] := hD
        have hl9 := rLw_le qm v 7 0 0
        refine lv_aload_n hx hb d_RC_someNumberLacksPlaces_104 rfl (lv_at hl 0 rfl) ?_
        refine va_get (D := D) (ci := 2) (v := .int (nI sh)) (C := R_RC) (T := F_RC) (N := 13) hx hb ho j_RC hown hK hP 0 rfl rfl 2 (by decide) (ho _ kf_RC_46) (fun _ h9 => h9) rfl d_RC_someNumberLacksPlaces_105 ?_
        refine nr_icmp_ge (tgt := 113) hx hb d_RC_someNumberLacksPlaces_108 (by decide) (by omega) (by omega) (fun h_7 => ?_) (fun h_7 => ?_)
        · refine nr_iinc (lv' := [(5, .int (nI (v + 1))), (0, .ref a), (1, .long (lN (lz pm))), (3, .long (lN (lz qm)))]) hx hb d_RC_someNumberLacksPlaces_113 hl (k := 3) rfl (by decide) rfl (fun ls hl => ?_)
          refine lv_goto (tgt := 76) hx hb d_RC_someNumberLacksPlaces_116 (by decide) ?_
          exact ih (v + 1) (by omega) (by omega) (by omega) (by rw [rC3] at hq; dsimp only at hq; rw [if_pos (by omega), if_neg (by omega)] at hq; exact hq) _ _ hP hD hS ls (lv_sub hl [1, 2, 3, 0] rfl)
        · refine lv_iconst (v := nI 1) hx hb d_RC_someNumberLacksPlaces_111 (by decide) ?_
          exact rt_z E hP hD hS (by decide) (by rw [rC3] at hq; dsimp only at hq; rw [if_pos (by omega), if_pos (by first | exact Or.inl (by assumption) | exact Or.inr (by assumption))] at hq; exact hq) d_RC_someNumberLacksPlaces_112
set_option maxHeartbeats 1000000 in
set_option maxRecDepth 100000 in
theorem L_RC_lk2 {p : Program} {l : Launch} {e : Env} {s : State} {m : MethodId} {args : Array Value} {below : List Frame} {meth : Method} {c : Code} {A : Nat → Prop} {D : va_G} {cI cL : ClassId} {c0 : Cond} {post : Int32 → va_W → Prop} (a b1 b2 b3 b4 b5 b6 n g sh al fd : Nat) (fx le tr wi co ro uc ur : Nat → Nat) (hco : ∀ k, co k < 6) (hro : ∀ k, ro k < 6) (hn : n ≤ 36) (hg : g ≤ 6) (hsh : sh ≤ 6) (hal : al < 128) (htr : ∀ k, tr k < 8) (huc : ∀ k, uc k < 128) (hur : ∀ k, ur k < 128) (E : En p s m args meth c b_RC_someNumberLacksPlaces 8 (c0 :: Om) R_RC (some .boolean) A D [(cI, .int), (cL, .long)]) : ∀ (m1 : Nat) (k : Nat) (pm : Nat → Nat) (qm : Nat → Nat), k ≤ n → n < k + m1 → (∀ k, pm k < 128) → (∀ k, qm k < 128) → post (nI (rC3 g sh (rC2 n al co ro tr uc ur m1 k (pm, qm)) (g + 1) 1)) [(a, .inr (2, [.int (nI n), .int (nI g), .int (nI sh), .int (nI al), .ref b1, .ref b2, .ref b3, .ref b4, .ref b5, .ref b6, .long (lN (lz uc)), .long (lN (lz ur)), .int (nI fd)])), (b1, .inl (cI, 36, .inl (nA fx))), (b2, .inl (cI, 36, .inl (nA le))), (b3, .inl (cI, 36, .inl (nA tr))), (b4, .inl (cI, 36, .inl (nA wi))), (b5, .inl (cI, 36, .inl (nA (e8 co)))), (b6, .inl (cI, 36, .inl (nA (e8 ro))))] → ∀ (H : Heap) (locs : List Loc), va_P D classes [(a, .inr (2, [.int (nI n), .int (nI g), .int (nI sh), .int (nI al), .ref b1, .ref b2, .ref b3, .ref b4, .ref b5, .ref b6, .long (lN (lz uc)), .long (lN (lz ur)), .int (nI fd)])), (b1, .inl (cI, 36, .inl (nA fx))), (b2, .inl (cI, 36, .inl (nA le))), (b3, .inl (cI, 36, .inl (nA tr))), (b4, .inl (cI, 36, .inl (nA wi))), (b5, .inl (cI, 36, .inl (nA (e8 co)))), (b6, .inl (cI, 36, .inl (nA (e8 ro))))] H → va_D A [(a, .inr (2, [.int (nI n), .int (nI g), .int (nI sh), .int (nI al), .ref b1, .ref b2, .ref b3, .ref b4, .ref b5, .ref b6, .long (lN (lz uc)), .long (lN (lz ur)), .int (nI fd)])), (b1, .inl (cI, 36, .inl (nA fx))), (b2, .inl (cI, 36, .inl (nA le))), (b3, .inl (cI, 36, .inl (nA tr))), (b4, .inl (cI, 36, .inl (nA wi))), (b5, .inl (cI, 36, .inl (nA (e8 co)))), (b6, .inl (cI, 36, .inl (nA (e8 ro))))] → va_S A s.heap H locs → ∀ ls : Array Slot, lv_has ls 8 [(0, .ref a), (1, .long (lN (lz pm))), (3, .long (lN (lz qm))), (5, .int (nI k))] → W p l e { frames := 2, cells := 0, slots := 0, locals := 43 } s m args below meth c H locs 0 0 (MQ below (qI D [(cI, .int), (cL, .long)] post A) args s 0 0 A) (F0 m 13 ls []) := by
  obtain ⟨hx, hb, hml, hown, hts, hr, hlk, hA, hK, hN⟩ := id E
  have ho : ∀ q ∈ Om, q.before _ s = true := fun q h => hts q (List.mem_cons_of_mem _ h)
  intro m1
  induction m1 with
  | zero =>
    intro k pm qm h1 h2 hpm hqm hq
    exact absurd h2 (by omega)
  | succ m1 ih =>
    intro k pm qm h1 h2 hpm hqm hq H locs hP hD hS ls hl
    refine lv_iload hx hb d_RC_someNumberLacksPlaces_13 (lv_at hl 3 rfl) ?_
    refine lv_aload_n hx hb d_RC_someNumberLacksPlaces_15 rfl (lv_at hl 0 rfl) ?_
    refine va_get (D := D) (ci := 2) (v := .int (nI n)) (C := R_RC) (T := F_RC) (N := 13) hx hb ho j_RC hown hK hP 0 rfl rfl 0 (by decide) (ho _ kf_RC_36) (fun _ h9 => h9) rfl d_RC_someNumberLacksPlaces_16 ?_
    refine nr_icmp_ge (tgt := 73) hx hb d_RC_someNumberLacksPlaces_19 (by decide) (by omega) (by omega) (fun h_1 => ?_) (fun h_1 => ?_)
    · refine lv_iconst (v := nI 1) hx hb d_RC_someNumberLacksPlaces_73 (by decide) ?_
      refine lv_istore (lv' := [(5, .int (nI 1)), (0, .ref a), (1, .long (lN (lz pm))), (3, .long (lN (lz qm)))]) hx hb d_RC_someNumberLacksPlaces_74 hl (by decide) rfl (fun ls hl => ?_)
      exact L_RC_lk3 a b1 b2 b3 b4 b5 b6 n g sh al fd fx le tr wi co ro uc ur pm qm hco hro hn hg hsh hal htr huc hur hpm hqm E (g + 1) 1 (by omega) (by omega) (by omega) (by rw [rC2] at hq; dsimp only at hq; rw [if_neg (by omega)] at hq; exact hq) _ _ hP hD hS ls (lv_sub hl [1, 2, 3, 0] rfl)
    · refine lv_aload_n hx hb d_RC_someNumberLacksPlaces_22 rfl (lv_at hl 0 rfl) ?_
      refine va_get (D := D) (ci := 2) (v := .ref b3) (C := R_RC) (T := F_RC) (N := 13) hx hb ho j_RC hown hK hP 0 rfl rfl 6 (by decide) (ho _ kf_RC_18) (fun _ h9 => h9) rfl d_RC_someNumberLacksPlaces_23 ?_
      refine lv_iload hx hb d_RC_someNumberLacksPlaces_26 (lv_at hl 3 rfl) ?_
      have htk := htr k
      have hk1 := e8_le hco k
      have hk2 := e8_le hro k
      have hch := rCh_le al co ro uc ur k
      refine nr_ialdN hx hb hK hP 3 0 rfl rfl (i := k) (by omega) (by decide) d_RC_someNumberLacksPlaces_28 ?_
      refine nr_if_ne (tgt := 67) hx hb d_RC_someNumberLacksPlaces_29 (by decide) (by omega) (fun h_2 => ?_) (fun h_2 => ?_)
      · refine nr_iinc (lv' := [(5, .int (nI (k + 1))), (0, .ref a), (1, .long (lN (lz pm))), (3, .long (lN (lz qm)))]) hx hb d_RC_someNumberLacksPlaces_67 hl (k := 3) rfl (by decide) rfl (fun ls hl => ?_)
        refine lv_goto (tgt := 13) hx hb d_RC_someNumberLacksPlaces_70 (by decide) ?_
        exact ih (k + 1) pm qm (by omega) (by omega) hpm hqm (by rw [rC2] at hq; dsimp only at hq; rw [if_pos (by omega), if_neg (by omega)] at hq; exact hq) _ _ hP hD hS ls (lv_sub hl [1, 2, 3, 0] rfl)
      · refine lv_aload_n hx hb d_RC_someNumberLacksPlaces_32 rfl (lv_at hl 0 rfl) ?_
        refine lv_iload hx hb d_RC_someNumberLacksPlaces_33 (lv_at hl 3 rfl) ?_
        refine af_i (wc := [(a, .inr (2, [.int (nI n), .int (nI g), .int (nI sh), .int (nI al), .ref b1, .ref b2, .ref b3, .ref b4, .ref b5, .ref b6, .long (lN (lz uc)), .long (lN (lz ur)), .int (nI fd)])), (b1, .inl (cI, 36, .inl (nA fx))), (b2, .inl (cI, 36, .inl (nA le))), (b3, .inl (cI, 36, .inl (nA tr))), (b4, .inl (cI, 36, .inl (nA wi))), (b5, .inl (cI, 36, .inl (nA (e8 co)))), (b6, .inl (cI, 36, .inl (nA (e8 ro))))]) (wr := []) (rest := []) [0, 1, 2, 3, 4, 5, 6] [] hP hD hS hA rfl rfl (by decide) (by decide) (rn_V E (As := [.int (nI k)]) m_RC_choicesAt km_RC_73 (c_RC_choicesAt l D cI cL a b1 b2 b3 b4 b5 b6 n g sh al fd fx le tr wi co ro uc ur k (by omega) hco hro hal huc hur _) ⟨rfl, rfl, Nat.le_of_ble_eq_true rfl, Nat.le_of_ble_eq_true rfl⟩ (hP.sub [0, 1, 2, 3, 4, 5, 6] rfl) (hD.sub [0, 1, 2, 3, 4, 5, 6] (by decide) rfl) (q0 := 0) (ci := 2) rfl rfl rfl hl.1 rfl (Nat.le_of_ble_eq_true rfl) ⟨Nat.le_of_ble_eq_true rfl, Nat.le_of_ble_eq_true rfl⟩ d_RC_someNumberLacksPlaces_35) (fun r_4 u_3 H locs hw hP hD hS => ?_)
        obtain ⟨rfl, rfl⟩ := hw
        have hP : va_P D classes [(a, .inr (2, [.int (nI n), .int (nI g), .int (nI sh), .int (nI al), .ref b1, .ref b2, .ref b3, .ref b4, .ref b5, .ref b6, .long (lN (lz uc)), .long (lN (lz ur)), .int (nI fd)])), (b1, .inl (cI, 36, .inl (nA fx))), (b2, .inl (cI, 36, .inl (nA le))), (b3, .inl (cI, 36, .inl (nA tr))), (b4, .inl (cI, 36, .inl (nA wi))), (b5, .inl (cI, 36, .inl (nA (e8 co)))), (b6, .inl (cI, 36, .inl (nA (e8 ro))))] H := hP
        have hD : va_D A [(a, .inr (2, [.int (nI n), .int (nI g), .int (nI sh), .int (nI al), .ref b1, .ref b2, .ref b3, .ref b4, .ref b5, .ref b6, .long (lN (lz uc)), .long (lN (lz ur)), .int (nI fd)])), (b1, .inl (cI, 36, .inl (nA fx))), (b2, .inl (cI, 36, .inl (nA le))), (b3, .inl (cI, 36, .inl (nA tr))), (b4, .inl (cI, 36, .inl (nA wi))), (b5, .inl (cI, 36, .inl (nA (e8 co)))), (b6, .inl (cI, 36, .inl (nA (e8 ro))))] := hD
        refine nr_i2l hx hb d_RC_someNumberLacksPlaces_38 (by omega) ?_
        refine lv_lstore (lv' := [(6, .long (lN (rCh al co ro uc ur k))), (0, .ref a), (1, .long (lN (lz pm))), (3, .long (lN (lz qm))), (5, .int (nI k))]) hx hb d_RC_someNumberLacksPlaces_39 hl (by decide) rfl (fun ls hl => ?_)
        refine lv_lload_n hx hb d_RC_someNumberLacksPlaces_41 rfl (lv_at hl 2 rfl) ?_
        refine lv_lload hx hb d_RC_someNumberLacksPlaces_42 (lv_at hl 0 rfl) ?_
        refine lv_aload_n hx hb d_RC_someNumberLacksPlaces_44 rfl (lv_at hl 1 rfl) ?_
        refine va_get (D := D) (ci := 2) (v := .ref b5) (C := R_RC) (T := F_RC) (N := 13) hx hb ho j_RC hown hK hP 0 rfl rfl 8 (by decide) (ho _ kf_RC_24) (fun _ h9 => h9) rfl d_RC_someNumberLacksPlaces_45 ?_
        refine lv_iload hx hb d_RC_someNumberLacksPlaces_48 (lv_at hl 4 rfl) ?_
        refine nr_ialdN hx hb hK hP 5 0 rfl rfl (i := k) (by omega) (by decide) d_RC_someNumberLacksPlaces_50 ?_
        refine nr_lshl hx hb d_RC_someNumberLacksPlaces_51 (by omega) ?_
        refine nr_lor hx hb d_RC_someNumberLacksPlaces_52 ?_
        rw [← lz_add (co := co) (k := k) (x := rCh al co ro uc ur k) hpm (hco k) (by omega)]
        refine lv_lstore_n (lv' := [(1, .long (lN (lz (va_up pm (co k) (pm (co k) ||| rCh al co ro uc ur k))))), (6, .long (lN (rCh al co ro uc ur k))), (0, .ref a), (3, .long (lN (lz qm))), (5, .int (nI k))]) hx hb d_RC_someNumberLacksPlaces_53 rfl hl (by decide) rfl (fun ls hl => ?_)
        refine lv_lload_n hx hb d_RC_someNumberLacksPlaces_54 rfl (lv_at hl 3 rfl) ?_
        refine lv_lload hx hb d_RC_someNumberLacksPlaces_55 (lv_at hl 1 rfl) ?_
        refine lv_aload_n hx hb d_RC_someNumberLacksPlaces_57 rfl (lv_at hl 2 rfl) ?_
        refine va_get (D := D) (ci := 2) (v := .ref b6) (C := R_RC) (T := F_RC) (N := 13) hx hb ho j_RC hown hK hP 0 rfl rfl 9 (by decide) (ho _ kf_RC_27) (fun _ h9 => h9) rfl d_RC_someNumberLacksPlaces_58 ?_
        refine lv_iload hx hb d_RC_someNumberLacksPlaces_61 (lv_at hl 4 rfl) ?_
        refine nr_ialdN hx hb hK hP 6 0 rfl rfl (i := k) (by omega) (by decide) d_RC_someNumberLacksPlaces_63 ?_
        refine nr_lshl hx hb d_RC_someNumberLacksPlaces_64 (by omega) ?_
        refine nr_lor hx hb d_RC_someNumberLacksPlaces_65 ?_
        rw [← lz_add (co := ro) (k := k) (x := rCh al co ro uc ur k) hqm (hro k) (by omega)]
        refine lv_lstore_n (lv' := [(3, .long (lN (lz (va_up qm (ro k) (qm (ro k) ||| rCh al co ro uc ur k))))), (1, .long (lN (lz (va_up pm (co k) (pm (co k) ||| rCh al co ro uc ur k))))), (6, .long (lN (rCh al co ro uc ur k))), (0, .ref a), (5, .int (nI k))]) hx hb d_RC_someNumberLacksPlaces_66 rfl hl (by decide) rfl (fun ls hl => ?_)
        refine nr_iinc (lv' := [(5, .int (nI (k + 1))), (3, .long (lN (lz (va_up qm (ro k) (qm (ro k) ||| rCh al co ro uc ur k))))), (1, .long (lN (lz (va_up pm (co k) (pm (co k) ||| rCh al co ro uc ur k))))), (6, .long (lN (rCh al co ro uc ur k))), (0, .ref a)]) hx hb d_RC_someNumberLacksPlaces_67 hl (k := 4) rfl (by decide) rfl (fun ls hl => ?_)
        refine lv_goto (tgt := 13) hx hb d_RC_someNumberLacksPlaces_70 (by decide) ?_
        exact ih (k + 1) (va_up pm (co k) (pm (co k) ||| rCh al co ro uc ur k)) (va_up qm (ro k) (qm (ro k) ||| rCh al co ro uc ur k)) (by omega) (by omega) (up_lt hpm (or_lt (hpm _) (by omega))) (up_lt hqm (or_lt (hqm _) (by omega))) (by rw [rC2] at hq; dsimp only at hq; rw [if_pos (by omega), if_pos (by omega)] at hq; exact hq) _ _ hP hD hS ls (lv_sub hl [4, 2, 1, 0] rfl)
theorem rC1_lt {src : Nat → Nat} (hs : ∀ k, src k < 128) : ∀ m k f, (∀ j, f j < 128) → ∀ j, rC1 src m k f j < 128 := by
  intro m
  induction m with
  | zero => intro k f hf; exact hf
  | succ m ih =>
    intro k f hf
    rw [rC1]
    split
    · exact ih _ _ (up_lt hf (hs k))
    · exact hf
set_option maxHeartbeats 1000000 in
set_option maxRecDepth 100000 in
theorem c_RC_lacks (l : Launch) (D : va_G) (cI cL : ClassId) (a b1 b2 b3 b4 b5 b6 n g sh al fd : Nat) (fx le tr wi co ro uc ur : Nat → Nat) (pm qm : Nat → Nat) (hco : ∀ k, co k < 6) (hro : ∀ k, ro k < 6) (hn : n ≤ 36) (hg : g ≤ 6) (hsh : sh ≤ 6) (hal : al < 128) (htr : ∀ k, tr k < 8) (huc : ∀ k, uc k < 128) (hur : ∀ k, ur k < 128) (hpm : ∀ k, pm k < 128) (hqm : ∀ k, qm k < 128) : CI l y_RC_someNumberLacksPlaces (.code y_RC_someNumberLacksPlaces b_RC_someNumberLacksPlaces 8 (some .boolean) :: Om) { frames := 2, cells := 0, slots := 0, locals := 43 } D [(a, .inr (2, [.int (nI n), .int (nI g), .int (nI sh), .int (nI al), .ref b1, .ref b2, .ref b3, .ref b4, .ref b5, .ref b6, .long (lN (lz uc)), .long (lN (lz ur)), .int (nI fd)])), (b1, .inl (cI, 36, .inl (nA fx))), (b2, .inl (cI, 36, .inl (nA le))), (b3, .inl (cI, 36, .inl (nA tr))), (b4, .inl (cI, 36, .inl (nA wi))), (b5, .inl (cI, 36, .inl (nA (e8 co)))), (b6, .inl (cI, 36, .inl (nA (e8 ro))))] [(cI, .int), (cL, .long)] [.ref a] (fun r u => r = nI (rLk n g sh al co ro tr uc ur pm qm) ∧ u = [(a, .inr (2, [.int (nI n), .int (nI g), .int (nI sh), .int (nI al), .ref b1, .ref b2, .ref b3, .ref b4, .ref b5, .ref b6, .long (lN (lz uc)), .long (lN (lz ur)), .int (nI fd)])), (b1, .inl (cI, 36, .inl (nA fx))), (b2, .inl (cI, 36, .inl (nA le))), (b3, .inl (cI, 36, .inl (nA tr))), (b4, .inl (cI, 36, .inl (nA wi))), (b5, .inl (cI, 36, .inl (nA (e8 co)))), (b6, .inl (cI, 36, .inl (nA (e8 ro))))]) := by
  refine en_of (cc := b_RC_someNumberLacksPlaces) (Qc := qI D [(cI, .int), (cL, .long)] (fun r u => r = nI (rLk n g sh al co ro tr uc ur pm qm) ∧ u = [(a, .inr (2, [.int (nI n), .int (nI g), .int (nI sh), .int (nI al), .ref b1, .ref b2, .ref b3, .ref b4, .ref b5, .ref b6, .long (lN (lz uc)), .long (lN (lz ur)), .int (nI fd)])), (b1, .inl (cI, 36, .inl (nA fx))), (b2, .inl (cI, 36, .inl (nA le))), (b3, .inl (cI, 36, .inl (nA tr))), (b4, .inl (cI, 36, .inl (nA wi))), (b5, .inl (cI, 36, .inl (nA (e8 co)))), (b6, .inl (cI, 36, .inl (nA (e8 ro))))])) (by decide) rfl (Nat.le_of_ble_eq_true rfl) ?_
  intro p e s m below meth c A E hnm hP hD hS ls hl
  have hl : lv_has ls 8 [(0, .ref a)] := hl
  obtain ⟨hx, hb, hml, hown, hts, hr, hlk, hA, hK, hN⟩ := id E
  have ho : ∀ q ∈ Om, q.before _ s = true := fun q h => hts q (List.mem_cons_of_mem _ h)
  refine lv_aload_n hx hb d_RC_someNumberLacksPlaces_0 rfl (lv_at hl 0 rfl) ?_
  refine va_get (D := D) (ci := 2) (v := .long (lN (lz uc))) (C := R_RC) (T := F_RC) (N := 13) hx hb ho j_RC hown hK hP 0 rfl rfl 10 (by decide) (ho _ kf_RC_84) (fun _ h9 => h9) rfl d_RC_someNumberLacksPlaces_1 ?_
  rw [show lN (lz uc) = lN (lz (rC1 uc 7 0 pm)) by rw [lz_c1]]
  refine lv_lstore_n (lv' := [(1, .long (lN (lz (rC1 uc 7 0 pm)))), (0, .ref a)]) hx hb d_RC_someNumberLacksPlaces_4 rfl hl (by decide) rfl (fun ls hl => ?_)
  refine lv_aload_n hx hb d_RC_someNumberLacksPlaces_5 rfl (lv_at hl 1 rfl) ?_
  refine va_get (D := D) (ci := 2) (v := .long (lN (lz ur))) (C := R_RC) (T := F_RC) (N := 13) hx hb ho j_RC hown hK hP 0 rfl rfl 11 (by decide) (ho _ kf_RC_88) (fun _ h9 => h9) rfl d_RC_someNumberLacksPlaces_6 ?_
  rw [show lN (lz ur) = lN (lz (rC1 ur 7 0 qm)) by rw [lz_c1]]
  refine lv_lstore_n (lv' := [(3, .long (lN (lz (rC1 ur 7 0 qm)))), (1, .long (lN (lz (rC1 uc 7 0 pm)))), (0, .ref a)]) hx hb d_RC_someNumberLacksPlaces_9 rfl hl (by decide) rfl (fun ls hl => ?_)
  refine lv_iconst (v := nI 0) hx hb d_RC_someNumberLacksPlaces_10 (by decide) ?_
  refine lv_istore (lv' := [(5, .int (nI 0)), (3, .long (lN (lz (rC1 ur 7 0 qm)))), (1, .long (lN (lz (rC1 uc 7 0 pm)))), (0, .ref a)]) hx hb d_RC_someNumberLacksPlaces_11 hl (by decide) rfl (fun ls hl => ?_)
  exact L_RC_lk2 a b1 b2 b3 b4 b5 b6 n g sh al fd fx le tr wi co ro uc ur hco hro hn hg hsh hal htr huc hur E (n + 1) 0 (rC1 uc 7 0 pm) (rC1 ur 7 0 qm) (by omega) (by omega) (rC1_lt huc _ _ _ hpm) (rC1_lt hur _ _ _ hqm) ⟨rfl, rfl⟩ _ _ hP hD hS ls (lv_sub hl [3, 2, 1, 0] rfl)
