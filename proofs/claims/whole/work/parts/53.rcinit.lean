/-! Rectangle's constructor -/
def iX (w y : Nat) : Nat → Nat → S2 → S2
  | 0, _, st => st
  | m + 1, x, st => if x < w then iX w y m (x + 1) (va_up st.1 (x + w * y) x, va_up st.2 (x + w * y) y) else st
def iY (w h : Nat) : Nat → Nat → S2 → S2
  | 0, _, st => st
  | m + 1, y, st => if y < h then iY w h m (y + 1) (iX w y 7 0 st) else st
/-- column and row of each cell -/
def cR (w h : Nat) : S2 := iY w h 7 0 (fun _ => 0, fun _ => 0)
set_option maxHeartbeats 1000000 in
set_option maxRecDepth 100000 in
theorem L_RC_ix {p : Program} {l : Launch} {e : Env} {s : State} {m : MethodId} {args : Array Value} {below : List Frame} {meth : Method} {c : Code} {A : Nat → Prop} {D : va_G} {cI cL : ClassId} {c0 : Cond} {Q : State → Prop} (a b1 b2 b3 b4 b5 b6 w h : Nat) (hw6 : w ≤ 6) (hh6 : h ≤ 6) (y : Nat) (hy : y < h) (E : En p s m args meth c b_RC_init 6 (c0 :: Om) R_RC none A D [(cI, .int), (cL, .long)]) : ∀ (m1 : Nat) (x : Nat) (co : Nat → Nat) (ro : Nat → Nat), x ≤ w → w < x + m1 → (∀ (H : Heap) (locs : List Loc), va_P D classes [(a, .inr (2, [.int (nI (w * h)), .int (nI (max w h)), .int (nI (min w h)), .int (nI (2 * 2 ^ max w h - 2)), .ref b1, .ref b2, .ref b3, .ref b4, .ref b5, .ref b6, .long (lN (lz (fun _ => 0))), .long (lN (lz (fun _ => 0))), .int (nI 0)])), (b1, .inl (cI, 36, .inl (nA (fun _ => 0)))), (b2, .inl (cI, 36, .inl (nA (fun _ => 0)))), (b3, .inl (cI, 36, .inl (nA (fun _ => 0)))), (b4, .inl (cI, 36, .inl (nA (fun _ => 0)))), (b5, .inl (cI, 36, .inl (nA (e8 ((iX w y m1 x (co, ro)).1))))), (b6, .inl (cI, 36, .inl (nA (e8 ((iX w y m1 x (co, ro)).2)))))] H → va_D A [(a, .inr (2, [.int (nI (w * h)), .int (nI (max w h)), .int (nI (min w h)), .int (nI (2 * 2 ^ max w h - 2)), .ref b1, .ref b2, .ref b3, .ref b4, .ref b5, .ref b6, .long (lN (lz (fun _ => 0))), .long (lN (lz (fun _ => 0))), .int (nI 0)])), (b1, .inl (cI, 36, .inl (nA (fun _ => 0)))), (b2, .inl (cI, 36, .inl (nA (fun _ => 0)))), (b3, .inl (cI, 36, .inl (nA (fun _ => 0)))), (b4, .inl (cI, 36, .inl (nA (fun _ => 0)))), (b5, .inl (cI, 36, .inl (nA (e8 ((iX w y m1 x (co, ro)).1))))), (b6, .inl (cI, 36, .inl (nA (e8 ((iX w y m1 x (co, ro)).2)))))] → va_S A s.heap H locs → ∀ ls : Array Slot, lv_has ls 6 [(0, .ref a), (1, .int (nI w)), (2, .int (nI h)), (3, .int (nI y))] → W p l e { frames := 1, cells := 6, slots := 216, locals := 40 } s m args below meth c H locs 6 216 Q (F0 m 172 ls [])) → ∀ (H : Heap) (locs : List Loc), va_P D classes [(a, .inr (2, [.int (nI (w * h)), .int (nI (max w h)), .int (nI (min w h)), .int (nI (2 * 2 ^ max w h - 2)), .ref b1, .ref b2, .ref b3, .ref b4, .ref b5, .ref b6, .long (lN (lz (fun _ => 0))), .long (lN (lz (fun _ => 0))), .int (nI 0)])), (b1, .inl (cI, 36, .inl (nA (fun _ => 0)))), (b2, .inl (cI, 36, .inl (nA (fun _ => 0)))), (b3, .inl (cI, 36, .inl (nA (fun _ => 0)))), (b4, .inl (cI, 36, .inl (nA (fun _ => 0)))), (b5, .inl (cI, 36, .inl (nA (e8 co)))), (b6, .inl (cI, 36, .inl (nA (e8 ro))))] H → va_D A [(a, .inr (2, [.int (nI (w * h)), .int (nI (max w h)), .int (nI (min w h)), .int (nI (2 * 2 ^ max w h - 2)), .ref b1, .ref b2, .ref b3, .ref b4, .ref b5, .ref b6, .long (lN (lz (fun _ => 0))), .long (lN (lz (fun _ => 0))), .int (nI 0)])), (b1, .inl (cI, 36, .inl (nA (fun _ => 0)))), (b2, .inl (cI, 36, .inl (nA (fun _ => 0)))), (b3, .inl (cI, 36, .inl (nA (fun _ => 0)))), (b4, .inl (cI, 36, .inl (nA (fun _ => 0)))), (b5, .inl (cI, 36, .inl (nA (e8 co)))), (b6, .inl (cI, 36, .inl (nA (e8 ro))))] → va_S A s.heap H locs → ∀ ls : Array Slot, lv_has ls 6 [(0, .ref a), (1, .int (nI w)), (2, .int (nI h)), (3, .int (nI y)), (4, .int (nI x))] → W p l e { frames := 1, cells := 6, slots := 216, locals := 40 } s m args below meth c H locs 6 216 Q (F0 m 110 ls []) := by
  obtain ⟨hx, hb, hml, hown, hts, hr, hlk, hA, hK, hN⟩ := id E
  have ho : ∀ q ∈ Om, q.before _ s = true := fun q h => hts q (List.mem_cons_of_mem _ h)
  intro m1
  induction m1 with
  | zero =>
    intro x co ro h1 h2 hq
    exact absurd h2 (by omega)
  | succ m1 ih =>
    intro x co ro h1 h2 hq H locs hP hD hS ls hl
    refine lv_iload hx hb d_RC_init_110 (lv_at hl 4 rfl) ?_
    refine lv_iload_n hx hb d_RC_init_112 rfl (lv_at hl 1 rfl) ?_
    refine nr_icmp_ge (tgt := 172) hx hb d_RC_init_113 (by decide) (by omega) (by omega) (fun h_1 => ?_) (fun h_1 => ?_)
    · rw [iX, if_neg (by omega)] at hq
      exact hq _ _ hP hD hS ls (lv_sub hl [0, 1, 2, 3] rfl)
    · refine lv_iload hx hb d_RC_init_116 (lv_at hl 4 rfl) ?_
      refine lv_bipush (v := nI 6) hx hb d_RC_init_118 (by decide) ?_
      refine nr_icmp_ge (tgt := 172) hx hb d_RC_init_120 (by decide) (by omega) (by omega) (fun h9 => absurd h9 (by omega)) (fun _ => ?_)
      have hce := ce_lt (show x < w by omega) hy hw6 hh6
      refine lv_iload hx hb d_RC_init_123 (lv_at hl 4 rfl) ?_
      refine lv_iload_n hx hb d_RC_init_125 rfl (lv_at hl 1 rfl) ?_
      refine lv_iload_n hx hb d_RC_init_126 rfl (lv_at hl 3 rfl) ?_
      refine nr_imul hx hb d_RC_init_127 ?_
      refine nr_iadd hx hb d_RC_init_128 ?_
      refine lv_istore (lv' := [(5, .int (nI (x + (w * y)))), (0, .ref a), (1, .int (nI w)), (2, .int (nI h)), (3, .int (nI y)), (4, .int (nI x))]) hx hb d_RC_init_129 hl (by decide) rfl (fun ls hl => ?_)
      refine lv_iload hx hb d_RC_init_131 (lv_at hl 0 rfl) ?_
      refine nr_if_lt (tgt := 166) hx hb d_RC_init_133 (by decide) (by omega) ?_
      refine lv_iload hx hb d_RC_init_136 (lv_at hl 0 rfl) ?_
      refine lv_bipush (v := nI 36) hx hb d_RC_init_138 (by decide) ?_
      refine nr_icmp_ge (tgt := 166) hx hb d_RC_init_140 (by decide) (by omega) (by omega) (fun h9 => absurd h9 (by omega)) (fun _ => ?_)
      refine lv_aload_n hx hb d_RC_init_143 rfl (lv_at hl 1 rfl) ?_
      refine va_get (D := D) (ci := 2) (v := .ref b5) (C := R_RC) (T := F_RC) (N := 13) hx hb ho j_RC hown hK hP 0 rfl rfl 8 (by decide) (ho _ kf_RC_24) (fun _ h9 => h9) rfl d_RC_init_144 ?_
      refine lv_iload hx hb d_RC_init_147 (lv_at hl 0 rfl) ?_
      refine lv_bipush (v := nI 8) hx hb d_RC_init_149 (by decide) ?_
      refine lv_iload hx hb d_RC_init_151 (lv_at hl 5 rfl) ?_
      refine nr_imul hx hb d_RC_init_153 ?_
      refine nr_iast hx hb hK hP hD hS 5 0 rfl rfl (i := x + (w * y)) (x := 8 * x) (by omega) (by decide) d_RC_init_154 (fun H locs hP hD hS => ?_)
      have hP : va_P D classes [(a, .inr (2, [.int (nI (w * h)), .int (nI (max w h)), .int (nI (min w h)), .int (nI (2 * 2 ^ max w h - 2)), .ref b1, .ref b2, .ref b3, .ref b4, .ref b5, .ref b6, .long (lN (lz (fun _ => 0))), .long (lN (lz (fun _ => 0))), .int (nI 0)])), (b1, .inl (cI, 36, .inl (nA (fun _ => 0)))), (b2, .inl (cI, 36, .inl (nA (fun _ => 0)))), (b3, .inl (cI, 36, .inl (nA (fun _ => 0)))), (b4, .inl (cI, 36, .inl (nA (fun _ => 0)))), (b5, .inl (cI, 36, .inl (nA (va_up (e8 co) (x + (w * y)) (8 * x))))), (b6, .inl (cI, 36, .inl (nA (e8 ro))))] H := hP
      have hD : va_D A [(a, .inr (2, [.int (nI (w * h)), .int (nI (max w h)), .int (nI (min w h)), .int (nI (2 * 2 ^ max w h - 2)), .ref b1, .ref b2, .ref b3, .ref b4, .ref b5, .ref b6, .long (lN (lz (fun _ => 0))), .long (lN (lz (fun _ => 0))), .int (nI 0)])), (b1, .inl (cI, 36, .inl (nA (fun _ => 0)))), (b2, .inl (cI, 36, .inl (nA (fun _ => 0)))), (b3, .inl (cI, 36, .inl (nA (fun _ => 0)))), (b4, .inl (cI, 36, .inl (nA (fun _ => 0)))), (b5, .inl (cI, 36, .inl (nA (va_up (e8 co) (x + (w * y)) (8 * x))))), (b6, .inl (cI, 36, .inl (nA (e8 ro))))] := hD
      refine lv_aload_n hx hb d_RC_init_155 rfl (lv_at hl 1 rfl) ?_
      refine va_get (D := D) (ci := 2) (v := .ref b6) (C := R_RC) (T := F_RC) (N := 13) hx hb ho j_RC hown hK hP 0 rfl rfl 9 (by decide) (ho _ kf_RC_27) (fun _ h9 => h9) rfl d_RC_init_156 ?_
      refine lv_iload hx hb d_RC_init_159 (lv_at hl 0 rfl) ?_
      refine lv_bipush (v := nI 8) hx hb d_RC_init_161 (by decide) ?_
      refine lv_iload_n hx hb d_RC_init_163 rfl (lv_at hl 4 rfl) ?_
      refine nr_imul hx hb d_RC_init_164 ?_
      refine nr_iast hx hb hK hP hD hS 6 0 rfl rfl (i := x + (w * y)) (x := 8 * y) (by omega) (by decide) d_RC_init_165 (fun H locs hP hD hS => ?_)
      have hP : va_P D classes [(a, .inr (2, [.int (nI (w * h)), .int (nI (max w h)), .int (nI (min w h)), .int (nI (2 * 2 ^ max w h - 2)), .ref b1, .ref b2, .ref b3, .ref b4, .ref b5, .ref b6, .long (lN (lz (fun _ => 0))), .long (lN (lz (fun _ => 0))), .int (nI 0)])), (b1, .inl (cI, 36, .inl (nA (fun _ => 0)))), (b2, .inl (cI, 36, .inl (nA (fun _ => 0)))), (b3, .inl (cI, 36, .inl (nA (fun _ => 0)))), (b4, .inl (cI, 36, .inl (nA (fun _ => 0)))), (b5, .inl (cI, 36, .inl (nA (va_up (e8 co) (x + (w * y)) (8 * x))))), (b6, .inl (cI, 36, .inl (nA (va_up (e8 ro) (x + (w * y)) (8 * y)))))] H := hP
      have hD : va_D A [(a, .inr (2, [.int (nI (w * h)), .int (nI (max w h)), .int (nI (min w h)), .int (nI (2 * 2 ^ max w h - 2)), .ref b1, .ref b2, .ref b3, .ref b4, .ref b5, .ref b6, .long (lN (lz (fun _ => 0))), .long (lN (lz (fun _ => 0))), .int (nI 0)])), (b1, .inl (cI, 36, .inl (nA (fun _ => 0)))), (b2, .inl (cI, 36, .inl (nA (fun _ => 0)))), (b3, .inl (cI, 36, .inl (nA (fun _ => 0)))), (b4, .inl (cI, 36, .inl (nA (fun _ => 0)))), (b5, .inl (cI, 36, .inl (nA (va_up (e8 co) (x + (w * y)) (8 * x))))), (b6, .inl (cI, 36, .inl (nA (va_up (e8 ro) (x + (w * y)) (8 * y)))))] := hD
      refine nr_iinc (lv' := [(4, .int (nI (x + 1))), (5, .int (nI (x + (w * y)))), (0, .ref a), (1, .int (nI w)), (2, .int (nI h)), (3, .int (nI y))]) hx hb d_RC_init_166 hl (k := 5) rfl (by decide) rfl (fun ls hl => ?_)
      refine lv_goto (tgt := 110) hx hb d_RC_init_169 (by decide) ?_
      rw [e8_up co (x + (w * y)) x] at hP hD
      rw [e8_up ro (x + (w * y)) y] at hP hD
      have hP : va_P D classes [(a, .inr (2, [.int (nI (w * h)), .int (nI (max w h)), .int (nI (min w h)), .int (nI (2 * 2 ^ max w h - 2)), .ref b1, .ref b2, .ref b3, .ref b4, .ref b5, .ref b6, .long (lN (lz (fun _ => 0))), .long (lN (lz (fun _ => 0))), .int (nI 0)])), (b1, .inl (cI, 36, .inl (nA (fun _ => 0)))), (b2, .inl (cI, 36, .inl (nA (fun _ => 0)))), (b3, .inl (cI, 36, .inl (nA (fun _ => 0)))), (b4, .inl (cI, 36, .inl (nA (fun _ => 0)))), (b5, .inl (cI, 36, .inl (nA (e8 (va_up co (x + (w * y)) x))))), (b6, .inl (cI, 36, .inl (nA (e8 (va_up ro (x + (w * y)) y)))))] H := hP
      have hD : va_D A [(a, .inr (2, [.int (nI (w * h)), .int (nI (max w h)), .int (nI (min w h)), .int (nI (2 * 2 ^ max w h - 2)), .ref b1, .ref b2, .ref b3, .ref b4, .ref b5, .ref b6, .long (lN (lz (fun _ => 0))), .long (lN (lz (fun _ => 0))), .int (nI 0)])), (b1, .inl (cI, 36, .inl (nA (fun _ => 0)))), (b2, .inl (cI, 36, .inl (nA (fun _ => 0)))), (b3, .inl (cI, 36, .inl (nA (fun _ => 0)))), (b4, .inl (cI, 36, .inl (nA (fun _ => 0)))), (b5, .inl (cI, 36, .inl (nA (e8 (va_up co (x + (w * y)) x))))), (b6, .inl (cI, 36, .inl (nA (e8 (va_up ro (x + (w * y)) y)))))] := hD
      exact ih (x + 1) (va_up co (x + (w * y)) x) (va_up ro (x + (w * y)) y) (by omega) (by omega) (by rw [iX, if_pos (by omega)] at hq; exact hq) _ _ hP hD hS ls (lv_sub hl [2, 3, 4, 5, 0] rfl)
set_option maxHeartbeats 1000000 in
set_option maxRecDepth 100000 in
theorem L_RC_iy {p : Program} {l : Launch} {e : Env} {s : State} {m : MethodId} {args : Array Value} {below : List Frame} {meth : Method} {c : Code} {A : Nat → Prop} {D : va_G} {cI cL : ClassId} {c0 : Cond} {post : va_W → Prop} (a b1 b2 b3 b4 b5 b6 w h : Nat) (hw6 : w ≤ 6) (hh6 : h ≤ 6) (E : En p s m args meth c b_RC_init 6 (c0 :: Om) R_RC none A D [(cI, .int), (cL, .long)]) : ∀ (m1 : Nat) (y : Nat) (co : Nat → Nat) (ro : Nat → Nat), y ≤ h → h < y + m1 → post [(a, .inr (2, [.int (nI (w * h)), .int (nI (max w h)), .int (nI (min w h)), .int (nI (2 * 2 ^ max w h - 2)), .ref b1, .ref b2, .ref b3, .ref b4, .ref b5, .ref b6, .long (lN (lz (fun _ => 0))), .long (lN (lz (fun _ => 0))), .int (nI 0)])), (b1, .inl (cI, 36, .inl (nA (fun _ => 0)))), (b2, .inl (cI, 36, .inl (nA (fun _ => 0)))), (b3, .inl (cI, 36, .inl (nA (fun _ => 0)))), (b4, .inl (cI, 36, .inl (nA (fun _ => 0)))), (b5, .inl (cI, 36, .inl (nA (e8 ((iY w h m1 y (co, ro)).1))))), (b6, .inl (cI, 36, .inl (nA (e8 ((iY w h m1 y (co, ro)).2)))))] → ∀ (H : Heap) (locs : List Loc), va_P D classes [(a, .inr (2, [.int (nI (w * h)), .int (nI (max w h)), .int (nI (min w h)), .int (nI (2 * 2 ^ max w h - 2)), .ref b1, .ref b2, .ref b3, .ref b4, .ref b5, .ref b6, .long (lN (lz (fun _ => 0))), .long (lN (lz (fun _ => 0))), .int (nI 0)])), (b1, .inl (cI, 36, .inl (nA (fun _ => 0)))), (b2, .inl (cI, 36, .inl (nA (fun _ => 0)))), (b3, .inl (cI, 36, .inl (nA (fun _ => 0)))), (b4, .inl (cI, 36, .inl (nA (fun _ => 0)))), (b5, .inl (cI, 36, .inl (nA (e8 co)))), (b6, .inl (cI, 36, .inl (nA (e8 ro))))] H → va_D A [(a, .inr (2, [.int (nI (w * h)), .int (nI (max w h)), .int (nI (min w h)), .int (nI (2 * 2 ^ max w h - 2)), .ref b1, .ref b2, .ref b3, .ref b4, .ref b5, .ref b6, .long (lN (lz (fun _ => 0))), .long (lN (lz (fun _ => 0))), .int (nI 0)])), (b1, .inl (cI, 36, .inl (nA (fun _ => 0)))), (b2, .inl (cI, 36, .inl (nA (fun _ => 0)))), (b3, .inl (cI, 36, .inl (nA (fun _ => 0)))), (b4, .inl (cI, 36, .inl (nA (fun _ => 0)))), (b5, .inl (cI, 36, .inl (nA (e8 co)))), (b6, .inl (cI, 36, .inl (nA (e8 ro))))] → va_S A s.heap H locs → ∀ ls : Array Slot, lv_has ls 6 [(0, .ref a), (1, .int (nI w)), (2, .int (nI h)), (3, .int (nI y))] → W p l e { frames := 1, cells := 6, slots := 216, locals := 40 } s m args below meth c H locs 6 216 (MQ below (qV D [(cI, .int), (cL, .long)] post A) args s 6 216 A) (F0 m 96 ls []) := by
  obtain ⟨hx, hb, hml, hown, hts, hr, hlk, hA, hK, hN⟩ := id E
  have ho : ∀ q ∈ Om, q.before _ s = true := fun q h => hts q (List.mem_cons_of_mem _ h)
  intro m1
  induction m1 with
  | zero =>
    intro y co ro h1 h2 hq
    exact absurd h2 (by omega)
  | succ m1 ih =>
    intro y co ro h1 h2 hq H locs hP hD hS ls hl
    refine lv_iload_n hx hb d_RC_init_96 rfl (lv_at hl 3 rfl) ?_
    refine lv_iload_n hx hb d_RC_init_97 rfl (lv_at hl 2 rfl) ?_
    refine nr_icmp_ge (tgt := 178) hx hb d_RC_init_98 (by decide) (by omega) (by omega) (fun h_1 => ?_) (fun h_1 => ?_)
    · exact rt_v E hP hD hS (by rw [iY, if_neg (by omega)] at hq; exact hq) d_RC_init_178
    · refine lv_iload_n hx hb d_RC_init_101 rfl (lv_at hl 3 rfl) ?_
      refine lv_bipush (v := nI 6) hx hb d_RC_init_102 (by decide) ?_
      refine nr_icmp_ge (tgt := 178) hx hb d_RC_init_104 (by decide) (by omega) (by omega) (fun h9 => absurd h9 (by omega)) (fun _ => ?_)
      refine lv_iconst (v := nI 0) hx hb d_RC_init_107 (by decide) ?_
      refine lv_istore (lv' := [(4, .int (nI 0)), (0, .ref a), (1, .int (nI w)), (2, .int (nI h)), (3, .int (nI y))]) hx hb d_RC_init_108 hl (by decide) rfl (fun ls hl => ?_)
      refine L_RC_ix a b1 b2 b3 b4 b5 b6 w h hw6 hh6 y (by omega) E 7 0 co ro (by omega) (by omega) (fun H locs hP hD hS ls hl => ?_) _ _ hP hD hS ls (lv_sub hl [1, 2, 3, 4, 0] rfl)
      refine nr_iinc (lv' := [(3, .int (nI (y + 1))), (0, .ref a), (1, .int (nI w)), (2, .int (nI h))]) hx hb d_RC_init_172 hl (k := 3) rfl (by decide) rfl (fun ls hl => ?_)
      refine lv_goto (tgt := 96) hx hb d_RC_init_175 (by decide) ?_
      exact ih (y + 1) (iX w y 7 0 (co, ro)).1 (iX w y 7 0 (co, ro)).2 (by omega) (by omega) (by rw [iY, if_pos (by omega)] at hq; exact hq) _ _ hP hD hS ls (lv_sub hl [1, 2, 3, 0] rfl)
set_option maxHeartbeats 1000000 in
set_option maxRecDepth 100000 in
theorem c_RC_init (l : Launch) (D : va_G) (cI cL : ClassId) (a w h : Nat) (hw6 : w ≤ 6) (hh6 : h ≤ 6) : CVm l y_RC_init (.code y_RC_init b_RC_init 6 none :: Om) { frames := 1, cells := 6, slots := 216, locals := 40 } D [(a, .inr (2, [.int (nI 0), .int (nI 0), .int (nI 0), .int (nI 0), .null, .null, .null, .null, .null, .null, .long (lN 0), .long (lN 0), .int (nI 0)]))] [(cI, .int), (cL, .long)] [.ref a, .int (nI w), .int (nI h)] 6 216 (fun u => ∃ b1 b2 b3 b4 b5 b6, u = [(a, .inr (2, [.int (nI (w * h)), .int (nI (max w h)), .int (nI (min w h)), .int (nI (2 * 2 ^ max w h - 2)), .ref b1, .ref b2, .ref b3, .ref b4, .ref b5, .ref b6, .long (lN (lz (fun _ => 0))), .long (lN (lz (fun _ => 0))), .int (nI 0)])), (b1, .inl (cI, 36, .inl (nA (fun _ => 0)))), (b2, .inl (cI, 36, .inl (nA (fun _ => 0)))), (b3, .inl (cI, 36, .inl (nA (fun _ => 0)))), (b4, .inl (cI, 36, .inl (nA (fun _ => 0)))), (b5, .inl (cI, 36, .inl (nA (e8 ((cR w h).1))))), (b6, .inl (cI, 36, .inl (nA (e8 ((cR w h).2)))))]) := by
  refine en_of (cc := b_RC_init) (Qc := qV D [(cI, .int), (cL, .long)] (fun u => ∃ b1 b2 b3 b4 b5 b6, u = [(a, .inr (2, [.int (nI (w * h)), .int (nI (max w h)), .int (nI (min w h)), .int (nI (2 * 2 ^ max w h - 2)), .ref b1, .ref b2, .ref b3, .ref b4, .ref b5, .ref b6, .long (lN (lz (fun _ => 0))), .long (lN (lz (fun _ => 0))), .int (nI 0)])), (b1, .inl (cI, 36, .inl (nA (fun _ => 0)))), (b2, .inl (cI, 36, .inl (nA (fun _ => 0)))), (b3, .inl (cI, 36, .inl (nA (fun _ => 0)))), (b4, .inl (cI, 36, .inl (nA (fun _ => 0)))), (b5, .inl (cI, 36, .inl (nA (e8 ((cR w h).1))))), (b6, .inl (cI, 36, .inl (nA (e8 ((cR w h).2)))))])) (by decide) rfl (Nat.le_of_ble_eq_true rfl) ?_
  intro p e s m below meth c A E hnm hP hD hS ls hl
  have hl : lv_has ls 6 [(0, .ref a), (1, .int (nI w)), (2, .int (nI h))] := hl
  obtain ⟨hx, hb, hml, hown, hts, hr, hlk, hA, hK, hN⟩ := id E
  have ho : ∀ q ∈ Om, q.before _ s = true := fun q h => hts q (List.mem_cons_of_mem _ h)
  refine lv_aload_n hx hb d_RC_init_0 rfl (lv_at hl 0 rfl) ?_
  refine W.objInit hx hb hown (ho _ km_RC_3) (ho _ kq_obj.1) (ho _ kq_obj.2) rfl (hl.1.trans hml.symm) rfl d_RC_init_1 (Nat.le_of_ble_eq_true rfl) (Nat.le_of_ble_eq_true rfl) ?_
  refine W.eq (g2 := F0 m 4 ls []) rfl ?_
  refine lv_aload_n hx hb d_RC_init_4 rfl (lv_at hl 0 rfl) ?_
  refine lv_bipush (v := nI 36) hx hb d_RC_init_5 (by decide) ?_
  refine nr_newi hx hb (ho _ ka_int) hK hP hD hS hA 0 rfl (by decide) (Nat.le_of_ble_eq_true rfl) (Nat.le_of_ble_eq_true rfl) d_RC_init_7 (fun b1 H hP hD hS => ?_)
  have hP : va_P D classes [(a, .inr (2, [.int (nI 0), .int (nI 0), .int (nI 0), .int (nI 0), .null, .null, .null, .null, .null, .null, .long (lN 0), .long (lN 0), .int (nI 0)])), (b1, .inl (cI, 36, .inl (nA (fun _ => 0))))] H := hP
  have hD : va_D A [(a, .inr (2, [.int (nI 0), .int (nI 0), .int (nI 0), .int (nI 0), .null, .null, .null, .null, .null, .null, .long (lN 0), .long (lN 0), .int (nI 0)])), (b1, .inl (cI, 36, .inl (nA (fun _ => 0))))] := hD
  refine va_putF (D := D) (ci := 2) (v := .ref b1) (ty := .array .int) (C := R_RC) (T := F_RC) (N := 13) hx hb ho j_RC t_RC t_RC_ok n_RC hown hK hP hD hS 0 rfl rfl 4 (by decide) (ho _ kf_RC_9) (fun _ h9 => h9) rfl hnm rfl (by decide +kernel) rfl rfl (Nat.le_of_ble_eq_true rfl) d_RC_init_9 (fun H locs hP hD hS => ?_)
  have hP : va_P D classes [(a, .inr (2, [.int (nI 0), .int (nI 0), .int (nI 0), .int (nI 0), .ref b1, .null, .null, .null, .null, .null, .long (lN 0), .long (lN 0), .int (nI 0)])), (b1, .inl (cI, 36, .inl (nA (fun _ => 0))))] H := hP
  have hD : va_D A [(a, .inr (2, [.int (nI 0), .int (nI 0), .int (nI 0), .int (nI 0), .ref b1, .null, .null, .null, .null, .null, .long (lN 0), .long (lN 0), .int (nI 0)])), (b1, .inl (cI, 36, .inl (nA (fun _ => 0))))] := hD
  refine lv_aload_n hx hb d_RC_init_12 rfl (lv_at hl 0 rfl) ?_
  refine lv_bipush (v := nI 36) hx hb d_RC_init_13 (by decide) ?_
  refine nr_newi hx hb (ho _ ka_int) hK hP hD hS hA 0 rfl (by decide) (Nat.le_of_ble_eq_true rfl) (Nat.le_of_ble_eq_true rfl) d_RC_init_15 (fun b2 H hP hD hS => ?_)
  have hP : va_P D classes [(a, .inr (2, [.int (nI 0), .int (nI 0), .int (nI 0), .int (nI 0), .ref b1, .null, .null, .null, .null, .null, .long (lN 0), .long (lN 0), .int (nI 0)])), (b1, .inl (cI, 36, .inl (nA (fun _ => 0)))), (b2, .inl (cI, 36, .inl (nA (fun _ => 0))))] H := hP
  have hD : va_D A [(a, .inr (2, [.int (nI 0), .int (nI 0), .int (nI 0), .int (nI 0), .ref b1, .null, .null, .null, .null, .null, .long (lN 0), .long (lN 0), .int (nI 0)])), (b1, .inl (cI, 36, .inl (nA (fun _ => 0)))), (b2, .inl (cI, 36, .inl (nA (fun _ => 0))))] := hD
  refine va_putF (D := D) (ci := 2) (v := .ref b2) (ty := .array .int) (C := R_RC) (T := F_RC) (N := 13) hx hb ho j_RC t_RC t_RC_ok n_RC hown hK hP hD hS 0 rfl rfl 5 (by decide) (ho _ kf_RC_15) (fun _ h9 => h9) rfl hnm rfl (by decide +kernel) rfl rfl (Nat.le_of_ble_eq_true rfl) d_RC_init_17 (fun H locs hP hD hS => ?_)
  have hP : va_P D classes [(a, .inr (2, [.int (nI 0), .int (nI 0), .int (nI 0), .int (nI 0), .ref b1, .ref b2, .null, .null, .null, .null, .long (lN 0), .long (lN 0), .int (nI 0)])), (b1, .inl (cI, 36, .inl (nA (fun _ => 0)))), (b2, .inl (cI, 36, .inl (nA (fun _ => 0))))] H := hP
  have hD : va_D A [(a, .inr (2, [.int (nI 0), .int (nI 0), .int (nI 0), .int (nI 0), .ref b1, .ref b2, .null, .null, .null, .null, .long (lN 0), .long (lN 0), .int (nI 0)])), (b1, .inl (cI, 36, .inl (nA (fun _ => 0)))), (b2, .inl (cI, 36, .inl (nA (fun _ => 0))))] := hD
  refine lv_aload_n hx hb d_RC_init_20 rfl (lv_at hl 0 rfl) ?_
  refine lv_bipush (v := nI 36) hx hb d_RC_init_21 (by decide) ?_
  refine nr_newi hx hb (ho _ ka_int) hK hP hD hS hA 0 rfl (by decide) (Nat.le_of_ble_eq_true rfl) (Nat.le_of_ble_eq_true rfl) d_RC_init_23 (fun b3 H hP hD hS => ?_)
  have hP : va_P D classes [(a, .inr (2, [.int (nI 0), .int (nI 0), .int (nI 0), .int (nI 0), .ref b1, .ref b2, .null, .null, .null, .null, .long (lN 0), .long (lN 0), .int (nI 0)])), (b1, .inl (cI, 36, .inl (nA (fun _ => 0)))), (b2, .inl (cI, 36, .inl (nA (fun _ => 0)))), (b3, .inl (cI, 36, .inl (nA (fun _ => 0))))] H := hP
  have hD : va_D A [(a, .inr (2, [.int (nI 0), .int (nI 0), .int (nI 0), .int (nI 0), .ref b1, .ref b2, .null, .null, .null, .null, .long (lN 0), .long (lN 0), .int (nI 0)])), (b1, .inl (cI, 36, .inl (nA (fun _ => 0)))), (b2, .inl (cI, 36, .inl (nA (fun _ => 0)))), (b3, .inl (cI, 36, .inl (nA (fun _ => 0))))] := hD
  refine va_putF (D := D) (ci := 2) (v := .ref b3) (ty := .array .int) (C := R_RC) (T := F_RC) (N := 13) hx hb ho j_RC t_RC t_RC_ok n_RC hown hK hP hD hS 0 rfl rfl 6 (by decide) (ho _ kf_RC_18) (fun _ h9 => h9) rfl hnm rfl (by decide +kernel) rfl rfl (Nat.le_of_ble_eq_true rfl) d_RC_init_25 (fun H locs hP hD hS => ?_)
  have hP : va_P D classes [(a, .inr (2, [.int (nI 0), .int (nI 0), .int (nI 0), .int (nI 0), .ref b1, .ref b2, .ref b3, .null, .null, .null, .long (lN 0), .long (lN 0), .int (nI 0)])), (b1, .inl (cI, 36, .inl (nA (fun _ => 0)))), (b2, .inl (cI, 36, .inl (nA (fun _ => 0)))), (b3, .inl (cI, 36, .inl (nA (fun _ => 0))))] H := hP
  have hD : va_D A [(a, .inr (2, [.int (nI 0), .int (nI 0), .int (nI 0), .int (nI 0), .ref b1, .ref b2, .ref b3, .null, .null, .null, .long (lN 0), .long (lN 0), .int (nI 0)])), (b1, .inl (cI, 36, .inl (nA (fun _ => 0)))), (b2, .inl (cI, 36, .inl (nA (fun _ => 0)))), (b3, .inl (cI, 36, .inl (nA (fun _ => 0))))] := hD
  refine lv_aload_n hx hb d_RC_init_28 rfl (lv_at hl 0 rfl) ?_
  refine lv_bipush (v := nI 36) hx hb d_RC_init_29 (by decide) ?_
  refine nr_newi hx hb (ho _ ka_int) hK hP hD hS hA 0 rfl (by decide) (Nat.le_of_ble_eq_true rfl) (Nat.le_of_ble_eq_true rfl) d_RC_init_31 (fun b4 H hP hD hS => ?_)
  have hP : va_P D classes [(a, .inr (2, [.int (nI 0), .int (nI 0), .int (nI 0), .int (nI 0), .ref b1, .ref b2, .ref b3, .null, .null, .null, .long (lN 0), .long (lN 0), .int (nI 0)])), (b1, .inl (cI, 36, .inl (nA (fun _ => 0)))), (b2, .inl (cI, 36, .inl (nA (fun _ => 0)))), (b3, .inl (cI, 36, .inl (nA (fun _ => 0)))), (b4, .inl (cI, 36, .inl (nA (fun _ => 0))))] H := hP
  have hD : va_D A [(a, .inr (2, [.int (nI 0), .int (nI 0), .int (nI 0), .int (nI 0), .ref b1, .ref b2, .ref b3, .null, .null, .null, .long (lN 0), .long (lN 0), .int (nI 0)])), (b1, .inl (cI, 36, .inl (nA (fun _ => 0)))), (b2, .inl (cI, 36, .inl (nA (fun _ => 0)))), (b3, .inl (cI, 36, .inl (nA (fun _ => 0)))), (b4, .inl (cI, 36, .inl (nA (fun _ => 0))))] := hD
  refine va_putF (D := D) (ci := 2) (v := .ref b4) (ty := .array .int) (C := R_RC) (T := F_RC) (N := 13) hx hb ho j_RC t_RC t_RC_ok n_RC hown hK hP hD hS 0 rfl rfl 7 (by decide) (ho _ kf_RC_21) (fun _ h9 => h9) rfl hnm rfl (by decide +kernel) rfl rfl (Nat.le_of_ble_eq_true rfl) d_RC_init_33 (fun H locs hP hD hS => ?_)
  have hP : va_P D classes [(a, .inr (2, [.int (nI 0), .int (nI 0), .int (nI 0), .int (nI 0), .ref b1, .ref b2, .ref b3, .ref b4, .null, .null, .long (lN 0), .long (lN 0), .int (nI 0)])), (b1, .inl (cI, 36, .inl (nA (fun _ => 0)))), (b2, .inl (cI, 36, .inl (nA (fun _ => 0)))), (b3, .inl (cI, 36, .inl (nA (fun _ => 0)))), (b4, .inl (cI, 36, .inl (nA (fun _ => 0))))] H := hP
  have hD : va_D A [(a, .inr (2, [.int (nI 0), .int (nI 0), .int (nI 0), .int (nI 0), .ref b1, .ref b2, .ref b3, .ref b4, .null, .null, .long (lN 0), .long (lN 0), .int (nI 0)])), (b1, .inl (cI, 36, .inl (nA (fun _ => 0)))), (b2, .inl (cI, 36, .inl (nA (fun _ => 0)))), (b3, .inl (cI, 36, .inl (nA (fun _ => 0)))), (b4, .inl (cI, 36, .inl (nA (fun _ => 0))))] := hD
  refine lv_aload_n hx hb d_RC_init_36 rfl (lv_at hl 0 rfl) ?_
  refine lv_bipush (v := nI 36) hx hb d_RC_init_37 (by decide) ?_
  refine nr_newi hx hb (ho _ ka_int) hK hP hD hS hA 0 rfl (by decide) (Nat.le_of_ble_eq_true rfl) (Nat.le_of_ble_eq_true rfl) d_RC_init_39 (fun b5 H hP hD hS => ?_)
  have hP : va_P D classes [(a, .inr (2, [.int (nI 0), .int (nI 0), .int (nI 0), .int (nI 0), .ref b1, .ref b2, .ref b3, .ref b4, .null, .null, .long (lN 0), .long (lN 0), .int (nI 0)])), (b1, .inl (cI, 36, .inl (nA (fun _ => 0)))), (b2, .inl (cI, 36, .inl (nA (fun _ => 0)))), (b3, .inl (cI, 36, .inl (nA (fun _ => 0)))), (b4, .inl (cI, 36, .inl (nA (fun _ => 0)))), (b5, .inl (cI, 36, .inl (nA (fun _ => 0))))] H := hP
  have hD : va_D A [(a, .inr (2, [.int (nI 0), .int (nI 0), .int (nI 0), .int (nI 0), .ref b1, .ref b2, .ref b3, .ref b4, .null, .null, .long (lN 0), .long (lN 0), .int (nI 0)])), (b1, .inl (cI, 36, .inl (nA (fun _ => 0)))), (b2, .inl (cI, 36, .inl (nA (fun _ => 0)))), (b3, .inl (cI, 36, .inl (nA (fun _ => 0)))), (b4, .inl (cI, 36, .inl (nA (fun _ => 0)))), (b5, .inl (cI, 36, .inl (nA (fun _ => 0))))] := hD
  refine va_putF (D := D) (ci := 2) (v := .ref b5) (ty := .array .int) (C := R_RC) (T := F_RC) (N := 13) hx hb ho j_RC t_RC t_RC_ok n_RC hown hK hP hD hS 0 rfl rfl 8 (by decide) (ho _ kf_RC_24) (fun _ h9 => h9) rfl hnm rfl (by decide +kernel) rfl rfl (Nat.le_of_ble_eq_true rfl) d_RC_init_41 (fun H locs hP hD hS => ?_)
  have hP : va_P D classes [(a, .inr (2, [.int (nI 0), .int (nI 0), .int (nI 0), .int (nI 0), .ref b1, .ref b2, .ref b3, .ref b4, .ref b5, .null, .long (lN 0), .long (lN 0), .int (nI 0)])), (b1, .inl (cI, 36, .inl (nA (fun _ => 0)))), (b2, .inl (cI, 36, .inl (nA (fun _ => 0)))), (b3, .inl (cI, 36, .inl (nA (fun _ => 0)))), (b4, .inl (cI, 36, .inl (nA (fun _ => 0)))), (b5, .inl (cI, 36, .inl (nA (fun _ => 0))))] H := hP
  have hD : va_D A [(a, .inr (2, [.int (nI 0), .int (nI 0), .int (nI 0), .int (nI 0), .ref b1, .ref b2, .ref b3, .ref b4, .ref b5, .null, .long (lN 0), .long (lN 0), .int (nI 0)])), (b1, .inl (cI, 36, .inl (nA (fun _ => 0)))), (b2, .inl (cI, 36, .inl (nA (fun _ => 0)))), (b3, .inl (cI, 36, .inl (nA (fun _ => 0)))), (b4, .inl (cI, 36, .inl (nA (fun _ => 0)))), (b5, .inl (cI, 36, .inl (nA (fun _ => 0))))] := hD
  refine lv_aload_n hx hb d_RC_init_44 rfl (lv_at hl 0 rfl) ?_
  refine lv_bipush (v := nI 36) hx hb d_RC_init_45 (by decide) ?_
  refine nr_newi hx hb (ho _ ka_int) hK hP hD hS hA 0 rfl (by decide) (Nat.le_of_ble_eq_true rfl) (Nat.le_of_ble_eq_true rfl) d_RC_init_47 (fun b6 H hP hD hS => ?_)
  have hP : va_P D classes [(a, .inr (2, [.int (nI 0), .int (nI 0), .int (nI 0), .int (nI 0), .ref b1, .ref b2, .ref b3, .ref b4, .ref b5, .null, .long (lN 0), .long (lN 0), .int (nI 0)])), (b1, .inl (cI, 36, .inl (nA (fun _ => 0)))), (b2, .inl (cI, 36, .inl (nA (fun _ => 0)))), (b3, .inl (cI, 36, .inl (nA (fun _ => 0)))), (b4, .inl (cI, 36, .inl (nA (fun _ => 0)))), (b5, .inl (cI, 36, .inl (nA (fun _ => 0)))), (b6, .inl (cI, 36, .inl (nA (fun _ => 0))))] H := hP
  have hD : va_D A [(a, .inr (2, [.int (nI 0), .int (nI 0), .int (nI 0), .int (nI 0), .ref b1, .ref b2, .ref b3, .ref b4, .ref b5, .null, .long (lN 0), .long (lN 0), .int (nI 0)])), (b1, .inl (cI, 36, .inl (nA (fun _ => 0)))), (b2, .inl (cI, 36, .inl (nA (fun _ => 0)))), (b3, .inl (cI, 36, .inl (nA (fun _ => 0)))), (b4, .inl (cI, 36, .inl (nA (fun _ => 0)))), (b5, .inl (cI, 36, .inl (nA (fun _ => 0)))), (b6, .inl (cI, 36, .inl (nA (fun _ => 0))))] := hD
  refine va_putF (D := D) (ci := 2) (v := .ref b6) (ty := .array .int) (C := R_RC) (T := F_RC) (N := 13) hx hb ho j_RC t_RC t_RC_ok n_RC hown hK hP hD hS 0 rfl rfl 9 (by decide) (ho _ kf_RC_27) (fun _ h9 => h9) rfl hnm rfl (by decide +kernel) rfl rfl (Nat.le_of_ble_eq_true rfl) d_RC_init_49 (fun H locs hP hD hS => ?_)
  have hP : va_P D classes [(a, .inr (2, [.int (nI 0), .int (nI 0), .int (nI 0), .int (nI 0), .ref b1, .ref b2, .ref b3, .ref b4, .ref b5, .ref b6, .long (lN 0), .long (lN 0), .int (nI 0)])), (b1, .inl (cI, 36, .inl (nA (fun _ => 0)))), (b2, .inl (cI, 36, .inl (nA (fun _ => 0)))), (b3, .inl (cI, 36, .inl (nA (fun _ => 0)))), (b4, .inl (cI, 36, .inl (nA (fun _ => 0)))), (b5, .inl (cI, 36, .inl (nA (fun _ => 0)))), (b6, .inl (cI, 36, .inl (nA (fun _ => 0))))] H := hP
  have hD : va_D A [(a, .inr (2, [.int (nI 0), .int (nI 0), .int (nI 0), .int (nI 0), .ref b1, .ref b2, .ref b3, .ref b4, .ref b5, .ref b6, .long (lN 0), .long (lN 0), .int (nI 0)])), (b1, .inl (cI, 36, .inl (nA (fun _ => 0)))), (b2, .inl (cI, 36, .inl (nA (fun _ => 0)))), (b3, .inl (cI, 36, .inl (nA (fun _ => 0)))), (b4, .inl (cI, 36, .inl (nA (fun _ => 0)))), (b5, .inl (cI, 36, .inl (nA (fun _ => 0)))), (b6, .inl (cI, 36, .inl (nA (fun _ => 0))))] := hD
  have h36 := wh36 hw6 hh6
  have hm6 : max w h ≤ 6 := Nat.max_le.mpr ⟨hw6, hh6⟩
  have hp9 : 1 ≤ 2 ^ max w h := Nat.pow_pos (by decide)
  refine lv_aload_n hx hb d_RC_init_52 rfl (lv_at hl 0 rfl) ?_
  refine lv_bipush (v := nI 36) hx hb d_RC_init_53 (by decide) ?_
  refine lv_iload_n hx hb d_RC_init_55 rfl (lv_at hl 1 rfl) ?_
  refine lv_iload_n hx hb d_RC_init_56 rfl (lv_at hl 2 rfl) ?_
  refine nr_imul hx hb d_RC_init_57 ?_
  refine va_mmin hx hb (hml.trans hl.1.symm) hown (ho _ km_RC_30) (ho _ kq_min.1) (ho _ kz_MT) (ho _ kq_min.2) (Nat.le_of_ble_eq_true rfl) (Nat.le_of_ble_eq_true rfl) (Nat.le_of_ble_eq_true rfl) (Nat.le_of_ble_eq_true rfl) d_RC_init_58 ?_
  rw [nI_min (a := 36) (b := w * h) (by omega) (by omega)]
  rw [Nat.min_eq_right h36]
  refine va_putF (D := D) (ci := 2) (v := .int (nI (w * h))) (ty := .int) (C := R_RC) (T := F_RC) (N := 13) hx hb ho j_RC t_RC t_RC_ok n_RC hown hK hP hD hS 0 rfl rfl 0 (by decide) (ho _ kf_RC_36) (fun _ h9 => h9) rfl hnm rfl (by decide +kernel) rfl rfl (Nat.le_of_ble_eq_true rfl) d_RC_init_61 (fun H locs hP hD hS => ?_)
  have hP : va_P D classes [(a, .inr (2, [.int (nI (w * h)), .int (nI 0), .int (nI 0), .int (nI 0), .ref b1, .ref b2, .ref b3, .ref b4, .ref b5, .ref b6, .long (lN 0), .long (lN 0), .int (nI 0)])), (b1, .inl (cI, 36, .inl (nA (fun _ => 0)))), (b2, .inl (cI, 36, .inl (nA (fun _ => 0)))), (b3, .inl (cI, 36, .inl (nA (fun _ => 0)))), (b4, .inl (cI, 36, .inl (nA (fun _ => 0)))), (b5, .inl (cI, 36, .inl (nA (fun _ => 0)))), (b6, .inl (cI, 36, .inl (nA (fun _ => 0))))] H := hP
  have hD : va_D A [(a, .inr (2, [.int (nI (w * h)), .int (nI 0), .int (nI 0), .int (nI 0), .ref b1, .ref b2, .ref b3, .ref b4, .ref b5, .ref b6, .long (lN 0), .long (lN 0), .int (nI 0)])), (b1, .inl (cI, 36, .inl (nA (fun _ => 0)))), (b2, .inl (cI, 36, .inl (nA (fun _ => 0)))), (b3, .inl (cI, 36, .inl (nA (fun _ => 0)))), (b4, .inl (cI, 36, .inl (nA (fun _ => 0)))), (b5, .inl (cI, 36, .inl (nA (fun _ => 0)))), (b6, .inl (cI, 36, .inl (nA (fun _ => 0))))] := hD
  refine lv_aload_n hx hb d_RC_init_64 rfl (lv_at hl 0 rfl) ?_
  refine lv_iload_n hx hb d_RC_init_65 rfl (lv_at hl 1 rfl) ?_
  refine lv_iload_n hx hb d_RC_init_66 rfl (lv_at hl 2 rfl) ?_
  refine va_mmax hx hb (hml.trans hl.1.symm) hown (ho _ km_RC_40) (ho _ kq_max.1) (ho _ kz_MT) (ho _ kq_max.2) (Nat.le_of_ble_eq_true rfl) (Nat.le_of_ble_eq_true rfl) (Nat.le_of_ble_eq_true rfl) (Nat.le_of_ble_eq_true rfl) d_RC_init_67 ?_
  rw [nI_max (a := w) (b := h) (by omega) (by omega)]
  refine va_putF (D := D) (ci := 2) (v := .int (nI (max w h))) (ty := .int) (C := R_RC) (T := F_RC) (N := 13) hx hb ho j_RC t_RC t_RC_ok n_RC hown hK hP hD hS 0 rfl rfl 1 (by decide) (ho _ kf_RC_43) (fun _ h9 => h9) rfl hnm rfl (by decide +kernel) rfl rfl (Nat.le_of_ble_eq_true rfl) d_RC_init_70 (fun H locs hP hD hS => ?_)
  have hP : va_P D classes [(a, .inr (2, [.int (nI (w * h)), .int (nI (max w h)), .int (nI 0), .int (nI 0), .ref b1, .ref b2, .ref b3, .ref b4, .ref b5, .ref b6, .long (lN 0), .long (lN 0), .int (nI 0)])), (b1, .inl (cI, 36, .inl (nA (fun _ => 0)))), (b2, .inl (cI, 36, .inl (nA (fun _ => 0)))), (b3, .inl (cI, 36, .inl (nA (fun _ => 0)))), (b4, .inl (cI, 36, .inl (nA (fun _ => 0)))), (b5, .inl (cI, 36, .inl (nA (fun _ => 0)))), (b6, .inl (cI, 36, .inl (nA (fun _ => 0))))] H := hP
  have hD : va_D A [(a, .inr (2, [.int (nI (w * h)), .int (nI (max w h)), .int (nI 0), .int (nI 0), .ref b1, .ref b2, .ref b3, .ref b4, .ref b5, .ref b6, .long (lN 0), .long (lN 0), .int (nI 0)])), (b1, .inl (cI, 36, .inl (nA (fun _ => 0)))), (b2, .inl (cI, 36, .inl (nA (fun _ => 0)))), (b3, .inl (cI, 36, .inl (nA (fun _ => 0)))), (b4, .inl (cI, 36, .inl (nA (fun _ => 0)))), (b5, .inl (cI, 36, .inl (nA (fun _ => 0)))), (b6, .inl (cI, 36, .inl (nA (fun _ => 0))))] := hD
  refine lv_aload_n hx hb d_RC_init_73 rfl (lv_at hl 0 rfl) ?_
  refine lv_iload_n hx hb d_RC_init_74 rfl (lv_at hl 1 rfl) ?_
  refine lv_iload_n hx hb d_RC_init_75 rfl (lv_at hl 2 rfl) ?_
  refine va_mmin hx hb (hml.trans hl.1.symm) hown (ho _ km_RC_30) (ho _ kq_min.1) (ho _ kz_MT) (ho _ kq_min.2) (Nat.le_of_ble_eq_true rfl) (Nat.le_of_ble_eq_true rfl) (Nat.le_of_ble_eq_true rfl) (Nat.le_of_ble_eq_true rfl) d_RC_init_76 ?_
  rw [nI_min (a := w) (b := h) (by omega) (by omega)]
  refine va_putF (D := D) (ci := 2) (v := .int (nI (min w h))) (ty := .int) (C := R_RC) (T := F_RC) (N := 13) hx hb ho j_RC t_RC t_RC_ok n_RC hown hK hP hD hS 0 rfl rfl 2 (by decide) (ho _ kf_RC_46) (fun _ h9 => h9) rfl hnm rfl (by decide +kernel) rfl rfl (Nat.le_of_ble_eq_true rfl) d_RC_init_79 (fun H locs hP hD hS => ?_)
  have hP : va_P D classes [(a, .inr (2, [.int (nI (w * h)), .int (nI (max w h)), .int (nI (min w h)), .int (nI 0), .ref b1, .ref b2, .ref b3, .ref b4, .ref b5, .ref b6, .long (lN 0), .long (lN 0), .int (nI 0)])), (b1, .inl (cI, 36, .inl (nA (fun _ => 0)))), (b2, .inl (cI, 36, .inl (nA (fun _ => 0)))), (b3, .inl (cI, 36, .inl (nA (fun _ => 0)))), (b4, .inl (cI, 36, .inl (nA (fun _ => 0)))), (b5, .inl (cI, 36, .inl (nA (fun _ => 0)))), (b6, .inl (cI, 36, .inl (nA (fun _ => 0))))] H := hP
  have hD : va_D A [(a, .inr (2, [.int (nI (w * h)), .int (nI (max w h)), .int (nI (min w h)), .int (nI 0), .ref b1, .ref b2, .ref b3, .ref b4, .ref b5, .ref b6, .long (lN 0), .long (lN 0), .int (nI 0)])), (b1, .inl (cI, 36, .inl (nA (fun _ => 0)))), (b2, .inl (cI, 36, .inl (nA (fun _ => 0)))), (b3, .inl (cI, 36, .inl (nA (fun _ => 0)))), (b4, .inl (cI, 36, .inl (nA (fun _ => 0)))), (b5, .inl (cI, 36, .inl (nA (fun _ => 0)))), (b6, .inl (cI, 36, .inl (nA (fun _ => 0))))] := hD
  refine lv_aload_n hx hb d_RC_init_82 rfl (lv_at hl 0 rfl) ?_
  refine lv_iconst (v := nI 2) hx hb d_RC_init_83 (by decide) ?_
  refine lv_aload_n hx hb d_RC_init_84 rfl (lv_at hl 0 rfl) ?_
  refine va_get (D := D) (ci := 2) (v := .int (nI (max w h))) (C := R_RC) (T := F_RC) (N := 13) hx hb ho j_RC hown hK hP 0 rfl rfl 1 (by decide) (ho _ kf_RC_43) (fun _ h9 => h9) rfl d_RC_init_85 ?_
  refine nr_ishl hx hb d_RC_init_88 (by omega) ?_
  refine lv_iconst (v := nI 2) hx hb d_RC_init_89 (by decide) ?_
  refine nr_isub hx hb d_RC_init_90 (by omega) ?_
  refine va_putF (D := D) (ci := 2) (v := .int (nI ((2 * 2 ^ (max w h)) - 2))) (ty := .int) (C := R_RC) (T := F_RC) (N := 13) hx hb ho j_RC t_RC t_RC_ok n_RC hown hK hP hD hS 0 rfl rfl 3 (by decide) (ho _ kf_RC_49) (fun _ h9 => h9) rfl hnm rfl (by decide +kernel) rfl rfl (Nat.le_of_ble_eq_true rfl) d_RC_init_91 (fun H locs hP hD hS => ?_)
  have hP : va_P D classes [(a, .inr (2, [.int (nI (w * h)), .int (nI (max w h)), .int (nI (min w h)), .int (nI ((2 * 2 ^ (max w h)) - 2)), .ref b1, .ref b2, .ref b3, .ref b4, .ref b5, .ref b6, .long (lN 0), .long (lN 0), .int (nI 0)])), (b1, .inl (cI, 36, .inl (nA (fun _ => 0)))), (b2, .inl (cI, 36, .inl (nA (fun _ => 0)))), (b3, .inl (cI, 36, .inl (nA (fun _ => 0)))), (b4, .inl (cI, 36, .inl (nA (fun _ => 0)))), (b5, .inl (cI, 36, .inl (nA (fun _ => 0)))), (b6, .inl (cI, 36, .inl (nA (fun _ => 0))))] H := hP
  have hD : va_D A [(a, .inr (2, [.int (nI (w * h)), .int (nI (max w h)), .int (nI (min w h)), .int (nI ((2 * 2 ^ (max w h)) - 2)), .ref b1, .ref b2, .ref b3, .ref b4, .ref b5, .ref b6, .long (lN 0), .long (lN 0), .int (nI 0)])), (b1, .inl (cI, 36, .inl (nA (fun _ => 0)))), (b2, .inl (cI, 36, .inl (nA (fun _ => 0)))), (b3, .inl (cI, 36, .inl (nA (fun _ => 0)))), (b4, .inl (cI, 36, .inl (nA (fun _ => 0)))), (b5, .inl (cI, 36, .inl (nA (fun _ => 0)))), (b6, .inl (cI, 36, .inl (nA (fun _ => 0))))] := hD
  refine lv_iconst (v := nI 0) hx hb d_RC_init_94 (by decide) ?_
  refine lv_istore_n (lv' := [(3, .int (nI 0)), (0, .ref a), (1, .int (nI w)), (2, .int (nI h))]) hx hb d_RC_init_95 rfl hl (by decide) rfl (fun ls hl => ?_)
  rw [show lN 0 = lN (lz (fun _ => 0)) by rw [lz_0]] at hP hD
  have hP : va_P D classes [(a, .inr (2, [.int (nI (w * h)), .int (nI (max w h)), .int (nI (min w h)), .int (nI ((2 * 2 ^ (max w h)) - 2)), .ref b1, .ref b2, .ref b3, .ref b4, .ref b5, .ref b6, .long (lN (lz (fun _ => 0))), .long (lN (lz (fun _ => 0))), .int (nI 0)])), (b1, .inl (cI, 36, .inl (nA (fun _ => 0)))), (b2, .inl (cI, 36, .inl (nA (fun _ => 0)))), (b3, .inl (cI, 36, .inl (nA (fun _ => 0)))), (b4, .inl (cI, 36, .inl (nA (fun _ => 0)))), (b5, .inl (cI, 36, .inl (nA (e8 (fun _ => 0))))), (b6, .inl (cI, 36, .inl (nA (e8 (fun _ => 0)))))] H := hP
  have hD : va_D A [(a, .inr (2, [.int (nI (w * h)), .int (nI (max w h)), .int (nI (min w h)), .int (nI ((2 * 2 ^ (max w h)) - 2)), .ref b1, .ref b2, .ref b3, .ref b4, .ref b5, .ref b6, .long (lN (lz (fun _ => 0))), .long (lN (lz (fun _ => 0))), .int (nI 0)])), (b1, .inl (cI, 36, .inl (nA (fun _ => 0)))), (b2, .inl (cI, 36, .inl (nA (fun _ => 0)))), (b3, .inl (cI, 36, .inl (nA (fun _ => 0)))), (b4, .inl (cI, 36, .inl (nA (fun _ => 0)))), (b5, .inl (cI, 36, .inl (nA (e8 (fun _ => 0))))), (b6, .inl (cI, 36, .inl (nA (e8 (fun _ => 0)))))] := hD
  exact L_RC_iy a b1 b2 b3 b4 b5 b6 w h hw6 hh6 E 7 0 (fun _ => 0) (fun _ => 0) (by omega) (by omega) ⟨b1, b2, b3, b4, b5, b6, rfl⟩ _ _ hP hD hS ls (lv_sub hl [1, 2, 3, 0] rfl)
