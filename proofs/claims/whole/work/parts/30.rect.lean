/-! Rectangle: its small methods -/
theorem nr_ishl1 {p : Program} {l : Launch} {e : Env} {R : Room} {s : State} {m : MethodId} {args : Array Value} {below : List Frame} {meth : Method} {c : Code} {H : Heap} {locs : List Loc} {cells slots : Nat} {Q : State → Prop} {pc : Nat} {ls : Array Slot} {rest : List Value} {cc : ByteArray} (hx : p.tables.exec = Jvm.exec) (hb : c.code = cc) {b : Nat} (hd : decode cc pc = .ok (.ishl, 1)) (h : b < 32) (k : W p l e R s m args below meth c H locs cells slots Q (F0 m (pc + 1) ls (.int (nI (2 ^ b)) :: rest))) : W p l e R s m args below meth c H locs cells slots Q (F0 m pc ls (.int (nI b) :: .int (nI 1) :: rest)) :=
  nr_ishl hx hb hd h (by rw [Nat.one_mul]; exact k)
/-- the numbers that no cell of the column or the row has -/
def rCh (al : Nat) (co ro uc ur : Nat → Nat) (k : Nat) : Nat := al &&& ((uc (co k) ||| ur (ro k)) ^^^ 4294967295)
theorem rCh_le (al : Nat) (co ro uc ur : Nat → Nat) (k : Nat) : rCh al co ro uc ur k ≤ al := Nat.and_le_left
def rPut (f : Nat → Nat) (i v : Nat) : Nat → Nat := va_up f i (f i ||| 2 ^ v)
def rTake (f : Nat → Nat) (i v : Nat) : Nat → Nat := va_up f i (f i &&& (2 ^ v ^^^ 4294967295))
theorem up_lt {f : Nat → Nat} {i x b : Nat} (h : ∀ k, f k < b) (hx : x < b) : ∀ k, va_up f i x k < b := fun k => by
  unfold va_up
  split
  · exact hx
  · exact h k
theorem rPut_lt {f : Nat → Nat} {i v : Nat} (h : ∀ k, f k < 128) (hv : v < 7) : ∀ k, rPut f i v k < 128 :=
  up_lt h (Nat.or_lt_two_pow (n := 7) (h i) (Nat.pow_lt_pow_right (by decide) hv))
theorem rTake_lt {f : Nat → Nat} {i v : Nat} (h : ∀ k, f k < 128) : ∀ k, rTake f i v k < 128 :=
  up_lt h (Nat.lt_of_le_of_lt Nat.and_le_left (h i))
theorem nA_cpy (f g : Nat → Nat) (a b n : Nat) : va_cpy (nA f) (nA g) a b n = nA (va_cpy f g a b n) := by
  funext k
  simp only [va_cpy, nA]
  split <;> rfl
set_option maxHeartbeats 1000000 in
set_option maxRecDepth 100000 in
theorem c_RC_choicesAt (l : Launch) (D : va_G) (cI cL : ClassId) (a b1 b2 b3 b4 b5 b6 b7 b8 b9 b10 n g sh al fd : Nat) (fx le tr wi co ro uc ur pm qm : Nat → Nat) (k : Nat) (hk : k < 36) (hco : ∀ k, co k < 6) (hro : ∀ k, ro k < 6) : CI l y_RC_choicesAt (.code y_RC_choicesAt b_RC_choicesAt 2 (some .int) :: Om) { frames := 0, cells := 0, slots := 0, locals := 0 } D [(a, .inr (2, [.int (nI n), .int (nI g), .int (nI sh), .int (nI al), .ref b1, .ref b2, .ref b3, .ref b4, .ref b5, .ref b6, .ref b7, .ref b8, .ref b9, .ref b10, .int (nI fd)])), (b1, .inl (cI, 36, .inl (nA fx))), (b2, .inl (cI, 36, .inl (nA le))), (b3, .inl (cI, 36, .inl (nA tr))), (b4, .inl (cI, 36, .inl (nA wi))), (b5, .inl (cI, 36, .inl (nA co))), (b6, .inl (cI, 36, .inl (nA ro))), (b7, .inl (cI, 6, .inl (nA uc))), (b8, .inl (cI, 6, .inl (nA ur))), (b9, .inl (cI, 6, .inl (nA pm))), (b10, .inl (cI, 6, .inl (nA qm)))] [(cI, .int), (cL, .long)] [.ref a, .int (nI k)] (fun r u => r = nI (rCh al co ro uc ur k) ∧ u = [(a, .inr (2, [.int (nI n), .int (nI g), .int (nI sh), .int (nI al), .ref b1, .ref b2, .ref b3, .ref b4, .ref b5, .ref b6, .ref b7, .ref b8, .ref b9, .ref b10, .int (nI fd)])), (b1, .inl (cI, 36, .inl (nA fx))), (b2, .inl (cI, 36, .inl (nA le))), (b3, .inl (cI, 36, .inl (nA tr))), (b4, .inl (cI, 36, .inl (nA wi))), (b5, .inl (cI, 36, .inl (nA co))), (b6, .inl (cI, 36, .inl (nA ro))), (b7, .inl (cI, 6, .inl (nA uc))), (b8, .inl (cI, 6, .inl (nA ur))), (b9, .inl (cI, 6, .inl (nA pm))), (b10, .inl (cI, 6, .inl (nA qm)))]) := by
  refine en_of (cc := b_RC_choicesAt) (Qc := qI D [(cI, .int), (cL, .long)] (fun r u => r = nI (rCh al co ro uc ur k) ∧ u = [(a, .inr (2, [.int (nI n), .int (nI g), .int (nI sh), .int (nI al), .ref b1, .ref b2, .ref b3, .ref b4, .ref b5, .ref b6, .ref b7, .ref b8, .ref b9, .ref b10, .int (nI fd)])), (b1, .inl (cI, 36, .inl (nA fx))), (b2, .inl (cI, 36, .inl (nA le))), (b3, .inl (cI, 36, .inl (nA tr))), (b4, .inl (cI, 36, .inl (nA wi))), (b5, .inl (cI, 36, .inl (nA co))), (b6, .inl (cI, 36, .inl (nA ro))), (b7, .inl (cI, 6, .inl (nA uc))), (b8, .inl (cI, 6, .inl (nA ur))), (b9, .inl (cI, 6, .inl (nA pm))), (b10, .inl (cI, 6, .inl (nA qm)))])) (by decide) rfl (Nat.le_of_ble_eq_true rfl) ?_
  intro p e s m below meth c A E hnm hP hD hS ls hl
  have hl : lv_has ls 2 [(0, .ref a), (1, .int (nI k))] := hl
  obtain ⟨hx, hb, hml, hown, hts, hr, hlk, hA, hK, hN⟩ := id E
  have ho : ∀ q ∈ Om, q.before _ s = true := fun q h => hts q (List.mem_cons_of_mem _ h)
  have hk1 := hco k
  have hk2 := hro k
  refine lv_iload_n hx hb d_RC_choicesAt_0 rfl (lv_at hl 1 rfl) ?_
  refine nr_if_lt (tgt := 10) hx hb d_RC_choicesAt_1 (by decide) (by omega) ?_
  refine lv_iload_n hx hb d_RC_choicesAt_4 rfl (lv_at hl 1 rfl) ?_
  refine lv_bipush (v := nI 36) hx hb d_RC_choicesAt_5 (by decide) ?_
  refine nr_icmp_lt (tgt := 12) hx hb d_RC_choicesAt_7 (by decide) (by omega) (by omega) (fun _ => ?_) (fun h9 => absurd h9 (by omega))
  refine lv_aload_n hx hb d_RC_choicesAt_12 rfl (lv_at hl 0 rfl) ?_
  refine va_get (D := D) (ci := 2) (v := .int (nI al)) (C := R_RC) (T := F_RC) (N := 15) hx hb ho j_RC hown hK hP 0 rfl rfl 3 (by decide) (ho _ kf_RC_61) (fun _ h9 => h9) rfl d_RC_choicesAt_13 ?_
  refine lv_aload_n hx hb d_RC_choicesAt_16 rfl (lv_at hl 0 rfl) ?_
  refine va_get (D := D) (ci := 2) (v := .ref b7) (C := R_RC) (T := F_RC) (N := 15) hx hb ho j_RC hown hK hP 0 rfl rfl 10 (by decide) (ho _ kf_RC_30) (fun _ h9 => h9) rfl d_RC_choicesAt_17 ?_
  refine lv_aload_n hx hb d_RC_choicesAt_20 rfl (lv_at hl 0 rfl) ?_
  refine va_get (D := D) (ci := 2) (v := .ref b5) (C := R_RC) (T := F_RC) (N := 15) hx hb ho j_RC hown hK hP 0 rfl rfl 8 (by decide) (ho _ kf_RC_24) (fun _ h9 => h9) rfl d_RC_choicesAt_21 ?_
  refine lv_iload_n hx hb d_RC_choicesAt_24 rfl (lv_at hl 1 rfl) ?_
  refine nr_ialdN hx hb hK hP 5 0 rfl rfl (i := k) (by omega) (by decide) d_RC_choicesAt_25 ?_
  refine nr_ialdN hx hb hK hP 7 0 rfl rfl (i := co k) (by omega) (by decide) d_RC_choicesAt_26 ?_
  refine lv_aload_n hx hb d_RC_choicesAt_27 rfl (lv_at hl 0 rfl) ?_
  refine va_get (D := D) (ci := 2) (v := .ref b8) (C := R_RC) (T := F_RC) (N := 15) hx hb ho j_RC hown hK hP 0 rfl rfl 11 (by decide) (ho _ kf_RC_33) (fun _ h9 => h9) rfl d_RC_choicesAt_28 ?_
  refine lv_aload_n hx hb d_RC_choicesAt_31 rfl (lv_at hl 0 rfl) ?_
  refine va_get (D := D) (ci := 2) (v := .ref b6) (C := R_RC) (T := F_RC) (N := 15) hx hb ho j_RC hown hK hP 0 rfl rfl 9 (by decide) (ho _ kf_RC_27) (fun _ h9 => h9) rfl d_RC_choicesAt_32 ?_
  refine lv_iload_n hx hb d_RC_choicesAt_35 rfl (lv_at hl 1 rfl) ?_
  refine nr_ialdN hx hb hK hP 6 0 rfl rfl (i := k) (by omega) (by decide) d_RC_choicesAt_36 ?_
  refine nr_ialdN hx hb hK hP 8 0 rfl rfl (i := ro k) (by omega) (by decide) d_RC_choicesAt_37 ?_
  refine nr_ior hx hb d_RC_choicesAt_38 ?_
  refine lv_iconst (v := nI 4294967295) hx hb d_RC_choicesAt_39 (by decide) ?_
  refine nr_ixor hx hb d_RC_choicesAt_40 ?_
  refine nr_iand hx hb d_RC_choicesAt_41 ?_
  exact rt_i E hP hD hS ⟨rfl, rfl⟩ d_RC_choicesAt_42
set_option maxHeartbeats 1000000 in
set_option maxRecDepth 100000 in
theorem c_RC_put (l : Launch) (D : va_G) (cI cL : ClassId) (a b1 b2 b3 b4 b5 b6 b7 b8 b9 b10 n g sh al fd : Nat) (fx le tr wi co ro uc ur pm qm : Nat → Nat) (k v : Nat) (hk : k < 36) (hv : v < 32) (hco : ∀ k, co k < 6) (hro : ∀ k, ro k < 6) : CV l y_RC_put (.code y_RC_put b_RC_put 3 none :: Om) { frames := 0, cells := 0, slots := 0, locals := 0 } D [(a, .inr (2, [.int (nI n), .int (nI g), .int (nI sh), .int (nI al), .ref b1, .ref b2, .ref b3, .ref b4, .ref b5, .ref b6, .ref b7, .ref b8, .ref b9, .ref b10, .int (nI fd)])), (b1, .inl (cI, 36, .inl (nA fx))), (b2, .inl (cI, 36, .inl (nA le))), (b3, .inl (cI, 36, .inl (nA tr))), (b4, .inl (cI, 36, .inl (nA wi))), (b5, .inl (cI, 36, .inl (nA co))), (b6, .inl (cI, 36, .inl (nA ro))), (b7, .inl (cI, 6, .inl (nA uc))), (b8, .inl (cI, 6, .inl (nA ur))), (b9, .inl (cI, 6, .inl (nA pm))), (b10, .inl (cI, 6, .inl (nA qm)))] [(cI, .int), (cL, .long)] [.ref a, .int (nI k), .int (nI v)] (fun u => u = [(a, .inr (2, [.int (nI n), .int (nI g), .int (nI sh), .int (nI al), .ref b1, .ref b2, .ref b3, .ref b4, .ref b5, .ref b6, .ref b7, .ref b8, .ref b9, .ref b10, .int (nI fd)])), (b1, .inl (cI, 36, .inl (nA fx))), (b2, .inl (cI, 36, .inl (nA le))), (b3, .inl (cI, 36, .inl (nA (va_up tr k v)))), (b4, .inl (cI, 36, .inl (nA wi))), (b5, .inl (cI, 36, .inl (nA co))), (b6, .inl (cI, 36, .inl (nA ro))), (b7, .inl (cI, 6, .inl (nA (rPut uc (co k) v)))), (b8, .inl (cI, 6, .inl (nA (rPut ur (ro k) v)))), (b9, .inl (cI, 6, .inl (nA pm))), (b10, .inl (cI, 6, .inl (nA qm)))]) := by
  refine en_of (cc := b_RC_put) (Qc := qV D [(cI, .int), (cL, .long)] (fun u => u = [(a, .inr (2, [.int (nI n), .int (nI g), .int (nI sh), .int (nI al), .ref b1, .ref b2, .ref b3, .ref b4, .ref b5, .ref b6, .ref b7, .ref b8, .ref b9, .ref b10, .int (nI fd)])), (b1, .inl (cI, 36, .inl (nA fx))), (b2, .inl (cI, 36, .inl (nA le))), (b3, .inl (cI, 36, .inl (nA (va_up tr k v)))), (b4, .inl (cI, 36, .inl (nA wi))), (b5, .inl (cI, 36, .inl (nA co))), (b6, .inl (cI, 36, .inl (nA ro))), (b7, .inl (cI, 6, .inl (nA (rPut uc (co k) v)))), (b8, .inl (cI, 6, .inl (nA (rPut ur (ro k) v)))), (b9, .inl (cI, 6, .inl (nA pm))), (b10, .inl (cI, 6, .inl (nA qm)))])) (by decide) rfl (Nat.le_of_ble_eq_true rfl) ?_
  intro p e s m below meth c A E hnm hP hD hS ls hl
  have hl : lv_has ls 3 [(0, .ref a), (1, .int (nI k)), (2, .int (nI v))] := hl
  obtain ⟨hx, hb, hml, hown, hts, hr, hlk, hA, hK, hN⟩ := id E
  have ho : ∀ q ∈ Om, q.before _ s = true := fun q h => hts q (List.mem_cons_of_mem _ h)
  have hk1 := hco k
  have hk2 := hro k
  refine lv_iload_n hx hb d_RC_put_0 rfl (lv_at hl 1 rfl) ?_
  refine nr_if_lt (tgt := 10) hx hb d_RC_put_1 (by decide) (by omega) ?_
  refine lv_iload_n hx hb d_RC_put_4 rfl (lv_at hl 1 rfl) ?_
  refine lv_bipush (v := nI 36) hx hb d_RC_put_5 (by decide) ?_
  refine nr_icmp_lt (tgt := 11) hx hb d_RC_put_7 (by decide) (by omega) (by omega) (fun _ => ?_) (fun h9 => absurd h9 (by omega))
  refine lv_aload_n hx hb d_RC_put_11 rfl (lv_at hl 0 rfl) ?_
  refine va_get (D := D) (ci := 2) (v := .ref b3) (C := R_RC) (T := F_RC) (N := 15) hx hb ho j_RC hown hK hP 0 rfl rfl 6 (by decide) (ho _ kf_RC_18) (fun _ h9 => h9) rfl d_RC_put_12 ?_
  refine lv_iload_n hx hb d_RC_put_15 rfl (lv_at hl 1 rfl) ?_
  refine lv_iload_n hx hb d_RC_put_16 rfl (lv_at hl 2 rfl) ?_
  refine nr_iast hx hb hK hP hD hS 3 0 rfl rfl (i := k) (x := v) (by omega) (by decide) d_RC_put_17 (fun H locs hP hD hS => ?_)
  have hP : va_P D classes [(a, .inr (2, [.int (nI n), .int (nI g), .int (nI sh), .int (nI al), .ref b1, .ref b2, .ref b3, .ref b4, .ref b5, .ref b6, .ref b7, .ref b8, .ref b9, .ref b10, .int (nI fd)])), (b1, .inl (cI, 36, .inl (nA fx))), (b2, .inl (cI, 36, .inl (nA le))), (b3, .inl (cI, 36, .inl (nA (va_up tr k v)))), (b4, .inl (cI, 36, .inl (nA wi))), (b5, .inl (cI, 36, .inl (nA co))), (b6, .inl (cI, 36, .inl (nA ro))), (b7, .inl (cI, 6, .inl (nA uc))), (b8, .inl (cI, 6, .inl (nA ur))), (b9, .inl (cI, 6, .inl (nA pm))), (b10, .inl (cI, 6, .inl (nA qm)))] H := hP
  have hD : va_D A [(a, .inr (2, [.int (nI n), .int (nI g), .int (nI sh), .int (nI al), .ref b1, .ref b2, .ref b3, .ref b4, .ref b5, .ref b6, .ref b7, .ref b8, .ref b9, .ref b10, .int (nI fd)])), (b1, .inl (cI, 36, .inl (nA fx))), (b2, .inl (cI, 36, .inl (nA le))), (b3, .inl (cI, 36, .inl (nA (va_up tr k v)))), (b4, .inl (cI, 36, .inl (nA wi))), (b5, .inl (cI, 36, .inl (nA co))), (b6, .inl (cI, 36, .inl (nA ro))), (b7, .inl (cI, 6, .inl (nA uc))), (b8, .inl (cI, 6, .inl (nA ur))), (b9, .inl (cI, 6, .inl (nA pm))), (b10, .inl (cI, 6, .inl (nA qm)))] := hD
  refine lv_aload_n hx hb d_RC_put_18 rfl (lv_at hl 0 rfl) ?_
  refine va_get (D := D) (ci := 2) (v := .ref b7) (C := R_RC) (T := F_RC) (N := 15) hx hb ho j_RC hown hK hP 0 rfl rfl 10 (by decide) (ho _ kf_RC_30) (fun _ h9 => h9) rfl d_RC_put_19 ?_
  refine lv_aload_n hx hb d_RC_put_22 rfl (lv_at hl 0 rfl) ?_
  refine va_get (D := D) (ci := 2) (v := .ref b5) (C := R_RC) (T := F_RC) (N := 15) hx hb ho j_RC hown hK hP 0 rfl rfl 8 (by decide) (ho _ kf_RC_24) (fun _ h9 => h9) rfl d_RC_put_23 ?_
  refine lv_iload_n hx hb d_RC_put_26 rfl (lv_at hl 1 rfl) ?_
  refine nr_ialdN hx hb hK hP 5 0 rfl rfl (i := k) (by omega) (by decide) d_RC_put_27 ?_
  refine lv_dup2_11 hx hb d_RC_put_28 rfl rfl ?_
  refine nr_ialdN hx hb hK hP 7 0 rfl rfl (i := co k) (by omega) (by decide) d_RC_put_29 ?_
  refine lv_iconst (v := nI 1) hx hb d_RC_put_30 (by decide) ?_
  refine lv_iload_n hx hb d_RC_put_31 rfl (lv_at hl 2 rfl) ?_
  refine nr_ishl1 hx hb d_RC_put_32 (by omega) ?_
  refine nr_ior hx hb d_RC_put_33 ?_
  refine nr_iast hx hb hK hP hD hS 7 0 rfl rfl (i := co k) (x := (uc (co k)) ||| (2 ^ v)) (by omega) (by decide) d_RC_put_34 (fun H locs hP hD hS => ?_)
  have hP : va_P D classes [(a, .inr (2, [.int (nI n), .int (nI g), .int (nI sh), .int (nI al), .ref b1, .ref b2, .ref b3, .ref b4, .ref b5, .ref b6, .ref b7, .ref b8, .ref b9, .ref b10, .int (nI fd)])), (b1, .inl (cI, 36, .inl (nA fx))), (b2, .inl (cI, 36, .inl (nA le))), (b3, .inl (cI, 36, .inl (nA (va_up tr k v)))), (b4, .inl (cI, 36, .inl (nA wi))), (b5, .inl (cI, 36, .inl (nA co))), (b6, .inl (cI, 36, .inl (nA ro))), (b7, .inl (cI, 6, .inl (nA (va_up uc (co k) ((uc (co k)) ||| (2 ^ v)))))), (b8, .inl (cI, 6, .inl (nA ur))), (b9, .inl (cI, 6, .inl (nA pm))), (b10, .inl (cI, 6, .inl (nA qm)))] H := hP
  have hD : va_D A [(a, .inr (2, [.int (nI n), .int (nI g), .int (nI sh), .int (nI al), .ref b1, .ref b2, .ref b3, .ref b4, .ref b5, .ref b6, .ref b7, .ref b8, .ref b9, .ref b10, .int (nI fd)])), (b1, .inl (cI, 36, .inl (nA fx))), (b2, .inl (cI, 36, .inl (nA le))), (b3, .inl (cI, 36, .inl (nA (va_up tr k v)))), (b4, .inl (cI, 36, .inl (nA wi))), (b5, .inl (cI, 36, .inl (nA co))), (b6, .inl (cI, 36, .inl (nA ro))), (b7, .inl (cI, 6, .inl (nA (va_up uc (co k) ((uc (co k)) ||| (2 ^ v)))))), (b8, .inl (cI, 6, .inl (nA ur))), (b9, .inl (cI, 6, .inl (nA pm))), (b10, .inl (cI, 6, .inl (nA qm)))] := hD
  refine lv_aload_n hx hb d_RC_put_35 rfl (lv_at hl 0 rfl) ?_
  refine va_get (D := D) (ci := 2) (v := .ref b8) (C := R_RC) (T := F_RC) (N := 15) hx hb ho j_RC hown hK hP 0 rfl rfl 11 (by decide) (ho _ kf_RC_33) (fun _ h9 => h9) rfl d_RC_put_36 ?_
  refine lv_aload_n hx hb d_RC_put_39 rfl (lv_at hl 0 rfl) ?_
  refine va_get (D := D) (ci := 2) (v := .ref b6) (C := R_RC) (T := F_RC) (N := 15) hx hb ho j_RC hown hK hP 0 rfl rfl 9 (by decide) (ho _ kf_RC_27) (fun _ h9 => h9) rfl d_RC_put_40 ?_
  refine lv_iload_n hx hb d_RC_put_43 rfl (lv_at hl 1 rfl) ?_
  refine nr_ialdN hx hb hK hP 6 0 rfl rfl (i := k) (by omega) (by decide) d_RC_put_44 ?_
  refine lv_dup2_11 hx hb d_RC_put_45 rfl rfl ?_
  refine nr_ialdN hx hb hK hP 8 0 rfl rfl (i := ro k) (by omega) (by decide) d_RC_put_46 ?_
  refine lv_iconst (v := nI 1) hx hb d_RC_put_47 (by decide) ?_
  refine lv_iload_n hx hb d_RC_put_48 rfl (lv_at hl 2 rfl) ?_
  refine nr_ishl1 hx hb d_RC_put_49 (by omega) ?_
  refine nr_ior hx hb d_RC_put_50 ?_
  refine nr_iast hx hb hK hP hD hS 8 0 rfl rfl (i := ro k) (x := (ur (ro k)) ||| (2 ^ v)) (by omega) (by decide) d_RC_put_51 (fun H locs hP hD hS => ?_)
  have hP : va_P D classes [(a, .inr (2, [.int (nI n), .int (nI g), .int (nI sh), .int (nI al), .ref b1, .ref b2, .ref b3, .ref b4, .ref b5, .ref b6, .ref b7, .ref b8, .ref b9, .ref b10, .int (nI fd)])), (b1, .inl (cI, 36, .inl (nA fx))), (b2, .inl (cI, 36, .inl (nA le))), (b3, .inl (cI, 36, .inl (nA (va_up tr k v)))), (b4, .inl (cI, 36, .inl (nA wi))), (b5, .inl (cI, 36, .inl (nA co))), (b6, .inl (cI, 36, .inl (nA ro))), (b7, .inl (cI, 6, .inl (nA (va_up uc (co k) ((uc (co k)) ||| (2 ^ v)))))), (b8, .inl (cI, 6, .inl (nA (va_up ur (ro k) ((ur (ro k)) ||| (2 ^ v)))))), (b9, .inl (cI, 6, .inl (nA pm))), (b10, .inl (cI, 6, .inl (nA qm)))] H := hP
  have hD : va_D A [(a, .inr (2, [.int (nI n), .int (nI g), .int (nI sh), .int (nI al), .ref b1, .ref b2, .ref b3, .ref b4, .ref b5, .ref b6, .ref b7, .ref b8, .ref b9, .ref b10, .int (nI fd)])), (b1, .inl (cI, 36, .inl (nA fx))), (b2, .inl (cI, 36, .inl (nA le))), (b3, .inl (cI, 36, .inl (nA (va_up tr k v)))), (b4, .inl (cI, 36, .inl (nA wi))), (b5, .inl (cI, 36, .inl (nA co))), (b6, .inl (cI, 36, .inl (nA ro))), (b7, .inl (cI, 6, .inl (nA (va_up uc (co k) ((uc (co k)) ||| (2 ^ v)))))), (b8, .inl (cI, 6, .inl (nA (va_up ur (ro k) ((ur (ro k)) ||| (2 ^ v)))))), (b9, .inl (cI, 6, .inl (nA pm))), (b10, .inl (cI, 6, .inl (nA qm)))] := hD
  exact rt_v E hP hD hS rfl d_RC_put_52
set_option maxHeartbeats 1000000 in
set_option maxRecDepth 100000 in
theorem c_RC_take (l : Launch) (D : va_G) (cI cL : ClassId) (a b1 b2 b3 b4 b5 b6 b7 b8 b9 b10 n g sh al fd : Nat) (fx le tr wi co ro uc ur pm qm : Nat → Nat) (k v : Nat) (hk : k < 36) (hv : v < 32) (hco : ∀ k, co k < 6) (hro : ∀ k, ro k < 6) : CV l y_RC_take (.code y_RC_take b_RC_take 3 none :: Om) { frames := 0, cells := 0, slots := 0, locals := 0 } D [(a, .inr (2, [.int (nI n), .int (nI g), .int (nI sh), .int (nI al), .ref b1, .ref b2, .ref b3, .ref b4, .ref b5, .ref b6, .ref b7, .ref b8, .ref b9, .ref b10, .int (nI fd)])), (b1, .inl (cI, 36, .inl (nA fx))), (b2, .inl (cI, 36, .inl (nA le))), (b3, .inl (cI, 36, .inl (nA tr))), (b4, .inl (cI, 36, .inl (nA wi))), (b5, .inl (cI, 36, .inl (nA co))), (b6, .inl (cI, 36, .inl (nA ro))), (b7, .inl (cI, 6, .inl (nA uc))), (b8, .inl (cI, 6, .inl (nA ur))), (b9, .inl (cI, 6, .inl (nA pm))), (b10, .inl (cI, 6, .inl (nA qm)))] [(cI, .int), (cL, .long)] [.ref a, .int (nI k), .int (nI v)] (fun u => u = [(a, .inr (2, [.int (nI n), .int (nI g), .int (nI sh), .int (nI al), .ref b1, .ref b2, .ref b3, .ref b4, .ref b5, .ref b6, .ref b7, .ref b8, .ref b9, .ref b10, .int (nI fd)])), (b1, .inl (cI, 36, .inl (nA fx))), (b2, .inl (cI, 36, .inl (nA le))), (b3, .inl (cI, 36, .inl (nA (va_up tr k 0)))), (b4, .inl (cI, 36, .inl (nA wi))), (b5, .inl (cI, 36, .inl (nA co))), (b6, .inl (cI, 36, .inl (nA ro))), (b7, .inl (cI, 6, .inl (nA (rTake uc (co k) v)))), (b8, .inl (cI, 6, .inl (nA (rTake ur (ro k) v)))), (b9, .inl (cI, 6, .inl (nA pm))), (b10, .inl (cI, 6, .inl (nA qm)))]) := by
  refine en_of (cc := b_RC_take) (Qc := qV D [(cI, .int), (cL, .long)] (fun u => u = [(a, .inr (2, [.int (nI n), .int (nI g), .int (nI sh), .int (nI al), .ref b1, .ref b2, .ref b3, .ref b4, .ref b5, .ref b6, .ref b7, .ref b8, .ref b9, .ref b10, .int (nI fd)])), (b1, .inl (cI, 36, .inl (nA fx))), (b2, .inl (cI, 36, .inl (nA le))), (b3, .inl (cI, 36, .inl (nA (va_up tr k 0)))), (b4, .inl (cI, 36, .inl (nA wi))), (b5, .inl (cI, 36, .inl (nA co))), (b6, .inl (cI, 36, .inl (nA ro))), (b7, .inl (cI, 6, .inl (nA (rTake uc (co k) v)))), (b8, .inl (cI, 6, .inl (nA (rTake ur (ro k) v)))), (b9, .inl (cI, 6, .inl (nA pm))), (b10, .inl (cI, 6, .inl (nA qm)))])) (by decide) rfl (Nat.le_of_ble_eq_true rfl) ?_
  intro p e s m below meth c A E hnm hP hD hS ls hl
  have hl : lv_has ls 3 [(0, .ref a), (1, .int (nI k)), (2, .int (nI v))] := hl
  obtain ⟨hx, hb, hml, hown, hts, hr, hlk, hA, hK, hN⟩ := id E
  have ho : ∀ q ∈ Om, q.before _ s = true := fun q h => hts q (List.mem_cons_of_mem _ h)
  have hk1 := hco k
  have hk2 := hro k
  refine lv_iload_n hx hb d_RC_take_0 rfl (lv_at hl 1 rfl) ?_
  refine nr_if_lt (tgt := 10) hx hb d_RC_take_1 (by decide) (by omega) ?_
  refine lv_iload_n hx hb d_RC_take_4 rfl (lv_at hl 1 rfl) ?_
  refine lv_bipush (v := nI 36) hx hb d_RC_take_5 (by decide) ?_
  refine nr_icmp_lt (tgt := 11) hx hb d_RC_take_7 (by decide) (by omega) (by omega) (fun _ => ?_) (fun h9 => absurd h9 (by omega))
  refine lv_aload_n hx hb d_RC_take_11 rfl (lv_at hl 0 rfl) ?_
  refine va_get (D := D) (ci := 2) (v := .ref b3) (C := R_RC) (T := F_RC) (N := 15) hx hb ho j_RC hown hK hP 0 rfl rfl 6 (by decide) (ho _ kf_RC_18) (fun _ h9 => h9) rfl d_RC_take_12 ?_
  refine lv_iload_n hx hb d_RC_take_15 rfl (lv_at hl 1 rfl) ?_
  refine lv_iconst (v := nI 0) hx hb d_RC_take_16 (by decide) ?_
  refine nr_iast hx hb hK hP hD hS 3 0 rfl rfl (i := k) (x := 0) (by omega) (by decide) d_RC_take_17 (fun H locs hP hD hS => ?_)
  have hP : va_P D classes [(a, .inr (2, [.int (nI n), .int (nI g), .int (nI sh), .int (nI al), .ref b1, .ref b2, .ref b3, .ref b4, .ref b5, .ref b6, .ref b7, .ref b8, .ref b9, .ref b10, .int (nI fd)])), (b1, .inl (cI, 36, .inl (nA fx))), (b2, .inl (cI, 36, .inl (nA le))), (b3, .inl (cI, 36, .inl (nA (va_up tr k 0)))), (b4, .inl (cI, 36, .inl (nA wi))), (b5, .inl (cI, 36, .inl (nA co))), (b6, .inl (cI, 36, .inl (nA ro))), (b7, .inl (cI, 6, .inl (nA uc))), (b8, .inl (cI, 6, .inl (nA ur))), (b9, .inl (cI, 6, .inl (nA pm))), (b10, .inl (cI, 6, .inl (nA qm)))] H := hP
  have hD : va_D A [(a, .inr (2, [.int (nI n), .int (nI g), .int (nI sh), .int (nI al), .ref b1, .ref b2, .ref b3, .ref b4, .ref b5, .ref b6, .ref b7, .ref b8, .ref b9, .ref b10, .int (nI fd)])), (b1, .inl (cI, 36, .inl (nA fx))), (b2, .inl (cI, 36, .inl (nA le))), (b3, .inl (cI, 36, .inl (nA (va_up tr k 0)))), (b4, .inl (cI, 36, .inl (nA wi))), (b5, .inl (cI, 36, .inl (nA co))), (b6, .inl (cI, 36, .inl (nA ro))), (b7, .inl (cI, 6, .inl (nA uc))), (b8, .inl (cI, 6, .inl (nA ur))), (b9, .inl (cI, 6, .inl (nA pm))), (b10, .inl (cI, 6, .inl (nA qm)))] := hD
  refine lv_aload_n hx hb d_RC_take_18 rfl (lv_at hl 0 rfl) ?_
  refine va_get (D := D) (ci := 2) (v := .ref b7) (C := R_RC) (T := F_RC) (N := 15) hx hb ho j_RC hown hK hP 0 rfl rfl 10 (by decide) (ho _ kf_RC_30) (fun _ h9 => h9) rfl d_RC_take_19 ?_
  refine lv_aload_n hx hb d_RC_take_22 rfl (lv_at hl 0 rfl) ?_
  refine va_get (D := D) (ci := 2) (v := .ref b5) (C := R_RC) (T := F_RC) (N := 15) hx hb ho j_RC hown hK hP 0 rfl rfl 8 (by decide) (ho _ kf_RC_24) (fun _ h9 => h9) rfl d_RC_take_23 ?_
  refine lv_iload_n hx hb d_RC_take_26 rfl (lv_at hl 1 rfl) ?_
  refine nr_ialdN hx hb hK hP 5 0 rfl rfl (i := k) (by omega) (by decide) d_RC_take_27 ?_
  refine lv_dup2_11 hx hb d_RC_take_28 rfl rfl ?_
  refine nr_ialdN hx hb hK hP 7 0 rfl rfl (i := co k) (by omega) (by decide) d_RC_take_29 ?_
  refine lv_iconst (v := nI 1) hx hb d_RC_take_30 (by decide) ?_
  refine lv_iload_n hx hb d_RC_take_31 rfl (lv_at hl 2 rfl) ?_
  refine nr_ishl1 hx hb d_RC_take_32 (by omega) ?_
  refine lv_iconst (v := nI 4294967295) hx hb d_RC_take_33 (by decide) ?_
  refine nr_ixor hx hb d_RC_take_34 ?_
  refine nr_iand hx hb d_RC_take_35 ?_
  refine nr_iast hx hb hK hP hD hS 7 0 rfl rfl (i := co k) (x := (uc (co k)) &&& ((2 ^ v) ^^^ 4294967295)) (by omega) (by decide) d_RC_take_36 (fun H locs hP hD hS => ?_)
  have hP : va_P D classes [(a, .inr (2, [.int (nI n), .int (nI g), .int (nI sh), .int (nI al), .ref b1, .ref b2, .ref b3, .ref b4, .ref b5, .ref b6, .ref b7, .ref b8, .ref b9, .ref b10, .int (nI fd)])), (b1, .inl (cI, 36, .inl (nA fx))), (b2, .inl (cI, 36, .inl (nA le))), (b3, .inl (cI, 36, .inl (nA (va_up tr k 0)))), (b4, .inl (cI, 36, .inl (nA wi))), (b5, .inl (cI, 36, .inl (nA co))), (b6, .inl (cI, 36, .inl (nA ro))), (b7, .inl (cI, 6, .inl (nA (va_up uc (co k) ((uc (co k)) &&& ((2 ^ v) ^^^ 4294967295)))))), (b8, .inl (cI, 6, .inl (nA ur))), (b9, .inl (cI, 6, .inl (nA pm))), (b10, .inl (cI, 6, .inl (nA qm)))] H := hP
  have hD : va_D A [(a, .inr (2, [.int (nI n), .int (nI g), .int (nI sh), .int (nI al), .ref b1, .ref b2, .ref b3, .ref b4, .ref b5, .ref b6, .ref b7, .ref b8, .ref b9, .ref b10, .int (nI fd)])), (b1, .inl (cI, 36, .inl (nA fx))), (b2, .inl (cI, 36, .inl (nA le))), (b3, .inl (cI, 36, .inl (nA (va_up tr k 0)))), (b4, .inl (cI, 36, .inl (nA wi))), (b5, .inl (cI, 36, .inl (nA co))), (b6, .inl (cI, 36, .inl (nA ro))), (b7, .inl (cI, 6, .inl (nA (va_up uc (co k) ((uc (co k)) &&& ((2 ^ v) ^^^ 4294967295)))))), (b8, .inl (cI, 6, .inl (nA ur))), (b9, .inl (cI, 6, .inl (nA pm))), (b10, .inl (cI, 6, .inl (nA qm)))] := hD
  refine lv_aload_n hx hb d_RC_take_37 rfl (lv_at hl 0 rfl) ?_
  refine va_get (D := D) (ci := 2) (v := .ref b8) (C := R_RC) (T := F_RC) (N := 15) hx hb ho j_RC hown hK hP 0 rfl rfl 11 (by decide) (ho _ kf_RC_33) (fun _ h9 => h9) rfl d_RC_take_38 ?_
  refine lv_aload_n hx hb d_RC_take_41 rfl (lv_at hl 0 rfl) ?_
  refine va_get (D := D) (ci := 2) (v := .ref b6) (C := R_RC) (T := F_RC) (N := 15) hx hb ho j_RC hown hK hP 0 rfl rfl 9 (by decide) (ho _ kf_RC_27) (fun _ h9 => h9) rfl d_RC_take_42 ?_
  refine lv_iload_n hx hb d_RC_take_45 rfl (lv_at hl 1 rfl) ?_
  refine nr_ialdN hx hb hK hP 6 0 rfl rfl (i := k) (by omega) (by decide) d_RC_take_46 ?_
  refine lv_dup2_11 hx hb d_RC_take_47 rfl rfl ?_
  refine nr_ialdN hx hb hK hP 8 0 rfl rfl (i := ro k) (by omega) (by decide) d_RC_take_48 ?_
  refine lv_iconst (v := nI 1) hx hb d_RC_take_49 (by decide) ?_
  refine lv_iload_n hx hb d_RC_take_50 rfl (lv_at hl 2 rfl) ?_
  refine nr_ishl1 hx hb d_RC_take_51 (by omega) ?_
  refine lv_iconst (v := nI 4294967295) hx hb d_RC_take_52 (by decide) ?_
  refine nr_ixor hx hb d_RC_take_53 ?_
  refine nr_iand hx hb d_RC_take_54 ?_
  refine nr_iast hx hb hK hP hD hS 8 0 rfl rfl (i := ro k) (x := (ur (ro k)) &&& ((2 ^ v) ^^^ 4294967295)) (by omega) (by decide) d_RC_take_55 (fun H locs hP hD hS => ?_)
  have hP : va_P D classes [(a, .inr (2, [.int (nI n), .int (nI g), .int (nI sh), .int (nI al), .ref b1, .ref b2, .ref b3, .ref b4, .ref b5, .ref b6, .ref b7, .ref b8, .ref b9, .ref b10, .int (nI fd)])), (b1, .inl (cI, 36, .inl (nA fx))), (b2, .inl (cI, 36, .inl (nA le))), (b3, .inl (cI, 36, .inl (nA (va_up tr k 0)))), (b4, .inl (cI, 36, .inl (nA wi))), (b5, .inl (cI, 36, .inl (nA co))), (b6, .inl (cI, 36, .inl (nA ro))), (b7, .inl (cI, 6, .inl (nA (va_up uc (co k) ((uc (co k)) &&& ((2 ^ v) ^^^ 4294967295)))))), (b8, .inl (cI, 6, .inl (nA (va_up ur (ro k) ((ur (ro k)) &&& ((2 ^ v) ^^^ 4294967295)))))), (b9, .inl (cI, 6, .inl (nA pm))), (b10, .inl (cI, 6, .inl (nA qm)))] H := hP
  have hD : va_D A [(a, .inr (2, [.int (nI n), .int (nI g), .int (nI sh), .int (nI al), .ref b1, .ref b2, .ref b3, .ref b4, .ref b5, .ref b6, .ref b7, .ref b8, .ref b9, .ref b10, .int (nI fd)])), (b1, .inl (cI, 36, .inl (nA fx))), (b2, .inl (cI, 36, .inl (nA le))), (b3, .inl (cI, 36, .inl (nA (va_up tr k 0)))), (b4, .inl (cI, 36, .inl (nA wi))), (b5, .inl (cI, 36, .inl (nA co))), (b6, .inl (cI, 36, .inl (nA ro))), (b7, .inl (cI, 6, .inl (nA (va_up uc (co k) ((uc (co k)) &&& ((2 ^ v) ^^^ 4294967295)))))), (b8, .inl (cI, 6, .inl (nA (va_up ur (ro k) ((ur (ro k)) &&& ((2 ^ v) ^^^ 4294967295)))))), (b9, .inl (cI, 6, .inl (nA pm))), (b10, .inl (cI, 6, .inl (nA qm)))] := hD
  exact rt_v E hP hD hS rfl d_RC_take_56
def rAl (g : Nat) (x : Int32) : Nat := if x < 0 ∨ nI g < x then 0 else 1
set_option maxHeartbeats 1000000 in
set_option maxRecDepth 100000 in
theorem c_RC_allows (l : Launch) (D : va_G) (cI cL : ClassId) (a b1 b2 b3 b4 b5 b6 b7 b8 b9 b10 n g sh al fd : Nat) (fx le tr wi co ro uc ur pm qm : Nat → Nat) (x : Int32) : CI l y_RC_allows (.code y_RC_allows b_RC_allows 2 (some .boolean) :: Om) { frames := 0, cells := 0, slots := 0, locals := 0 } D [(a, .inr (2, [.int (nI n), .int (nI g), .int (nI sh), .int (nI al), .ref b1, .ref b2, .ref b3, .ref b4, .ref b5, .ref b6, .ref b7, .ref b8, .ref b9, .ref b10, .int (nI fd)])), (b1, .inl (cI, 36, .inl (nA fx))), (b2, .inl (cI, 36, .inl (nA le))), (b3, .inl (cI, 36, .inl (nA tr))), (b4, .inl (cI, 36, .inl (nA wi))), (b5, .inl (cI, 36, .inl (nA co))), (b6, .inl (cI, 36, .inl (nA ro))), (b7, .inl (cI, 6, .inl (nA uc))), (b8, .inl (cI, 6, .inl (nA ur))), (b9, .inl (cI, 6, .inl (nA pm))), (b10, .inl (cI, 6, .inl (nA qm)))] [(cI, .int), (cL, .long)] [.ref a, .int x] (fun r u => r = nI (rAl g x) ∧ u = [(a, .inr (2, [.int (nI n), .int (nI g), .int (nI sh), .int (nI al), .ref b1, .ref b2, .ref b3, .ref b4, .ref b5, .ref b6, .ref b7, .ref b8, .ref b9, .ref b10, .int (nI fd)])), (b1, .inl (cI, 36, .inl (nA fx))), (b2, .inl (cI, 36, .inl (nA le))), (b3, .inl (cI, 36, .inl (nA tr))), (b4, .inl (cI, 36, .inl (nA wi))), (b5, .inl (cI, 36, .inl (nA co))), (b6, .inl (cI, 36, .inl (nA ro))), (b7, .inl (cI, 6, .inl (nA uc))), (b8, .inl (cI, 6, .inl (nA ur))), (b9, .inl (cI, 6, .inl (nA pm))), (b10, .inl (cI, 6, .inl (nA qm)))]) := by
  refine en_of (cc := b_RC_allows) (Qc := qI D [(cI, .int), (cL, .long)] (fun r u => r = nI (rAl g x) ∧ u = [(a, .inr (2, [.int (nI n), .int (nI g), .int (nI sh), .int (nI al), .ref b1, .ref b2, .ref b3, .ref b4, .ref b5, .ref b6, .ref b7, .ref b8, .ref b9, .ref b10, .int (nI fd)])), (b1, .inl (cI, 36, .inl (nA fx))), (b2, .inl (cI, 36, .inl (nA le))), (b3, .inl (cI, 36, .inl (nA tr))), (b4, .inl (cI, 36, .inl (nA wi))), (b5, .inl (cI, 36, .inl (nA co))), (b6, .inl (cI, 36, .inl (nA ro))), (b7, .inl (cI, 6, .inl (nA uc))), (b8, .inl (cI, 6, .inl (nA ur))), (b9, .inl (cI, 6, .inl (nA pm))), (b10, .inl (cI, 6, .inl (nA qm)))])) (by decide) rfl (Nat.le_of_ble_eq_true rfl) ?_
  intro p e s m below meth c A E hnm hP hD hS ls hl
  have hl : lv_has ls 2 [(0, .ref a), (1, .int x)] := hl
  obtain ⟨hx, hb, hml, hown, hts, hr, hlk, hA, hK, hN⟩ := id E
  have ho : ∀ q ∈ Om, q.before _ s = true := fun q h => hts q (List.mem_cons_of_mem _ h)
  refine lv_iload_n hx hb d_RC_allows_0 rfl (lv_at hl 1 rfl) ?_
  refine lv_if_lt (tgt := 16) hx hb d_RC_allows_1 (by decide) (fun h_1 => ?_) (fun h_1 => ?_)
  · refine lv_iconst (v := nI 0) hx hb d_RC_allows_16 (by decide) ?_
    exact rt_z E hP hD hS (by decide) ⟨by unfold rAl; simp [h_1], rfl⟩ d_RC_allows_17
  · refine lv_iload_n hx hb d_RC_allows_4 rfl (lv_at hl 1 rfl) ?_
    refine lv_aload_n hx hb d_RC_allows_5 rfl (lv_at hl 0 rfl) ?_
    refine va_get (D := D) (ci := 2) (v := .int (nI g)) (C := R_RC) (T := F_RC) (N := 15) hx hb ho j_RC hown hK hP 0 rfl rfl 1 (by decide) (ho _ kf_RC_55) (fun _ h9 => h9) rfl d_RC_allows_6 ?_
    refine lv_icmp_gt (tgt := 16) hx hb d_RC_allows_9 (by decide) (fun h_2 => ?_) (fun h_2 => ?_)
    · refine lv_iconst (v := nI 0) hx hb d_RC_allows_16 (by decide) ?_
      exact rt_z E hP hD hS (by decide) ⟨by unfold rAl; simp [h_1, h_2], rfl⟩ d_RC_allows_17
    · refine lv_iconst (v := nI 1) hx hb d_RC_allows_12 (by decide) ?_
      refine lv_goto (tgt := 17) hx hb d_RC_allows_13 (by decide) ?_
      exact rt_z E hP hD hS (by decide) ⟨by unfold rAl; simp [h_1, h_2], rfl⟩ d_RC_allows_17
set_option maxHeartbeats 1000000 in
set_option maxRecDepth 100000 in
theorem c_RC_give (l : Launch) (D : va_G) (cI cL : ClassId) (a b1 b2 b3 b4 b5 b6 b7 b8 b9 b10 n g sh al fd : Nat) (fx le tr wi co ro uc ur pm qm : Nat → Nat) (k v : Nat) (hk : k < 36) : CV l y_RC_give (.code y_RC_give b_RC_give 3 none :: Om) { frames := 0, cells := 0, slots := 0, locals := 0 } D [(a, .inr (2, [.int (nI n), .int (nI g), .int (nI sh), .int (nI al), .ref b1, .ref b2, .ref b3, .ref b4, .ref b5, .ref b6, .ref b7, .ref b8, .ref b9, .ref b10, .int (nI fd)])), (b1, .inl (cI, 36, .inl (nA fx))), (b2, .inl (cI, 36, .inl (nA le))), (b3, .inl (cI, 36, .inl (nA tr))), (b4, .inl (cI, 36, .inl (nA wi))), (b5, .inl (cI, 36, .inl (nA co))), (b6, .inl (cI, 36, .inl (nA ro))), (b7, .inl (cI, 6, .inl (nA uc))), (b8, .inl (cI, 6, .inl (nA ur))), (b9, .inl (cI, 6, .inl (nA pm))), (b10, .inl (cI, 6, .inl (nA qm)))] [(cI, .int), (cL, .long)] [.ref a, .int (nI k), .int (nI v)] (fun u => u = [(a, .inr (2, [.int (nI n), .int (nI g), .int (nI sh), .int (nI al), .ref b1, .ref b2, .ref b3, .ref b4, .ref b5, .ref b6, .ref b7, .ref b8, .ref b9, .ref b10, .int (nI 0)])), (b1, .inl (cI, 36, .inl (nA (va_up fx k v)))), (b2, .inl (cI, 36, .inl (nA le))), (b3, .inl (cI, 36, .inl (nA tr))), (b4, .inl (cI, 36, .inl (nA wi))), (b5, .inl (cI, 36, .inl (nA co))), (b6, .inl (cI, 36, .inl (nA ro))), (b7, .inl (cI, 6, .inl (nA uc))), (b8, .inl (cI, 6, .inl (nA ur))), (b9, .inl (cI, 6, .inl (nA pm))), (b10, .inl (cI, 6, .inl (nA qm)))]) := by
  refine en_of (cc := b_RC_give) (Qc := qV D [(cI, .int), (cL, .long)] (fun u => u = [(a, .inr (2, [.int (nI n), .int (nI g), .int (nI sh), .int (nI al), .ref b1, .ref b2, .ref b3, .ref b4, .ref b5, .ref b6, .ref b7, .ref b8, .ref b9, .ref b10, .int (nI 0)])), (b1, .inl (cI, 36, .inl (nA (va_up fx k v)))), (b2, .inl (cI, 36, .inl (nA le))), (b3, .inl (cI, 36, .inl (nA tr))), (b4, .inl (cI, 36, .inl (nA wi))), (b5, .inl (cI, 36, .inl (nA co))), (b6, .inl (cI, 36, .inl (nA ro))), (b7, .inl (cI, 6, .inl (nA uc))), (b8, .inl (cI, 6, .inl (nA ur))), (b9, .inl (cI, 6, .inl (nA pm))), (b10, .inl (cI, 6, .inl (nA qm)))])) (by decide) rfl (Nat.le_of_ble_eq_true rfl) ?_
  intro p e s m below meth c A E hnm hP hD hS ls hl
  have hl : lv_has ls 3 [(0, .ref a), (1, .int (nI k)), (2, .int (nI v))] := hl
  obtain ⟨hx, hb, hml, hown, hts, hr, hlk, hA, hK, hN⟩ := id E
  have ho : ∀ q ∈ Om, q.before _ s = true := fun q h => hts q (List.mem_cons_of_mem _ h)
  refine lv_iload_n hx hb d_RC_give_0 rfl (lv_at hl 1 rfl) ?_
  refine nr_if_lt (tgt := 22) hx hb d_RC_give_1 (by decide) (by omega) ?_
  refine lv_iload_n hx hb d_RC_give_4 rfl (lv_at hl 1 rfl) ?_
  refine lv_bipush (v := nI 36) hx hb d_RC_give_5 (by decide) ?_
  refine nr_icmp_ge (tgt := 22) hx hb d_RC_give_7 (by decide) (by omega) (by omega) (fun h9 => absurd h9 (by omega)) (fun _ => ?_)
  refine lv_aload_n hx hb d_RC_give_10 rfl (lv_at hl 0 rfl) ?_
  refine va_get (D := D) (ci := 2) (v := .ref b1) (C := R_RC) (T := F_RC) (N := 15) hx hb ho j_RC hown hK hP 0 rfl rfl 4 (by decide) (ho _ kf_RC_9) (fun _ h9 => h9) rfl d_RC_give_11 ?_
  refine lv_iload_n hx hb d_RC_give_14 rfl (lv_at hl 1 rfl) ?_
  refine lv_iload_n hx hb d_RC_give_15 rfl (lv_at hl 2 rfl) ?_
  refine nr_iast hx hb hK hP hD hS 1 0 rfl rfl (i := k) (x := v) (by omega) (by decide) d_RC_give_16 (fun H locs hP hD hS => ?_)
  have hP : va_P D classes [(a, .inr (2, [.int (nI n), .int (nI g), .int (nI sh), .int (nI al), .ref b1, .ref b2, .ref b3, .ref b4, .ref b5, .ref b6, .ref b7, .ref b8, .ref b9, .ref b10, .int (nI fd)])), (b1, .inl (cI, 36, .inl (nA (va_up fx k v)))), (b2, .inl (cI, 36, .inl (nA le))), (b3, .inl (cI, 36, .inl (nA tr))), (b4, .inl (cI, 36, .inl (nA wi))), (b5, .inl (cI, 36, .inl (nA co))), (b6, .inl (cI, 36, .inl (nA ro))), (b7, .inl (cI, 6, .inl (nA uc))), (b8, .inl (cI, 6, .inl (nA ur))), (b9, .inl (cI, 6, .inl (nA pm))), (b10, .inl (cI, 6, .inl (nA qm)))] H := hP
  have hD : va_D A [(a, .inr (2, [.int (nI n), .int (nI g), .int (nI sh), .int (nI al), .ref b1, .ref b2, .ref b3, .ref b4, .ref b5, .ref b6, .ref b7, .ref b8, .ref b9, .ref b10, .int (nI fd)])), (b1, .inl (cI, 36, .inl (nA (va_up fx k v)))), (b2, .inl (cI, 36, .inl (nA le))), (b3, .inl (cI, 36, .inl (nA tr))), (b4, .inl (cI, 36, .inl (nA wi))), (b5, .inl (cI, 36, .inl (nA co))), (b6, .inl (cI, 36, .inl (nA ro))), (b7, .inl (cI, 6, .inl (nA uc))), (b8, .inl (cI, 6, .inl (nA ur))), (b9, .inl (cI, 6, .inl (nA pm))), (b10, .inl (cI, 6, .inl (nA qm)))] := hD
  refine lv_aload_n hx hb d_RC_give_17 rfl (lv_at hl 0 rfl) ?_
  refine lv_iconst (v := nI 0) hx hb d_RC_give_18 (by decide) ?_
  refine va_put (D := D) (ci := 2) (v := .int (nI 0)) (ty := .boolean) (C := R_RC) (T := F_RC) (N := 15) hx hb ho j_RC t_RC t_RC_ok n_RC hown hK hP hD hS 0 rfl rfl 14 (by decide) (ho _ kf_RC_64) (fun _ h9 => h9) rfl (by decide +kernel) (by first | rfl | decide | assumption) (by first | rfl | decide | assumption) (Nat.le_of_ble_eq_true rfl) d_RC_give_19 (fun H locs hP hD hS => ?_)
  have hP : va_P D classes [(a, .inr (2, [.int (nI n), .int (nI g), .int (nI sh), .int (nI al), .ref b1, .ref b2, .ref b3, .ref b4, .ref b5, .ref b6, .ref b7, .ref b8, .ref b9, .ref b10, .int (nI 0)])), (b1, .inl (cI, 36, .inl (nA (va_up fx k v)))), (b2, .inl (cI, 36, .inl (nA le))), (b3, .inl (cI, 36, .inl (nA tr))), (b4, .inl (cI, 36, .inl (nA wi))), (b5, .inl (cI, 36, .inl (nA co))), (b6, .inl (cI, 36, .inl (nA ro))), (b7, .inl (cI, 6, .inl (nA uc))), (b8, .inl (cI, 6, .inl (nA ur))), (b9, .inl (cI, 6, .inl (nA pm))), (b10, .inl (cI, 6, .inl (nA qm)))] H := hP
  have hD : va_D A [(a, .inr (2, [.int (nI n), .int (nI g), .int (nI sh), .int (nI al), .ref b1, .ref b2, .ref b3, .ref b4, .ref b5, .ref b6, .ref b7, .ref b8, .ref b9, .ref b10, .int (nI 0)])), (b1, .inl (cI, 36, .inl (nA (va_up fx k v)))), (b2, .inl (cI, 36, .inl (nA le))), (b3, .inl (cI, 36, .inl (nA tr))), (b4, .inl (cI, 36, .inl (nA wi))), (b5, .inl (cI, 36, .inl (nA co))), (b6, .inl (cI, 36, .inl (nA ro))), (b7, .inl (cI, 6, .inl (nA uc))), (b8, .inl (cI, 6, .inl (nA ur))), (b9, .inl (cI, 6, .inl (nA pm))), (b10, .inl (cI, 6, .inl (nA qm)))] := hD
  exact rt_v E hP hD hS rfl d_RC_give_22
set_option maxHeartbeats 1000000 in
set_option maxRecDepth 100000 in
theorem c_RC_foundAt (l : Launch) (D : va_G) (cI cL : ClassId) (a b1 b2 b3 b4 b5 b6 b7 b8 b9 b10 n g sh al fd : Nat) (fx le tr wi co ro uc ur pm qm : Nat → Nat) (k : Nat) (hk : k < 36) (hfd : fd ≤ 1) : CI l y_RC_foundAt (.code y_RC_foundAt b_RC_foundAt 2 (some .int) :: Om) { frames := 0, cells := 0, slots := 0, locals := 0 } D [(a, .inr (2, [.int (nI n), .int (nI g), .int (nI sh), .int (nI al), .ref b1, .ref b2, .ref b3, .ref b4, .ref b5, .ref b6, .ref b7, .ref b8, .ref b9, .ref b10, .int (nI fd)])), (b1, .inl (cI, 36, .inl (nA fx))), (b2, .inl (cI, 36, .inl (nA le))), (b3, .inl (cI, 36, .inl (nA tr))), (b4, .inl (cI, 36, .inl (nA wi))), (b5, .inl (cI, 36, .inl (nA co))), (b6, .inl (cI, 36, .inl (nA ro))), (b7, .inl (cI, 6, .inl (nA uc))), (b8, .inl (cI, 6, .inl (nA ur))), (b9, .inl (cI, 6, .inl (nA pm))), (b10, .inl (cI, 6, .inl (nA qm)))] [(cI, .int), (cL, .long)] [.ref a, .int (nI k)] (fun r u => r = nI (if fd = 0 then 0 else le k) ∧ u = [(a, .inr (2, [.int (nI n), .int (nI g), .int (nI sh), .int (nI al), .ref b1, .ref b2, .ref b3, .ref b4, .ref b5, .ref b6, .ref b7, .ref b8, .ref b9, .ref b10, .int (nI fd)])), (b1, .inl (cI, 36, .inl (nA fx))), (b2, .inl (cI, 36, .inl (nA le))), (b3, .inl (cI, 36, .inl (nA tr))), (b4, .inl (cI, 36, .inl (nA wi))), (b5, .inl (cI, 36, .inl (nA co))), (b6, .inl (cI, 36, .inl (nA ro))), (b7, .inl (cI, 6, .inl (nA uc))), (b8, .inl (cI, 6, .inl (nA ur))), (b9, .inl (cI, 6, .inl (nA pm))), (b10, .inl (cI, 6, .inl (nA qm)))]) := by
  refine en_of (cc := b_RC_foundAt) (Qc := qI D [(cI, .int), (cL, .long)] (fun r u => r = nI (if fd = 0 then 0 else le k) ∧ u = [(a, .inr (2, [.int (nI n), .int (nI g), .int (nI sh), .int (nI al), .ref b1, .ref b2, .ref b3, .ref b4, .ref b5, .ref b6, .ref b7, .ref b8, .ref b9, .ref b10, .int (nI fd)])), (b1, .inl (cI, 36, .inl (nA fx))), (b2, .inl (cI, 36, .inl (nA le))), (b3, .inl (cI, 36, .inl (nA tr))), (b4, .inl (cI, 36, .inl (nA wi))), (b5, .inl (cI, 36, .inl (nA co))), (b6, .inl (cI, 36, .inl (nA ro))), (b7, .inl (cI, 6, .inl (nA uc))), (b8, .inl (cI, 6, .inl (nA ur))), (b9, .inl (cI, 6, .inl (nA pm))), (b10, .inl (cI, 6, .inl (nA qm)))])) (by decide) rfl (Nat.le_of_ble_eq_true rfl) ?_
  intro p e s m below meth c A E hnm hP hD hS ls hl
  have hl : lv_has ls 2 [(0, .ref a), (1, .int (nI k))] := hl
  obtain ⟨hx, hb, hml, hown, hts, hr, hlk, hA, hK, hN⟩ := id E
  have ho : ∀ q ∈ Om, q.before _ s = true := fun q h => hts q (List.mem_cons_of_mem _ h)
  refine lv_aload_n hx hb d_RC_foundAt_0 rfl (lv_at hl 0 rfl) ?_
  refine va_get (D := D) (ci := 2) (v := .int (nI fd)) (C := R_RC) (T := F_RC) (N := 15) hx hb ho j_RC hown hK hP 0 rfl rfl 14 (by decide) (ho _ kf_RC_64) (fun _ h9 => h9) rfl d_RC_foundAt_1 ?_
  refine nr_if_eq (tgt := 26) hx hb d_RC_foundAt_4 (by decide) (by omega) (fun h_1 => ?_) (fun h_1 => ?_)
  · refine lv_iconst (v := nI 0) hx hb d_RC_foundAt_26 (by decide) ?_
    exact rt_i E hP hD hS ⟨by first | rw [if_pos (by omega)] | rw [if_neg (by omega)], rfl⟩ d_RC_foundAt_27
  · refine lv_iload_n hx hb d_RC_foundAt_7 rfl (lv_at hl 1 rfl) ?_
    refine nr_if_lt (tgt := 26) hx hb d_RC_foundAt_8 (by decide) (by omega) ?_
    refine lv_iload_n hx hb d_RC_foundAt_11 rfl (lv_at hl 1 rfl) ?_
    refine lv_bipush (v := nI 36) hx hb d_RC_foundAt_12 (by decide) ?_
    refine nr_icmp_ge (tgt := 26) hx hb d_RC_foundAt_14 (by decide) (by omega) (by omega) (fun h9 => absurd h9 (by omega)) (fun _ => ?_)
    refine lv_aload_n hx hb d_RC_foundAt_17 rfl (lv_at hl 0 rfl) ?_
    refine va_get (D := D) (ci := 2) (v := .ref b2) (C := R_RC) (T := F_RC) (N := 15) hx hb ho j_RC hown hK hP 0 rfl rfl 5 (by decide) (ho _ kf_RC_15) (fun _ h9 => h9) rfl d_RC_foundAt_18 ?_
    refine lv_iload_n hx hb d_RC_foundAt_21 rfl (lv_at hl 1 rfl) ?_
    refine nr_ialdN hx hb hK hP 2 0 rfl rfl (i := k) (by omega) (by decide) d_RC_foundAt_22 ?_
    refine lv_goto (tgt := 27) hx hb d_RC_foundAt_23 (by decide) ?_
    exact rt_i E hP hD hS ⟨by first | rw [if_pos (by omega)] | rw [if_neg (by omega)], rfl⟩ d_RC_foundAt_27
def rLw (f : Nat → Nat) (v : Nat) : Nat → Nat → Nat → Nat
  | 0, _, x => x
  | m + 1, k, x => if k < 6 then rLw f v m (k + 1) (x + f k / 2 ^ v % 2) else x
set_option maxHeartbeats 1000000 in
set_option maxRecDepth 100000 in
theorem L_RC_linesWith {p : Program} {l : Launch} {e : Env} {s : State} {m : MethodId} {args : Array Value} {below : List Frame} {meth : Method} {c : Code} {A : Nat → Prop} {D : va_G} {cI cL : ClassId} {c0 : Cond} {post : Int32 → va_W → Prop} (b v : Nat) (f : Nat → Nat) (hv : v < 32) (hf : ∀ k, f k < 2 ^ 32) (E : En p s m args meth c b_RC_linesWith 7 (c0 :: Om) R_RC (some .int) A D [(cI, .int), (cL, .long)]) : ∀ (n : Nat) (k : Nat) (x : Nat), k ≤ 6 → 6 < k + n → x ≤ k → post (nI (rLw f v n k x)) [(b, .inl (cI, 6, .inl (nA f)))] → ∀ (H : Heap) (locs : List Loc), va_P D classes [(b, .inl (cI, 6, .inl (nA f)))] H → va_D A [(b, .inl (cI, 6, .inl (nA f)))] → va_S A s.heap H locs → ∀ ls : Array Slot, lv_has ls 7 [(1, .int (nI v)), (2, .int (nI x)), (3, .ref b), (4, .int (nI 6)), (5, .int (nI k))] → W p l e { frames := 0, cells := 0, slots := 0, locals := 0 } s m args below meth c H locs 0 0 (MQ below (qI D [(cI, .int), (cL, .long)] post A) args s 0 0 A) (F0 m 11 ls []) := by
  obtain ⟨hx, hb, hml, hown, hts, hr, hlk, hA, hK, hN⟩ := id E
  have ho : ∀ q ∈ Om, q.before _ s = true := fun q h => hts q (List.mem_cons_of_mem _ h)
  intro n
  induction n with
  | zero =>
    intro k x h1 h2 hx1 hq
    exact absurd h2 (by omega)
  | succ n ih =>
    intro k x h1 h2 hx1 hq H locs hP hD hS ls hl
    refine lv_iload hx hb d_RC_linesWith_11 (lv_at hl 4 rfl) ?_
    refine lv_iload hx hb d_RC_linesWith_13 (lv_at hl 3 rfl) ?_
    refine nr_icmp_ge (tgt := 39) hx hb d_RC_linesWith_15 (by decide) (by omega) (by omega) (fun h_1 => ?_) (fun h_1 => ?_)
    · refine lv_iload_n hx hb d_RC_linesWith_39 rfl (lv_at hl 1 rfl) ?_
      exact rt_i E hP hD hS (by rw [rLw, if_neg (by omega)] at hq; exact hq) d_RC_linesWith_40
    · refine lv_aload_n hx hb d_RC_linesWith_18 rfl (lv_at hl 2 rfl) ?_
      refine lv_iload hx hb d_RC_linesWith_19 (lv_at hl 4 rfl) ?_
      have hfk := hf k
      refine nr_ialdN hx hb hK hP 0 0 rfl rfl (i := k) (by omega) (by decide) d_RC_linesWith_21 ?_
      refine lv_istore (lv' := [(6, .int (nI (f k))), (1, .int (nI v)), (2, .int (nI x)), (3, .ref b), (4, .int (nI 6)), (5, .int (nI k))]) hx hb d_RC_linesWith_22 hl (by decide) rfl (fun ls hl => ?_)
      refine lv_iload_n hx hb d_RC_linesWith_24 rfl (lv_at hl 2 rfl) ?_
      refine lv_iload hx hb d_RC_linesWith_25 (lv_at hl 0 rfl) ?_
      refine lv_iload_n hx hb d_RC_linesWith_27 rfl (lv_at hl 1 rfl) ?_
      refine nr_iushr hx hb d_RC_linesWith_28 (by omega) (by omega) ?_
      refine lv_iconst (v := nI 1) hx hb d_RC_linesWith_29 (by decide) ?_
      refine nr_iand1 hx hb d_RC_linesWith_30 ?_
      refine nr_iadd hx hb d_RC_linesWith_31 ?_
      refine lv_istore_n (lv' := [(2, .int (nI (x + (((f k) / 2 ^ v) % 2)))), (6, .int (nI (f k))), (1, .int (nI v)), (3, .ref b), (4, .int (nI 6)), (5, .int (nI k))]) hx hb d_RC_linesWith_32 rfl hl (by decide) rfl (fun ls hl => ?_)
      refine nr_iinc (lv' := [(5, .int (nI (k + 1))), (2, .int (nI (x + (((f k) / 2 ^ v) % 2)))), (6, .int (nI (f k))), (1, .int (nI v)), (3, .ref b), (4, .int (nI 6))]) hx hb d_RC_linesWith_33 hl (k := 5) rfl (by decide) rfl (fun ls hl => ?_)
      refine lv_goto (tgt := 11) hx hb d_RC_linesWith_36 (by decide) ?_
      exact ih (k + 1) (x + f k / 2 ^ v % 2) (by omega) (by omega) (by omega) (by rw [rLw, if_pos (by omega)] at hq; exact hq) _ _ hP hD hS ls (lv_sub hl [3, 1, 4, 5, 0] rfl)
set_option maxHeartbeats 1000000 in
set_option maxRecDepth 100000 in
theorem c_RC_linesWith (l : Launch) (D : va_G) (cI cL : ClassId) (b v : Nat) (f : Nat → Nat) (hv : v < 32) (hf : ∀ k, f k < 2 ^ 32) : CI l y_RC_linesWith (.code y_RC_linesWith b_RC_linesWith 7 (some .int) :: Om) { frames := 0, cells := 0, slots := 0, locals := 0 } D [(b, .inl (cI, 6, .inl (nA f)))] [(cI, .int), (cL, .long)] [.ref b, .int (nI v)] (fun r u => r = nI (rLw f v 7 0 0) ∧ u = [(b, .inl (cI, 6, .inl (nA f)))]) := by
  refine en_of (cc := b_RC_linesWith) (Qc := qI D [(cI, .int), (cL, .long)] (fun r u => r = nI (rLw f v 7 0 0) ∧ u = [(b, .inl (cI, 6, .inl (nA f)))])) (by decide) rfl (Nat.le_of_ble_eq_true rfl) ?_
  intro p e s m below meth c A E hnm hP hD hS ls hl
  have hl : lv_has ls 7 [(0, .ref b), (1, .int (nI v))] := hl
  obtain ⟨hx, hb, hml, hown, hts, hr, hlk, hA, hK, hN⟩ := id E
  have ho : ∀ q ∈ Om, q.before _ s = true := fun q h => hts q (List.mem_cons_of_mem _ h)
  refine lv_iconst (v := nI 0) hx hb d_RC_linesWith_0 (by decide) ?_
  refine lv_istore_n (lv' := [(2, .int (nI 0)), (0, .ref b), (1, .int (nI v))]) hx hb d_RC_linesWith_1 rfl hl (by decide) rfl (fun ls hl => ?_)
  refine lv_aload_n hx hb d_RC_linesWith_2 rfl (lv_at hl 1 rfl) ?_
  refine lv_astore_n (lv' := [(3, .ref b), (2, .int (nI 0)), (0, .ref b), (1, .int (nI v))]) hx hb d_RC_linesWith_3 rfl hl (by decide) rfl (fun ls hl => ?_)
  refine lv_aload_n hx hb d_RC_linesWith_4 rfl (lv_at hl 0 rfl) ?_
  refine va_alen (v := nI 6) hx hb hK hP 0 0 rfl rfl rfl d_RC_linesWith_5 ?_
  refine lv_istore (lv' := [(4, .int (nI 6)), (3, .ref b), (2, .int (nI 0)), (0, .ref b), (1, .int (nI v))]) hx hb d_RC_linesWith_6 hl (by decide) rfl (fun ls hl => ?_)
  refine lv_iconst (v := nI 0) hx hb d_RC_linesWith_8 (by decide) ?_
  refine lv_istore (lv' := [(5, .int (nI 0)), (4, .int (nI 6)), (3, .ref b), (2, .int (nI 0)), (0, .ref b), (1, .int (nI v))]) hx hb d_RC_linesWith_9 hl (by decide) rfl (fun ls hl => ?_)
  exact L_RC_linesWith b v f hv hf E 7 0 0 (by omega) (by omega) (by omega) ⟨rfl, rfl⟩ _ _ hP hD hS ls (lv_sub hl [5, 3, 2, 1, 0] rfl)
