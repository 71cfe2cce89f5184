/-! making arrays and objects; constructors without loops -/
theorem same_arr {D : va_G} {cl : List vw_C} {tys : List (ClassId × FieldType)} {U : State} {c1 c2 : ClassId} (h : va_K D cl tys U) (i j : Nat) {ty : FieldType} (hi : tys[i]? = some (c1, ty)) (hj : tys[j]? = some (c2, ty)) (hp : ty = .int ∨ ty = .long ∨ ty = .boolean) : c1 = c2 := by
  have a1 := (h.2 i _ hi).2
  have a2 := (h.2 j _ hj).2
  rcases hp with rfl | rfl | rfl <;> exact Option.some.inj (a1.symm.trans a2)
abbrev CVm (l : Launch) (y : MethodName) (w : List Cond) (rm : Room) (D : va_G) (ws : va_W) (ty : List (ClassId × FieldType)) (av : List Value) (mc ms : Nat) (post : va_W → Prop) : Prop := ∀ sz, Met l y w rm (cP D ws ty av sz) (qV D ty post (va_A ws sz)) mc ms (va_A ws sz)
section AL
variable {p : Program} {l : Launch} {e : Env} {R : Room} {s : State} {m : MethodId} {args : Array Value} {below : List Frame} {meth : Method} {c : Code} {H H0 : Heap} {locs : List Loc} {cells slots : Nat} {Q : State → Prop} {pc : Nat} {ls : Array Slot} {rest : List Value} {cc : ByteArray} {D : va_G} {cl : List vw_C} {tys : List (ClassId × FieldType)} {ws : va_W} {A : Nat → Prop}
theorem nr_newi (hx : p.tables.exec = Jvm.exec) (hb : c.code = cc) (harr : (Cond.arrayClass .int).before args s = true) (hK : va_K D cl tys s) (hP : va_P D cl ws H) (hD : va_D A ws) (hS : va_S A H0 H locs) (hA : ∀ q, H0.size ≤ q → A q) (t0 : Nat) {cI : ClassId} (ht : tys[t0]? = some (cI, .int)) {n : Nat} (hn : n < 1000) (hcells : cells + 1 ≤ R.cells) (hslots : slots + n ≤ R.slots) (hdg : decode cc pc = .ok (.newarray .int, 2))
    (kk : ∀ (q : Nat) (H1 : Heap), va_P D cl (ws ++ [(q, .inl (cI, n, .inl (nA (fun _ => 0))))]) H1 → va_D A (ws ++ [(q, .inl (cI, n, .inl (nA (fun _ => 0))))]) → va_S A H0 H1 locs → W p l e R s m args below meth c H1 locs (cells + 1) (slots + n) Q (F0 m (pc + 2) ls (.ref q :: rest))) : W p l e R s m args below meth c H locs cells slots Q (F0 m pc ls (.int (nI n) :: rest)) := by
  refine va_newa (atype := .int) (a0 := (n, .inl (nA (fun _ => 0)))) hx hb harr rfl hK hP hD hS hA (fun _ => rfl) (nI_pos (by omega)) (nI_clamp (by omega)) (by show n * 4 ≤ 536870912; omega) hcells hslots hdg (fun q cA H1 hK1 hP1 hD1 hS1 => ?_)
  have e1 : (tys ++ [(cA, FieldType.int)])[t0]? = some (cI, .int) := by
    rw [List.getElem?_append_left (List.getElem?_eq_some_iff.mp ht).1]; exact ht
  have e : cI = cA := same_arr hK1 t0 tys.length e1 (by simp; rfl) (Or.inl rfl)
  subst e
  exact kk q H1 hP1 hD1 hS1
theorem nr_newl (hx : p.tables.exec = Jvm.exec) (hb : c.code = cc) (harr : (Cond.arrayClass .long).before args s = true) (hK : va_K D cl tys s) (hP : va_P D cl ws H) (hD : va_D A ws) (hS : va_S A H0 H locs) (hA : ∀ q, H0.size ≤ q → A q) (t0 : Nat) {cI : ClassId} (ht : tys[t0]? = some (cI, .long)) {n : Nat} (hn : n < 1000) (hcells : cells + 1 ≤ R.cells) (hslots : slots + n ≤ R.slots) (hdg : decode cc pc = .ok (.newarray .long, 2))
    (kk : ∀ (q : Nat) (H1 : Heap), va_P D cl (ws ++ [(q, .inl (cI, n, .inr (.inl (lA (fun _ => 0)))))]) H1 → va_D A (ws ++ [(q, .inl (cI, n, .inr (.inl (lA (fun _ => 0)))))]) → va_S A H0 H1 locs → W p l e R s m args below meth c H1 locs (cells + 1) (slots + n) Q (F0 m (pc + 2) ls (.ref q :: rest))) : W p l e R s m args below meth c H locs cells slots Q (F0 m pc ls (.int (nI n) :: rest)) := by
  refine va_newa (atype := .long) (a0 := (n, .inr (.inl (lA (fun _ => 0))))) hx hb harr rfl hK hP hD hS hA (fun _ => rfl) (nI_pos (by omega)) (nI_clamp (by omega)) (by show n * 8 ≤ 536870912; omega) hcells hslots hdg (fun q cA H1 hK1 hP1 hD1 hS1 => ?_)
  have e1 : (tys ++ [(cA, FieldType.long)])[t0]? = some (cI, .long) := by
    rw [List.getElem?_append_left (List.getElem?_eq_some_iff.mp ht).1]; exact ht
  have e : cI = cA := same_arr hK1 t0 tys.length e1 (by simp; rfl) (Or.inr (Or.inl rfl))
  subst e
  exact kk q H1 hP1 hD1 hS1
theorem nr_newz (hx : p.tables.exec = Jvm.exec) (hb : c.code = cc) (harr : (Cond.arrayClass .boolean).before args s = true) (hK : va_K D cl tys s) (hP : va_P D cl ws H) (hD : va_D A ws) (hS : va_S A H0 H locs) (hA : ∀ q, H0.size ≤ q → A q) (t0 : Nat) {cI : ClassId} (ht : tys[t0]? = some (cI, .boolean)) {n : Nat} (hn : n < 1000) (hcells : cells + 1 ≤ R.cells) (hslots : slots + n ≤ R.slots) (hdg : decode cc pc = .ok (.newarray .boolean, 2))
    (kk : ∀ (q : Nat) (H1 : Heap), va_P D cl (ws ++ [(q, .inl (cI, n, .inl (nA (fun _ => 0))))]) H1 → va_D A (ws ++ [(q, .inl (cI, n, .inl (nA (fun _ => 0))))]) → va_S A H0 H1 locs → W p l e R s m args below meth c H1 locs (cells + 1) (slots + n) Q (F0 m (pc + 2) ls (.ref q :: rest))) : W p l e R s m args below meth c H locs cells slots Q (F0 m pc ls (.int (nI n) :: rest)) := by
  refine va_newa (atype := .boolean) (a0 := (n, .inl (nA (fun _ => 0)))) hx hb harr rfl hK hP hD hS hA (fun _ => rfl) (nI_pos (by omega)) (nI_clamp (by omega)) (by show n * 1 ≤ 536870912; omega) hcells hslots hdg (fun q cA H1 hK1 hP1 hD1 hS1 => ?_)
  have e1 : (tys ++ [(cA, FieldType.boolean)])[t0]? = some (cI, .boolean) := by
    rw [List.getElem?_append_left (List.getElem?_eq_some_iff.mp ht).1]; exact ht
  have e : cI = cA := same_arr hK1 t0 tys.length e1 (by simp; rfl) (Or.inr (Or.inr rfl))
  subst e
  exact kk q H1 hP1 hD1 hS1
end AL
set_option maxHeartbeats 1000000 in
set_option maxRecDepth 100000 in
theorem c_BD_init (l : Launch) (D : va_G) (cI cL : ClassId) (a w h : Nat) (hw6 : w ≤ 6) (hh6 : h ≤ 6) : CVm l y_BD_init (.code y_BD_init b_BD_init 3 none :: Om) { frames := 1, cells := 0, slots := 0, locals := 12 } D [(a, .inr (0, [.int (nI 0), .int (nI 0), .int (nI 0), .long (lN 0)]))] [(cI, .int), (cL, .long)] [.ref a, .int (nI w), .int (nI h)] 0 0 (fun u => u = [(a, .inr (0, [.int (nI w), .int (nI h), .int (nI (w * h)), .long (lN (2 ^ (w * h) - 1))]))]) := by
  refine en_of (cc := b_BD_init) (Qc := qV D [(cI, .int), (cL, .long)] (fun u => u = [(a, .inr (0, [.int (nI w), .int (nI h), .int (nI (w * h)), .long (lN (2 ^ (w * h) - 1))]))])) (by decide) rfl (Nat.le_of_ble_eq_true rfl) ?_
  intro p e s m below meth c A E hnm hP hD hS ls hl
  have hl : lv_has ls 3 [(0, .ref a), (1, .int (nI w)), (2, .int (nI h))] := hl
  obtain ⟨hx, hb, hml, hown, hts, hr, hlk, hA, hK, hN⟩ := id E
  have ho : ∀ q ∈ Om, q.before _ s = true := fun q h => hts q (List.mem_cons_of_mem _ h)
  have h36 := wh36 hw6 hh6
  have hp2 : 1 ≤ 2 ^ (w * h) := Nat.pow_pos (by decide)
  refine lv_aload_n hx hb d_BD_init_0 rfl (lv_at hl 0 rfl) ?_
  refine W.objInit hx hb hown (ho _ km_BD_1) (ho _ kq_obj.1) (ho _ kq_obj.2) rfl (hl.1.trans hml.symm) rfl d_BD_init_1 (Nat.le_of_ble_eq_true rfl) (Nat.le_of_ble_eq_true rfl) ?_
  refine W.eq (g2 := F0 m 4 ls []) rfl ?_
  refine lv_aload_n hx hb d_BD_init_4 rfl (lv_at hl 0 rfl) ?_
  refine lv_iload_n hx hb d_BD_init_5 rfl (lv_at hl 1 rfl) ?_
  refine va_putF (D := D) (ci := 0) (v := .int (nI w)) (ty := .int) (C := R_BD) (T := F_BD) (N := 4) hx hb ho j_BD t_BD t_BD_ok n_BD hown hK hP hD hS 0 rfl rfl 0 (by decide) (ho _ kf_BD_7) (fun _ h9 => h9) rfl hnm rfl (by decide +kernel) rfl rfl (Nat.le_of_ble_eq_true rfl) d_BD_init_6 (fun H locs hP hD hS => ?_)
  have hP : va_P D classes [(a, .inr (0, [.int (nI w), .int (nI 0), .int (nI 0), .long (lN 0)]))] H := hP
  have hD : va_D A [(a, .inr (0, [.int (nI w), .int (nI 0), .int (nI 0), .long (lN 0)]))] := hD
  refine lv_aload_n hx hb d_BD_init_9 rfl (lv_at hl 0 rfl) ?_
  refine lv_iload_n hx hb d_BD_init_10 rfl (lv_at hl 2 rfl) ?_
  refine va_putF (D := D) (ci := 0) (v := .int (nI h)) (ty := .int) (C := R_BD) (T := F_BD) (N := 4) hx hb ho j_BD t_BD t_BD_ok n_BD hown hK hP hD hS 0 rfl rfl 1 (by decide) (ho _ kf_BD_13) (fun _ h9 => h9) rfl hnm rfl (by decide +kernel) rfl rfl (Nat.le_of_ble_eq_true rfl) d_BD_init_11 (fun H locs hP hD hS => ?_)
  have hP : va_P D classes [(a, .inr (0, [.int (nI w), .int (nI h), .int (nI 0), .long (lN 0)]))] H := hP
  have hD : va_D A [(a, .inr (0, [.int (nI w), .int (nI h), .int (nI 0), .long (lN 0)]))] := hD
  refine lv_aload_n hx hb d_BD_init_14 rfl (lv_at hl 0 rfl) ?_
  refine lv_iload_n hx hb d_BD_init_15 rfl (lv_at hl 1 rfl) ?_
  refine lv_iload_n hx hb d_BD_init_16 rfl (lv_at hl 2 rfl) ?_
  refine nr_imul hx hb d_BD_init_17 ?_
  refine va_putF (D := D) (ci := 0) (v := .int (nI (w * h))) (ty := .int) (C := R_BD) (T := F_BD) (N := 4) hx hb ho j_BD t_BD t_BD_ok n_BD hown hK hP hD hS 0 rfl rfl 2 (by decide) (ho _ kf_BD_16) (fun _ h9 => h9) rfl hnm rfl (by decide +kernel) rfl rfl (Nat.le_of_ble_eq_true rfl) d_BD_init_18 (fun H locs hP hD hS => ?_)
  have hP : va_P D classes [(a, .inr (0, [.int (nI w), .int (nI h), .int (nI (w * h)), .long (lN 0)]))] H := hP
  have hD : va_D A [(a, .inr (0, [.int (nI w), .int (nI h), .int (nI (w * h)), .long (lN 0)]))] := hD
  refine lv_aload_n hx hb d_BD_init_21 rfl (lv_at hl 0 rfl) ?_
  refine lv_lconst (v := lN 1) hx hb d_BD_init_22 rfl ?_
  refine lv_aload_n hx hb d_BD_init_23 rfl (lv_at hl 0 rfl) ?_
  refine va_get (D := D) (ci := 0) (v := .int (nI (w * h))) (C := R_BD) (T := F_BD) (N := 4) hx hb ho j_BD hown hK hP 0 rfl rfl 2 (by decide) (ho _ kf_BD_16) (fun _ h9 => h9) rfl d_BD_init_24 ?_
  refine nr_lshl1 hx hb d_BD_init_27 (by omega) ?_
  refine lv_lconst (v := lN 1) hx hb d_BD_init_28 rfl ?_
  refine nr_lsub hx hb d_BD_init_29 (by omega) ?_
  refine va_put (D := D) (ci := 0) (v := .long (lN ((2 ^ (w * h)) - 1))) (ty := .long) (C := R_BD) (T := F_BD) (N := 4) hx hb ho j_BD t_BD t_BD_ok n_BD hown hK hP hD hS 0 rfl rfl 3 (by decide) (ho _ kf_BD_19) (fun _ h9 => h9) rfl (by decide +kernel) rfl rfl (Nat.le_of_ble_eq_true rfl) d_BD_init_30 (fun H locs hP hD hS => ?_)
  have hP : va_P D classes [(a, .inr (0, [.int (nI w), .int (nI h), .int (nI (w * h)), .long (lN ((2 ^ (w * h)) - 1))]))] H := hP
  have hD : va_D A [(a, .inr (0, [.int (nI w), .int (nI h), .int (nI (w * h)), .long (lN ((2 ^ (w * h)) - 1))]))] := hD
  exact rt_v E hP hD hS rfl d_BD_init_33
set_option maxHeartbeats 1000000 in
set_option maxRecDepth 100000 in
theorem c_QS_init (l : Launch) (D : va_G) (cI cL : ClassId) (a w h : Nat) (hw6 : w ≤ 6) (hh6 : h ≤ 6) : CVm l y_QS_init (.code y_QS_init b_QS_init 3 none :: Om) { frames := 1, cells := 1, slots := 6, locals := 30 } D [(a, .inr (1, [.int (nI 0), .int (nI 0), .null, .long (lN 0), .int (nI 0)]))] [(cI, .int), (cL, .long)] [.ref a, .int (nI w), .int (nI h)] 1 6 (fun u => ∃ q, u = [(a, .inr (1, [.int (nI w), .int (nI h), .ref q, .long (lN 0), .int (nI 0)])), (q, .inl (cI, 6, .inl (nA (fun _ => 0))))]) := by
  refine en_of (cc := b_QS_init) (Qc := qV D [(cI, .int), (cL, .long)] (fun u => ∃ q, u = [(a, .inr (1, [.int (nI w), .int (nI h), .ref q, .long (lN 0), .int (nI 0)])), (q, .inl (cI, 6, .inl (nA (fun _ => 0))))])) (by decide) rfl (Nat.le_of_ble_eq_true rfl) ?_
  intro p e s m below meth c A E hnm hP hD hS ls hl
  have hl : lv_has ls 3 [(0, .ref a), (1, .int (nI w)), (2, .int (nI h))] := hl
  obtain ⟨hx, hb, hml, hown, hts, hr, hlk, hA, hK, hN⟩ := id E
  have ho : ∀ q ∈ Om, q.before _ s = true := fun q h => hts q (List.mem_cons_of_mem _ h)
  refine lv_aload_n hx hb d_QS_init_0 rfl (lv_at hl 0 rfl) ?_
  refine W.objInit hx hb hown (ho _ km_QS_3) (ho _ kq_obj.1) (ho _ kq_obj.2) rfl (hl.1.trans hml.symm) rfl d_QS_init_1 (Nat.le_of_ble_eq_true rfl) (Nat.le_of_ble_eq_true rfl) ?_
  refine W.eq (g2 := F0 m 4 ls []) rfl ?_
  refine lv_aload_n hx hb d_QS_init_4 rfl (lv_at hl 0 rfl) ?_
  refine lv_bipush (v := nI 6) hx hb d_QS_init_5 (by decide) ?_
  refine nr_newi hx hb (ho _ ka_int) hK hP hD hS hA 0 rfl (by decide) (Nat.le_of_ble_eq_true rfl) (Nat.le_of_ble_eq_true rfl) d_QS_init_7 (fun q H hP hD hS => ?_)
  have hP : va_P D classes [(a, .inr (1, [.int (nI 0), .int (nI 0), .null, .long (lN 0), .int (nI 0)])), (q, .inl (cI, 6, .inl (nA (fun _ => 0))))] H := hP
  have hD : va_D A [(a, .inr (1, [.int (nI 0), .int (nI 0), .null, .long (lN 0), .int (nI 0)])), (q, .inl (cI, 6, .inl (nA (fun _ => 0))))] := hD
  refine va_putF (D := D) (ci := 1) (v := .ref q) (ty := .array .int) (C := R_QS) (T := F_QS) (N := 5) hx hb ho j_QS t_QS t_QS_ok n_QS hown hK hP hD hS 0 rfl rfl 2 (by decide) (ho _ kf_QS_9) (fun _ h9 => h9) rfl hnm rfl (by decide +kernel) rfl rfl (Nat.le_of_ble_eq_true rfl) d_QS_init_9 (fun H locs hP hD hS => ?_)
  have hP : va_P D classes [(a, .inr (1, [.int (nI 0), .int (nI 0), .ref q, .long (lN 0), .int (nI 0)])), (q, .inl (cI, 6, .inl (nA (fun _ => 0))))] H := hP
  have hD : va_D A [(a, .inr (1, [.int (nI 0), .int (nI 0), .ref q, .long (lN 0), .int (nI 0)])), (q, .inl (cI, 6, .inl (nA (fun _ => 0))))] := hD
  refine lv_aload_n hx hb d_QS_init_12 rfl (lv_at hl 0 rfl) ?_
  refine lv_bipush (v := nI 6) hx hb d_QS_init_13 (by decide) ?_
  refine lv_iload_n hx hb d_QS_init_15 rfl (lv_at hl 1 rfl) ?_
  refine va_mmin hx hb (hml.trans hl.1.symm) hown (ho _ km_QS_15) (ho _ kq_min.1) (ho _ kz_MT) (ho _ kq_min.2) (Nat.le_of_ble_eq_true rfl) (Nat.le_of_ble_eq_true rfl) (Nat.le_of_ble_eq_true rfl) (Nat.le_of_ble_eq_true rfl) d_QS_init_16 ?_
  rw [nI_min (a := 6) (b := w) (by omega) (by omega)]
  refine va_putF (D := D) (ci := 1) (v := .int (nI (min 6 w))) (ty := .int) (C := R_QS) (T := F_QS) (N := 5) hx hb ho j_QS t_QS t_QS_ok n_QS hown hK hP hD hS 0 rfl rfl 0 (by decide) (ho _ kf_QS_21) (fun _ h9 => h9) rfl hnm rfl (by decide +kernel) rfl rfl (Nat.le_of_ble_eq_true rfl) d_QS_init_19 (fun H locs hP hD hS => ?_)
  have hP : va_P D classes [(a, .inr (1, [.int (nI (min 6 w)), .int (nI 0), .ref q, .long (lN 0), .int (nI 0)])), (q, .inl (cI, 6, .inl (nA (fun _ => 0))))] H := hP
  have hD : va_D A [(a, .inr (1, [.int (nI (min 6 w)), .int (nI 0), .ref q, .long (lN 0), .int (nI 0)])), (q, .inl (cI, 6, .inl (nA (fun _ => 0))))] := hD
  refine lv_aload_n hx hb d_QS_init_22 rfl (lv_at hl 0 rfl) ?_
  refine lv_bipush (v := nI 6) hx hb d_QS_init_23 (by decide) ?_
  refine lv_iload_n hx hb d_QS_init_25 rfl (lv_at hl 2 rfl) ?_
  refine va_mmin hx hb (hml.trans hl.1.symm) hown (ho _ km_QS_15) (ho _ kq_min.1) (ho _ kz_MT) (ho _ kq_min.2) (Nat.le_of_ble_eq_true rfl) (Nat.le_of_ble_eq_true rfl) (Nat.le_of_ble_eq_true rfl) (Nat.le_of_ble_eq_true rfl) d_QS_init_26 ?_
  rw [nI_min (a := 6) (b := h) (by omega) (by omega)]
  refine va_putF (D := D) (ci := 1) (v := .int (nI (min 6 h))) (ty := .int) (C := R_QS) (T := F_QS) (N := 5) hx hb ho j_QS t_QS t_QS_ok n_QS hown hK hP hD hS 0 rfl rfl 1 (by decide) (ho _ kf_QS_25) (fun _ h9 => h9) rfl hnm rfl (by decide +kernel) rfl rfl (Nat.le_of_ble_eq_true rfl) d_QS_init_29 (fun H locs hP hD hS => ?_)
  have hP : va_P D classes [(a, .inr (1, [.int (nI (min 6 w)), .int (nI (min 6 h)), .ref q, .long (lN 0), .int (nI 0)])), (q, .inl (cI, 6, .inl (nA (fun _ => 0))))] H := hP
  have hD : va_D A [(a, .inr (1, [.int (nI (min 6 w)), .int (nI (min 6 h)), .ref q, .long (lN 0), .int (nI 0)])), (q, .inl (cI, 6, .inl (nA (fun _ => 0))))] := hD
  exact rt_v E hP hD hS ⟨q, by rw [Nat.min_eq_right hw6, Nat.min_eq_right hh6]⟩ d_QS_init_32
theorem held_n (x : Int32) : ∃ n : Nat, 1 ≤ n ∧ n ≤ 6 ∧ (if nI 1 < (if x < nI 6 then x else nI 6) then (if x < nI 6 then x else nI 6) else nI 1) = nI n ∧ (if x < 1 then 1 else if ¬ x ≤ 6 then 6 else x) = nI n := by
  rcases pk_ix x (n := 7) (by decide) with q | q | ⟨j, hj, rfl⟩
  · refine ⟨1, by decide, by decide, ?_, ?_⟩
    · have a1 : x < nI 6 := Int32.lt_of_lt_of_le q (by decide)
      have a2 : ¬ nI 1 < x := Int32.not_lt.mpr (Int32.le_of_lt (Int32.lt_of_lt_of_le q (by decide)))
      rw [if_pos a1, if_neg a2]
    · rw [if_pos (Int32.lt_of_lt_of_le q (by decide))]; rfl
  · refine ⟨6, by decide, by decide, ?_, ?_⟩
    · have a1 : ¬ x < nI 6 := Int32.not_lt.mpr (Int32.le_trans (by decide) q)
      rw [if_neg a1]; rfl
    · have a1 : ¬ x < 1 := Int32.not_lt.mpr (Int32.le_trans (by decide) q)
      have a2 : ¬ x ≤ 6 := Int32.not_le.mpr (Int32.lt_of_lt_of_le (by decide) q)
      rw [if_neg a1, if_pos a2]; rfl
  · rcases (show j = 0 ∨ j = 1 ∨ j = 2 ∨ j = 3 ∨ j = 4 ∨ j = 5 ∨ j = 6 by omega) with rfl | rfl | rfl | rfl | rfl | rfl | rfl
    · exact ⟨1, by decide, by decide, by decide, by decide⟩
    · exact ⟨1, by decide, by decide, by decide, by decide⟩
    · exact ⟨2, by decide, by decide, by decide, by decide⟩
    · exact ⟨3, by decide, by decide, by decide, by decide⟩
    · exact ⟨4, by decide, by decide, by decide, by decide⟩
    · exact ⟨5, by decide, by decide, by decide, by decide⟩
    · exact ⟨6, by decide, by decide, by decide, by decide⟩
set_option maxHeartbeats 1000000 in
set_option maxRecDepth 100000 in
theorem c_TF_held (l : Launch) (D : va_G) (cI cL : ClassId) (x : Int32) (n : Nat) (hn : (if nI 1 < (if x < nI 6 then x else nI 6) then (if x < nI 6 then x else nI 6) else nI 1) = nI n) : CI l y_TF_heldToSide (.code y_TF_heldToSide b_TF_heldToSide 1 (some .int) :: Om) { frames := 1, cells := 0, slots := 0, locals := 30 } D [] [(cI, .int), (cL, .long)] [.int x] (fun r u => r = nI n ∧ u = []) := by
  refine en_of (cc := b_TF_heldToSide) (Qc := qI D [(cI, .int), (cL, .long)] (fun r u => r = nI n ∧ u = [])) (by decide) rfl (Nat.le_of_ble_eq_true rfl) ?_
  intro p e s m below meth c A E hnm hP hD hS ls hl
  have hl : lv_has ls 1 [(0, .int x)] := hl
  obtain ⟨hx, hb, hml, hown, hts, hr, hlk, hA, hK, hN⟩ := id E
  have ho : ∀ q ∈ Om, q.before _ s = true := fun q h => hts q (List.mem_cons_of_mem _ h)
  refine lv_iconst (v := nI 1) hx hb d_TF_heldToSide_0 (by decide) ?_
  refine lv_bipush (v := nI 6) hx hb d_TF_heldToSide_1 (by decide) ?_
  refine lv_iload_n hx hb d_TF_heldToSide_3 rfl (lv_at hl 0 rfl) ?_
  refine va_mmin hx hb (hml.trans hl.1.symm) hown (ho _ km_TF_129) (ho _ kq_min.1) (ho _ kz_MT) (ho _ kq_min.2) (Nat.le_of_ble_eq_true rfl) (Nat.le_of_ble_eq_true rfl) (Nat.le_of_ble_eq_true rfl) (Nat.le_of_ble_eq_true rfl) d_TF_heldToSide_4 ?_
  refine va_mmax hx hb (hml.trans hl.1.symm) hown (ho _ km_TF_132) (ho _ kq_max.1) (ho _ kz_MT) (ho _ kq_max.2) (Nat.le_of_ble_eq_true rfl) (Nat.le_of_ble_eq_true rfl) (Nat.le_of_ble_eq_true rfl) (Nat.le_of_ble_eq_true rfl) d_TF_heldToSide_7 ?_
  exact rt_i E hP hD hS ⟨hn, rfl⟩ d_TF_heldToSide_10
