/-! magic: over Int32, as it is written -/
theorem en_ofF {l : Launch} {y : MethodName} {w w' : List Cond} {rm : Room} {cc : ByteArray} {maxL : Nat} {ret : Option FieldType} {D : va_G} {ws : va_W} {ty : List (ClassId × FieldType)} {av : List Value} {mc ms : Nat} {Qc : (Nat → Prop) → Array Value → State → Outcome → State → Prop}
    (hy : plainFor y = true) (hw : w = .code y cc maxL ret :: w') (hlen : (lg_sl av).length ≤ maxL)
    (body : ∀ (p : Program) (e : Env) (s : State) (m : MethodId) (below : List Frame) (meth : Method) (c : Code) (A : Nat → Prop), En p s m av.toArray meth c cc maxL w y.cls ret A D ty → meth.name = y.name → va_P D classes ws s.heap → va_D A ws → va_S A s.heap s.heap [] → ∀ ls : Array Slot, lv_has ls maxL (lv_args 0 av) →
      W p l e rm s m av.toArray below meth c s.heap [] 0 0 (MQ below (Qc A) av.toArray s mc ms A) (F0 m 0 ls [])) (sz : Nat) :
    Met l y w rm (cP D ws ty av sz) (Qc (va_A ws sz)) mc ms (va_A ws sz) := by
  refine va_MetF (cc := cc) (maxL := maxL) (ret := ret) hy hw ?_
  intro p e s m args below meth c s₁ B hml hv
  obtain ⟨rfl, hsz, hP, hK, hD0, hN⟩ := hv
  subst hsz
  have hts := atoms_spec (ws := w) B.pre
  have hown : s.vm.findClass y.cls = some m.cls := findClass_of_methodNamed B.named
  have hD := hD0.self (sz := s.heap.size)
  have hl := lv_entry av (n := maxL) hlen
  rw [lg_entry_eq]
  exact body p e s m below meth c (va_A ws s.heap.size) ⟨B.exec, B.bytes, hml, hown, hts, B.returns, B.notSynchronized, fun q h => Or.inr h, hK, hN⟩ (name_of_methodNamed B.named B.method).1 hP hD va_S.rf _ hl
def fM (x m : Int32) : Int32 := if 0 ≤ x ^^^ m then x - x / m * m else if x - x / m * m = 0 then x - x / m * m else x - x / m * m + m
def mgR (n x y : Int32) : Int32 := fM (x + y - (n - 1) / 2) n
def mgF (n x y : Int32) : Int32 := mgR n x y * n + fM (2 * mgR n x y - y) n + 1
def mgB (n x y : Int32) : Prop := n < 1 ∨ 15 < n ∨ n - n / 2 * 2 = 0 ∨ x < 0 ∨ n ≤ x ∨ y < 0 ∨ ¬ y < n
set_option maxHeartbeats 1000000 in
set_option maxRecDepth 100000 in
theorem c_MT_floorMod (l : Launch) (D : va_G) (cI cL : ClassId) (x m0 : Int32) (hm : ¬ m0 = 0) : CI l y_MT_floorMod (.code y_MT_floorMod b_MT_floorMod 3 (some .int) :: Om) { frames := 0, cells := 0, slots := 0, locals := 0 } D [] [(cI, .int), (cL, .long)] [.int x, .int m0] (fun r u => r = fM x m0 ∧ u = []) := by
  refine en_ofF (cc := b_MT_floorMod) (Qc := qI D [(cI, .int), (cL, .long)] (fun r u => r = fM x m0 ∧ u = [])) (by decide +kernel) rfl (Nat.le_of_ble_eq_true rfl) ?_
  intro p e s m below meth c A E hnm hP hD hS ls hl
  have hl : lv_has ls 3 [(0, .int x), (1, .int m0)] := hl
  obtain ⟨hx, hb, hml, hown, hts, hr, hlk, hA, hK, hN⟩ := id E
  have ho : ∀ q ∈ Om, q.before _ s = true := fun q h => hts q (List.mem_cons_of_mem _ h)
  refine lv_iload_n hx hb d_MT_floorMod_0 rfl (lv_at hl 0 rfl) ?_
  refine lv_iload_n hx hb d_MT_floorMod_1 rfl (lv_at hl 1 rfl) ?_
  refine lv_irem hx hb d_MT_floorMod_2 hm ?_
  refine lv_istore_n (lv' := [(2, .int (x - x / m0 * m0)), (0, .int x), (1, .int m0)]) hx hb d_MT_floorMod_3 rfl hl (by decide) rfl (fun ls hl => ?_)
  refine lv_iload_n hx hb d_MT_floorMod_4 rfl (lv_at hl 1 rfl) ?_
  refine lv_iload_n hx hb d_MT_floorMod_5 rfl (lv_at hl 2 rfl) ?_
  refine lv_ixor hx hb d_MT_floorMod_6 ?_
  refine lv_if_ge (tgt := 18) hx hb d_MT_floorMod_7 (by decide) (fun h_1 => ?_) (fun h_1 => ?_)
  · refine lv_iload_n hx hb d_MT_floorMod_18 rfl (lv_at hl 0 rfl) ?_
    exact rt_i E hP hD hS ⟨by unfold fM; simp [h_1], rfl⟩ d_MT_floorMod_19
  · refine lv_iload_n hx hb d_MT_floorMod_10 rfl (lv_at hl 0 rfl) ?_
    refine lv_if_eq (tgt := 18) hx hb d_MT_floorMod_11 (by decide) (fun h_2 => ?_) (fun h_2 => ?_)
    · refine lv_iload_n hx hb d_MT_floorMod_18 rfl (lv_at hl 0 rfl) ?_
      exact rt_i E hP hD hS ⟨by unfold fM; simp [h_1, h_2], rfl⟩ d_MT_floorMod_19
    · refine lv_iload_n hx hb d_MT_floorMod_14 rfl (lv_at hl 0 rfl) ?_
      refine lv_iload_n hx hb d_MT_floorMod_15 rfl (lv_at hl 2 rfl) ?_
      refine lv_iadd hx hb d_MT_floorMod_16 ?_
      exact rt_i E hP hD hS ⟨by unfold fM; simp [h_1, h_2], rfl⟩ d_MT_floorMod_17
set_option maxHeartbeats 1000000 in
set_option maxRecDepth 100000 in
theorem c_TF_magicOut (l : Launch) (D : va_G) (cI cL : ClassId) (x0 d0 s0 s1 s2 s3 s4 s5 q0 q1 r0 r1 r2 r3 r4 r5 r6 w h f sc pi op ln md sfd qf sn g sh al rfd : Nat) (re pa wo wc wt rows fx le tr wi co ro uc ur pm qm : Nat → Nat) (n0 x y : Int32) (hb0 : mgB n0 x y) : CI l y_TF_magic (.code y_TF_magic b_TF_magic 6 (some .int) :: Om) { frames := 1, cells := 0, slots := 0, locals := 22 } D [(x0, .inr (4, [.ref d0, .ref s0, .ref q0, .ref r0, .int (nI sc)])), (d0, .inr (0, [.int (nI w), .int (nI h), .int (nI (w * h)), .long (lN f)])), (s0, .inr (3, [.ref s1, .ref s2, .ref s3, .ref s4, .ref s5, .int (nI pi), .long (lN op), .int (nI ln), .int (nI md), .int (nI sfd)])), (s1, .inl (cL, 108, .inr (.inl (lA re)))), (s2, .inl (cI, 36, .inl (nA pa))), (s3, .inl (cI, 288, .inl (nA wo))), (s4, .inl (cI, 36, .inl (nA wc))), (s5, .inl (cI, 36, .inl (nA wt))), (q0, .inr (1, [.int (nI w), .int (nI h), .ref q1, .long (lN qf), .int (nI sn)])), (q1, .inl (cI, 6, .inl (nA rows))), (r0, .inr (2, [.int (nI (w * h)), .int (nI g), .int (nI sh), .int (nI al), .ref r1, .ref r2, .ref r3, .ref r4, .ref r5, .ref r6, .long (lN (lz uc)), .long (lN (lz ur)), .int (nI rfd)])), (r1, .inl (cI, 36, .inl (nA fx))), (r2, .inl (cI, 36, .inl (nA le))), (r3, .inl (cI, 36, .inl (nA tr))), (r4, .inl (cI, 36, .inl (nA wi))), (r5, .inl (cI, 36, .inl (nA (e8 co)))), (r6, .inl (cI, 36, .inl (nA (e8 ro))))] [(cI, .int), (cL, .long)] [.ref x0, .int n0, .int x, .int y] (fun r u => r = -1 ∧ u = [(x0, .inr (4, [.ref d0, .ref s0, .ref q0, .ref r0, .int (nI sc)])), (d0, .inr (0, [.int (nI w), .int (nI h), .int (nI (w * h)), .long (lN f)])), (s0, .inr (3, [.ref s1, .ref s2, .ref s3, .ref s4, .ref s5, .int (nI pi), .long (lN op), .int (nI ln), .int (nI md), .int (nI sfd)])), (s1, .inl (cL, 108, .inr (.inl (lA re)))), (s2, .inl (cI, 36, .inl (nA pa))), (s3, .inl (cI, 288, .inl (nA wo))), (s4, .inl (cI, 36, .inl (nA wc))), (s5, .inl (cI, 36, .inl (nA wt))), (q0, .inr (1, [.int (nI w), .int (nI h), .ref q1, .long (lN qf), .int (nI sn)])), (q1, .inl (cI, 6, .inl (nA rows))), (r0, .inr (2, [.int (nI (w * h)), .int (nI g), .int (nI sh), .int (nI al), .ref r1, .ref r2, .ref r3, .ref r4, .ref r5, .ref r6, .long (lN (lz uc)), .long (lN (lz ur)), .int (nI rfd)])), (r1, .inl (cI, 36, .inl (nA fx))), (r2, .inl (cI, 36, .inl (nA le))), (r3, .inl (cI, 36, .inl (nA tr))), (r4, .inl (cI, 36, .inl (nA wi))), (r5, .inl (cI, 36, .inl (nA (e8 co)))), (r6, .inl (cI, 36, .inl (nA (e8 ro))))]) := by
  refine en_of (cc := b_TF_magic) (Qc := qI D [(cI, .int), (cL, .long)] (fun r u => r = -1 ∧ u = [(x0, .inr (4, [.ref d0, .ref s0, .ref q0, .ref r0, .int (nI sc)])), (d0, .inr (0, [.int (nI w), .int (nI h), .int (nI (w * h)), .long (lN f)])), (s0, .inr (3, [.ref s1, .ref s2, .ref s3, .ref s4, .ref s5, .int (nI pi), .long (lN op), .int (nI ln), .int (nI md), .int (nI sfd)])), (s1, .inl (cL, 108, .inr (.inl (lA re)))), (s2, .inl (cI, 36, .inl (nA pa))), (s3, .inl (cI, 288, .inl (nA wo))), (s4, .inl (cI, 36, .inl (nA wc))), (s5, .inl (cI, 36, .inl (nA wt))), (q0, .inr (1, [.int (nI w), .int (nI h), .ref q1, .long (lN qf), .int (nI sn)])), (q1, .inl (cI, 6, .inl (nA rows))), (r0, .inr (2, [.int (nI (w * h)), .int (nI g), .int (nI sh), .int (nI al), .ref r1, .ref r2, .ref r3, .ref r4, .ref r5, .ref r6, .long (lN (lz uc)), .long (lN (lz ur)), .int (nI rfd)])), (r1, .inl (cI, 36, .inl (nA fx))), (r2, .inl (cI, 36, .inl (nA le))), (r3, .inl (cI, 36, .inl (nA tr))), (r4, .inl (cI, 36, .inl (nA wi))), (r5, .inl (cI, 36, .inl (nA (e8 co)))), (r6, .inl (cI, 36, .inl (nA (e8 ro))))])) (by decide) rfl (Nat.le_of_ble_eq_true rfl) ?_
  intro p e s m below meth c A E hnm hP hD hS ls hl
  have hl : lv_has ls 6 [(0, .ref x0), (1, .int n0), (2, .int x), (3, .int y)] := hl
  obtain ⟨hx, hb, hml, hown, hts, hr, hlk, hA, hK, hN⟩ := id E
  have ho : ∀ q ∈ Om, q.before _ s = true := fun q h => hts q (List.mem_cons_of_mem _ h)
  refine lv_iload_n hx hb d_TF_magic_0 rfl (lv_at hl 1 rfl) ?_
  refine lv_iconst (v := 1) hx hb d_TF_magic_1 (by decide) ?_
  refine lv_icmp_lt (tgt := 35) hx hb d_TF_magic_2 (by decide) (fun h_1 => ?_) (fun h_1 => ?_)
  · refine lv_iconst (v := (-1)) hx hb d_TF_magic_35 (by decide) ?_
    exact rt_i E hP hD hS ⟨rfl, rfl⟩ d_TF_magic_36
  · refine lv_iload_n hx hb d_TF_magic_5 rfl (lv_at hl 1 rfl) ?_
    refine lv_bipush (v := 15) hx hb d_TF_magic_6 (by decide) ?_
    refine lv_icmp_gt (tgt := 35) hx hb d_TF_magic_8 (by decide) (fun h_2 => ?_) (fun h_2 => ?_)
    · refine lv_iconst (v := (-1)) hx hb d_TF_magic_35 (by decide) ?_
      exact rt_i E hP hD hS ⟨rfl, rfl⟩ d_TF_magic_36
    · refine lv_iload_n hx hb d_TF_magic_11 rfl (lv_at hl 1 rfl) ?_
      refine lv_iconst (v := 2) hx hb d_TF_magic_12 (by decide) ?_
      refine lv_irem hx hb d_TF_magic_13 (by decide) ?_
      refine lv_if_eq (tgt := 35) hx hb d_TF_magic_14 (by decide) (fun h_3 => ?_) (fun h_3 => ?_)
      · refine lv_iconst (v := (-1)) hx hb d_TF_magic_35 (by decide) ?_
        exact rt_i E hP hD hS ⟨rfl, rfl⟩ d_TF_magic_36
      · refine lv_iload_n hx hb d_TF_magic_17 rfl (lv_at hl 2 rfl) ?_
        refine lv_if_lt (tgt := 35) hx hb d_TF_magic_18 (by decide) (fun h_4 => ?_) (fun h_4 => ?_)
        · refine lv_iconst (v := (-1)) hx hb d_TF_magic_35 (by decide) ?_
          exact rt_i E hP hD hS ⟨rfl, rfl⟩ d_TF_magic_36
        · refine lv_iload_n hx hb d_TF_magic_21 rfl (lv_at hl 2 rfl) ?_
          refine lv_iload_n hx hb d_TF_magic_22 rfl (lv_at hl 1 rfl) ?_
          refine lv_icmp_ge (tgt := 35) hx hb d_TF_magic_23 (by decide) (fun h_5 => ?_) (fun h_5 => ?_)
          · refine lv_iconst (v := (-1)) hx hb d_TF_magic_35 (by decide) ?_
            exact rt_i E hP hD hS ⟨rfl, rfl⟩ d_TF_magic_36
          · refine lv_iload_n hx hb d_TF_magic_26 rfl (lv_at hl 3 rfl) ?_
            refine lv_if_lt (tgt := 35) hx hb d_TF_magic_27 (by decide) (fun h_6 => ?_) (fun h_6 => ?_)
            · refine lv_iconst (v := (-1)) hx hb d_TF_magic_35 (by decide) ?_
              exact rt_i E hP hD hS ⟨rfl, rfl⟩ d_TF_magic_36
            · refine lv_iload_n hx hb d_TF_magic_30 rfl (lv_at hl 3 rfl) ?_
              refine lv_iload_n hx hb d_TF_magic_31 rfl (lv_at hl 1 rfl) ?_
              refine lv_icmp_lt (tgt := 37) hx hb d_TF_magic_32 (by decide) (fun h_7 => ?_) (fun h_7 => ?_)
              · exact absurd hb0 (by unfold mgB; rintro (q | q | q | q | q | q | q) <;> contradiction)
              · refine lv_iconst (v := (-1)) hx hb d_TF_magic_35 (by decide) ?_
                exact rt_i E hP hD hS ⟨rfl, rfl⟩ d_TF_magic_36
set_option maxHeartbeats 1000000 in
set_option maxRecDepth 100000 in
theorem c_TF_magicIn (l : Launch) (D : va_G) (cI cL : ClassId) (x0 d0 s0 s1 s2 s3 s4 s5 q0 q1 r0 r1 r2 r3 r4 r5 r6 w h f sc pi op ln md sfd qf sn g sh al rfd : Nat) (re pa wo wc wt rows fx le tr wi co ro uc ur pm qm : Nat → Nat) (n0 x y : Int32) (hb0 : ¬ mgB n0 x y) (hm0 : ¬ n0 = 0) : CI l y_TF_magic (.code y_TF_magic b_TF_magic 6 (some .int) :: Om) { frames := 1, cells := 0, slots := 0, locals := 22 } D [(x0, .inr (4, [.ref d0, .ref s0, .ref q0, .ref r0, .int (nI sc)])), (d0, .inr (0, [.int (nI w), .int (nI h), .int (nI (w * h)), .long (lN f)])), (s0, .inr (3, [.ref s1, .ref s2, .ref s3, .ref s4, .ref s5, .int (nI pi), .long (lN op), .int (nI ln), .int (nI md), .int (nI sfd)])), (s1, .inl (cL, 108, .inr (.inl (lA re)))), (s2, .inl (cI, 36, .inl (nA pa))), (s3, .inl (cI, 288, .inl (nA wo))), (s4, .inl (cI, 36, .inl (nA wc))), (s5, .inl (cI, 36, .inl (nA wt))), (q0, .inr (1, [.int (nI w), .int (nI h), .ref q1, .long (lN qf), .int (nI sn)])), (q1, .inl (cI, 6, .inl (nA rows))), (r0, .inr (2, [.int (nI (w * h)), .int (nI g), .int (nI sh), .int (nI al), .ref r1, .ref r2, .ref r3, .ref r4, .ref r5, .ref r6, .long (lN (lz uc)), .long (lN (lz ur)), .int (nI rfd)])), (r1, .inl (cI, 36, .inl (nA fx))), (r2, .inl (cI, 36, .inl (nA le))), (r3, .inl (cI, 36, .inl (nA tr))), (r4, .inl (cI, 36, .inl (nA wi))), (r5, .inl (cI, 36, .inl (nA (e8 co)))), (r6, .inl (cI, 36, .inl (nA (e8 ro))))] [(cI, .int), (cL, .long)] [.ref x0, .int n0, .int x, .int y] (fun r u => r = mgF n0 x y ∧ u = [(x0, .inr (4, [.ref d0, .ref s0, .ref q0, .ref r0, .int (nI sc)])), (d0, .inr (0, [.int (nI w), .int (nI h), .int (nI (w * h)), .long (lN f)])), (s0, .inr (3, [.ref s1, .ref s2, .ref s3, .ref s4, .ref s5, .int (nI pi), .long (lN op), .int (nI ln), .int (nI md), .int (nI sfd)])), (s1, .inl (cL, 108, .inr (.inl (lA re)))), (s2, .inl (cI, 36, .inl (nA pa))), (s3, .inl (cI, 288, .inl (nA wo))), (s4, .inl (cI, 36, .inl (nA wc))), (s5, .inl (cI, 36, .inl (nA wt))), (q0, .inr (1, [.int (nI w), .int (nI h), .ref q1, .long (lN qf), .int (nI sn)])), (q1, .inl (cI, 6, .inl (nA rows))), (r0, .inr (2, [.int (nI (w * h)), .int (nI g), .int (nI sh), .int (nI al), .ref r1, .ref r2, .ref r3, .ref r4, .ref r5, .ref r6, .long (lN (lz uc)), .long (lN (lz ur)), .int (nI rfd)])), (r1, .inl (cI, 36, .inl (nA fx))), (r2, .inl (cI, 36, .inl (nA le))), (r3, .inl (cI, 36, .inl (nA tr))), (r4, .inl (cI, 36, .inl (nA wi))), (r5, .inl (cI, 36, .inl (nA (e8 co)))), (r6, .inl (cI, 36, .inl (nA (e8 ro))))]) := by
  refine en_of (cc := b_TF_magic) (Qc := qI D [(cI, .int), (cL, .long)] (fun r u => r = mgF n0 x y ∧ u = [(x0, .inr (4, [.ref d0, .ref s0, .ref q0, .ref r0, .int (nI sc)])), (d0, .inr (0, [.int (nI w), .int (nI h), .int (nI (w * h)), .long (lN f)])), (s0, .inr (3, [.ref s1, .ref s2, .ref s3, .ref s4, .ref s5, .int (nI pi), .long (lN op), .int (nI ln), .int (nI md), .int (nI sfd)])), (s1, .inl (cL, 108, .inr (.inl (lA re)))), (s2, .inl (cI, 36, .inl (nA pa))), (s3, .inl (cI, 288, .inl (nA wo))), (s4, .inl (cI, 36, .inl (nA wc))), (s5, .inl (cI, 36, .inl (nA wt))), (q0, .inr (1, [.int (nI w), .int (nI h), .ref q1, .long (lN qf), .int (nI sn)])), (q1, .inl (cI, 6, .inl (nA rows))), (r0, .inr (2, [.int (nI (w * h)), .int (nI g), .int (nI sh), .int (nI al), .ref r1, .ref r2, .ref r3, .ref r4, .ref r5, .ref r6, .long (lN (lz uc)), .long (lN (lz ur)), .int (nI rfd)])), (r1, .inl (cI, 36, .inl (nA fx))), (r2, .inl (cI, 36, .inl (nA le))), (r3, .inl (cI, 36, .inl (nA tr))), (r4, .inl (cI, 36, .inl (nA wi))), (r5, .inl (cI, 36, .inl (nA (e8 co)))), (r6, .inl (cI, 36, .inl (nA (e8 ro))))])) (by decide) rfl (Nat.le_of_ble_eq_true rfl) ?_
  intro p e s m below meth c A E hnm hP hD hS ls hl
  have hl : lv_has ls 6 [(0, .ref x0), (1, .int n0), (2, .int x), (3, .int y)] := hl
  obtain ⟨hx, hb, hml, hown, hts, hr, hlk, hA, hK, hN⟩ := id E
  have ho : ∀ q ∈ Om, q.before _ s = true := fun q h => hts q (List.mem_cons_of_mem _ h)
  refine lv_iload_n hx hb d_TF_magic_0 rfl (lv_at hl 1 rfl) ?_
  refine lv_iconst (v := 1) hx hb d_TF_magic_1 (by decide) ?_
  refine lv_icmp_lt (tgt := 35) hx hb d_TF_magic_2 (by decide) (fun h_1 => ?_) (fun h_1 => ?_)
  · exact absurd (by unfold mgB; simp [h_1]) hb0
  · refine lv_iload_n hx hb d_TF_magic_5 rfl (lv_at hl 1 rfl) ?_
    refine lv_bipush (v := 15) hx hb d_TF_magic_6 (by decide) ?_
    refine lv_icmp_gt (tgt := 35) hx hb d_TF_magic_8 (by decide) (fun h_2 => ?_) (fun h_2 => ?_)
    · exact absurd (by unfold mgB; simp [h_1, h_2]) hb0
    · refine lv_iload_n hx hb d_TF_magic_11 rfl (lv_at hl 1 rfl) ?_
      refine lv_iconst (v := 2) hx hb d_TF_magic_12 (by decide) ?_
      refine lv_irem hx hb d_TF_magic_13 (by decide) ?_
      refine lv_if_eq (tgt := 35) hx hb d_TF_magic_14 (by decide) (fun h_3 => ?_) (fun h_3 => ?_)
      · exact absurd (by unfold mgB; simp [h_1, h_2, h_3]) hb0
      · refine lv_iload_n hx hb d_TF_magic_17 rfl (lv_at hl 2 rfl) ?_
        refine lv_if_lt (tgt := 35) hx hb d_TF_magic_18 (by decide) (fun h_4 => ?_) (fun h_4 => ?_)
        · exact absurd (by unfold mgB; simp [h_1, h_2, h_3, h_4]) hb0
        · refine lv_iload_n hx hb d_TF_magic_21 rfl (lv_at hl 2 rfl) ?_
          refine lv_iload_n hx hb d_TF_magic_22 rfl (lv_at hl 1 rfl) ?_
          refine lv_icmp_ge (tgt := 35) hx hb d_TF_magic_23 (by decide) (fun h_5 => ?_) (fun h_5 => ?_)
          · exact absurd (by unfold mgB; simp [h_1, h_2, h_3, h_4, h_5]) hb0
          · refine lv_iload_n hx hb d_TF_magic_26 rfl (lv_at hl 3 rfl) ?_
            refine lv_if_lt (tgt := 35) hx hb d_TF_magic_27 (by decide) (fun h_6 => ?_) (fun h_6 => ?_)
            · exact absurd (by unfold mgB; simp [h_1, h_2, h_3, h_4, h_5, h_6]) hb0
            · refine lv_iload_n hx hb d_TF_magic_30 rfl (lv_at hl 3 rfl) ?_
              refine lv_iload_n hx hb d_TF_magic_31 rfl (lv_at hl 1 rfl) ?_
              refine lv_icmp_lt (tgt := 37) hx hb d_TF_magic_32 (by decide) (fun h_7 => ?_) (fun h_7 => ?_)
              · refine lv_iload_n hx hb d_TF_magic_37 rfl (lv_at hl 2 rfl) ?_
                refine lv_iload_n hx hb d_TF_magic_38 rfl (lv_at hl 3 rfl) ?_
                refine lv_iadd hx hb d_TF_magic_39 ?_
                refine lv_iload_n hx hb d_TF_magic_40 rfl (lv_at hl 1 rfl) ?_
                refine lv_iconst (v := 1) hx hb d_TF_magic_41 (by decide) ?_
                refine lv_isub hx hb d_TF_magic_42 ?_
                refine lv_iconst (v := 2) hx hb d_TF_magic_43 (by decide) ?_
                refine lv_idiv hx hb d_TF_magic_44 (by decide) ?_
                refine lv_isub hx hb d_TF_magic_45 ?_
                refine lv_iload_n hx hb d_TF_magic_46 rfl (lv_at hl 1 rfl) ?_
                refine af_i (wc := []) (wr := [(x0, .inr (4, [.ref d0, .ref s0, .ref q0, .ref r0, .int (nI sc)])), (d0, .inr (0, [.int (nI w), .int (nI h), .int (nI (w * h)), .long (lN f)])), (s0, .inr (3, [.ref s1, .ref s2, .ref s3, .ref s4, .ref s5, .int (nI pi), .long (lN op), .int (nI ln), .int (nI md), .int (nI sfd)])), (s1, .inl (cL, 108, .inr (.inl (lA re)))), (s2, .inl (cI, 36, .inl (nA pa))), (s3, .inl (cI, 288, .inl (nA wo))), (s4, .inl (cI, 36, .inl (nA wc))), (s5, .inl (cI, 36, .inl (nA wt))), (q0, .inr (1, [.int (nI w), .int (nI h), .ref q1, .long (lN qf), .int (nI sn)])), (q1, .inl (cI, 6, .inl (nA rows))), (r0, .inr (2, [.int (nI (w * h)), .int (nI g), .int (nI sh), .int (nI al), .ref r1, .ref r2, .ref r3, .ref r4, .ref r5, .ref r6, .long (lN (lz uc)), .long (lN (lz ur)), .int (nI rfd)])), (r1, .inl (cI, 36, .inl (nA fx))), (r2, .inl (cI, 36, .inl (nA le))), (r3, .inl (cI, 36, .inl (nA tr))), (r4, .inl (cI, 36, .inl (nA wi))), (r5, .inl (cI, 36, .inl (nA (e8 co)))), (r6, .inl (cI, 36, .inl (nA (e8 ro))))]) (rest := []) [] [0, 1, 2, 3, 4, 5, 6, 7, 8, 9, 10, 11, 12, 13, 14, 15, 16] hP hD hS hA rfl rfl (by decide) (by decide) (rn_S E (As := [.int ((x + y) - ((n0 - 1) / 2)), .int n0]) m_MT_floorMod km_TF_124 (c_MT_floorMod l D cI cL ((x + y) - ((n0 - 1) / 2)) n0 hm0 _) ⟨rfl, rfl, by dsimp only; omega, by dsimp only; omega⟩ (hP.sub [] rfl) (hD.sub [] (by decide) rfl) rfl hl.1 rfl (Nat.le_of_ble_eq_true rfl) ⟨Nat.le_of_ble_eq_true rfl, Nat.le_of_ble_eq_true rfl⟩ d_TF_magic_47) (fun r_9 u_8 H locs hw hP hD hS => ?_)
                obtain ⟨rfl, rfl⟩ := hw
                have hP : va_P D classes [(x0, .inr (4, [.ref d0, .ref s0, .ref q0, .ref r0, .int (nI sc)])), (d0, .inr (0, [.int (nI w), .int (nI h), .int (nI (w * h)), .long (lN f)])), (s0, .inr (3, [.ref s1, .ref s2, .ref s3, .ref s4, .ref s5, .int (nI pi), .long (lN op), .int (nI ln), .int (nI md), .int (nI sfd)])), (s1, .inl (cL, 108, .inr (.inl (lA re)))), (s2, .inl (cI, 36, .inl (nA pa))), (s3, .inl (cI, 288, .inl (nA wo))), (s4, .inl (cI, 36, .inl (nA wc))), (s5, .inl (cI, 36, .inl (nA wt))), (q0, .inr (1, [.int (nI w), .int (nI h), .ref q1, .long (lN qf), .int (nI sn)])), (q1, .inl (cI, 6, .inl (nA rows))), (r0, .inr (2, [.int (nI (w * h)), .int (nI g), .int (nI sh), .int (nI al), .ref r1, .ref r2, .ref r3, .ref r4, .ref r5, .ref r6, .long (lN (lz uc)), .long (lN (lz ur)), .int (nI rfd)])), (r1, .inl (cI, 36, .inl (nA fx))), (r2, .inl (cI, 36, .inl (nA le))), (r3, .inl (cI, 36, .inl (nA tr))), (r4, .inl (cI, 36, .inl (nA wi))), (r5, .inl (cI, 36, .inl (nA (e8 co)))), (r6, .inl (cI, 36, .inl (nA (e8 ro))))] H := hP
                have hD : va_D A [(x0, .inr (4, [.ref d0, .ref s0, .ref q0, .ref r0, .int (nI sc)])), (d0, .inr (0, [.int (nI w), .int (nI h), .int (nI (w * h)), .long (lN f)])), (s0, .inr (3, [.ref s1, .ref s2, .ref s3, .ref s4, .ref s5, .int (nI pi), .long (lN op), .int (nI ln), .int (nI md), .int (nI sfd)])), (s1, .inl (cL, 108, .inr (.inl (lA re)))), (s2, .inl (cI, 36, .inl (nA pa))), (s3, .inl (cI, 288, .inl (nA wo))), (s4, .inl (cI, 36, .inl (nA wc))), (s5, .inl (cI, 36, .inl (nA wt))), (q0, .inr (1, [.int (nI w), .int (nI h), .ref q1, .long (lN qf), .int (nI sn)])), (q1, .inl (cI, 6, .inl (nA rows))), (r0, .inr (2, [.int (nI (w * h)), .int (nI g), .int (nI sh), .int (nI al), .ref r1, .ref r2, .ref r3, .ref r4, .ref r5, .ref r6, .long (lN (lz uc)), .long (lN (lz ur)), .int (nI rfd)])), (r1, .inl (cI, 36, .inl (nA fx))), (r2, .inl (cI, 36, .inl (nA le))), (r3, .inl (cI, 36, .inl (nA tr))), (r4, .inl (cI, 36, .inl (nA wi))), (r5, .inl (cI, 36, .inl (nA (e8 co)))), (r6, .inl (cI, 36, .inl (nA (e8 ro))))] := hD
                refine lv_istore (lv' := [(4, .int (fM ((x + y) - ((n0 - 1) / 2)) n0)), (0, .ref x0), (1, .int n0), (2, .int x), (3, .int y)]) hx hb d_TF_magic_50 hl (by decide) rfl (fun ls hl => ?_)
                refine lv_iconst (v := 2) hx hb d_TF_magic_52 (by decide) ?_
                refine lv_iload hx hb d_TF_magic_53 (lv_at hl 0 rfl) ?_
                refine lv_imul hx hb d_TF_magic_55 ?_
                refine lv_iload_n hx hb d_TF_magic_56 rfl (lv_at hl 4 rfl) ?_
                refine lv_isub hx hb d_TF_magic_57 ?_
                refine lv_iload_n hx hb d_TF_magic_58 rfl (lv_at hl 2 rfl) ?_
                refine af_i (wc := []) (wr := [(x0, .inr (4, [.ref d0, .ref s0, .ref q0, .ref r0, .int (nI sc)])), (d0, .inr (0, [.int (nI w), .int (nI h), .int (nI (w * h)), .long (lN f)])), (s0, .inr (3, [.ref s1, .ref s2, .ref s3, .ref s4, .ref s5, .int (nI pi), .long (lN op), .int (nI ln), .int (nI md), .int (nI sfd)])), (s1, .inl (cL, 108, .inr (.inl (lA re)))), (s2, .inl (cI, 36, .inl (nA pa))), (s3, .inl (cI, 288, .inl (nA wo))), (s4, .inl (cI, 36, .inl (nA wc))), (s5, .inl (cI, 36, .inl (nA wt))), (q0, .inr (1, [.int (nI w), .int (nI h), .ref q1, .long (lN qf), .int (nI sn)])), (q1, .inl (cI, 6, .inl (nA rows))), (r0, .inr (2, [.int (nI (w * h)), .int (nI g), .int (nI sh), .int (nI al), .ref r1, .ref r2, .ref r3, .ref r4, .ref r5, .ref r6, .long (lN (lz uc)), .long (lN (lz ur)), .int (nI rfd)])), (r1, .inl (cI, 36, .inl (nA fx))), (r2, .inl (cI, 36, .inl (nA le))), (r3, .inl (cI, 36, .inl (nA tr))), (r4, .inl (cI, 36, .inl (nA wi))), (r5, .inl (cI, 36, .inl (nA (e8 co)))), (r6, .inl (cI, 36, .inl (nA (e8 ro))))]) (rest := []) [] [0, 1, 2, 3, 4, 5, 6, 7, 8, 9, 10, 11, 12, 13, 14, 15, 16] hP hD hS hA rfl rfl (by decide) (by decide) (rn_S E (As := [.int ((2 * (fM ((x + y) - ((n0 - 1) / 2)) n0)) - y), .int n0]) m_MT_floorMod km_TF_124 (c_MT_floorMod l D cI cL ((2 * (fM ((x + y) - ((n0 - 1) / 2)) n0)) - y) n0 hm0 _) ⟨rfl, rfl, by dsimp only; omega, by dsimp only; omega⟩ (hP.sub [] rfl) (hD.sub [] (by decide) rfl) rfl hl.1 rfl (Nat.le_of_ble_eq_true rfl) ⟨Nat.le_of_ble_eq_true rfl, Nat.le_of_ble_eq_true rfl⟩ d_TF_magic_59) (fun r_11 u_10 H locs hw hP hD hS => ?_)
                obtain ⟨rfl, rfl⟩ := hw
                have hP : va_P D classes [(x0, .inr (4, [.ref d0, .ref s0, .ref q0, .ref r0, .int (nI sc)])), (d0, .inr (0, [.int (nI w), .int (nI h), .int (nI (w * h)), .long (lN f)])), (s0, .inr (3, [.ref s1, .ref s2, .ref s3, .ref s4, .ref s5, .int (nI pi), .long (lN op), .int (nI ln), .int (nI md), .int (nI sfd)])), (s1, .inl (cL, 108, .inr (.inl (lA re)))), (s2, .inl (cI, 36, .inl (nA pa))), (s3, .inl (cI, 288, .inl (nA wo))), (s4, .inl (cI, 36, .inl (nA wc))), (s5, .inl (cI, 36, .inl (nA wt))), (q0, .inr (1, [.int (nI w), .int (nI h), .ref q1, .long (lN qf), .int (nI sn)])), (q1, .inl (cI, 6, .inl (nA rows))), (r0, .inr (2, [.int (nI (w * h)), .int (nI g), .int (nI sh), .int (nI al), .ref r1, .ref r2, .ref r3, .ref r4, .ref r5, .ref r6, .long (lN (lz uc)), .long (lN (lz ur)), .int (nI rfd)])), (r1, .inl (cI, 36, .inl (nA fx))), (r2, .inl (cI, 36, .inl (nA le))), (r3, .inl (cI, 36, .inl (nA tr))), (r4, .inl (cI, 36, .inl (nA wi))), (r5, .inl (cI, 36, .inl (nA (e8 co)))), (r6, .inl (cI, 36, .inl (nA (e8 ro))))] H := hP
                have hD : va_D A [(x0, .inr (4, [.ref d0, .ref s0, .ref q0, .ref r0, .int (nI sc)])), (d0, .inr (0, [.int (nI w), .int (nI h), .int (nI (w * h)), .long (lN f)])), (s0, .inr (3, [.ref s1, .ref s2, .ref s3, .ref s4, .ref s5, .int (nI pi), .long (lN op), .int (nI ln), .int (nI md), .int (nI sfd)])), (s1, .inl (cL, 108, .inr (.inl (lA re)))), (s2, .inl (cI, 36, .inl (nA pa))), (s3, .inl (cI, 288, .inl (nA wo))), (s4, .inl (cI, 36, .inl (nA wc))), (s5, .inl (cI, 36, .inl (nA wt))), (q0, .inr (1, [.int (nI w), .int (nI h), .ref q1, .long (lN qf), .int (nI sn)])), (q1, .inl (cI, 6, .inl (nA rows))), (r0, .inr (2, [.int (nI (w * h)), .int (nI g), .int (nI sh), .int (nI al), .ref r1, .ref r2, .ref r3, .ref r4, .ref r5, .ref r6, .long (lN (lz uc)), .long (lN (lz ur)), .int (nI rfd)])), (r1, .inl (cI, 36, .inl (nA fx))), (r2, .inl (cI, 36, .inl (nA le))), (r3, .inl (cI, 36, .inl (nA tr))), (r4, .inl (cI, 36, .inl (nA wi))), (r5, .inl (cI, 36, .inl (nA (e8 co)))), (r6, .inl (cI, 36, .inl (nA (e8 ro))))] := hD
                refine lv_istore (lv' := [(5, .int (fM ((2 * (fM ((x + y) - ((n0 - 1) / 2)) n0)) - y) n0)), (4, .int (fM ((x + y) - ((n0 - 1) / 2)) n0)), (0, .ref x0), (1, .int n0), (2, .int x), (3, .int y)]) hx hb d_TF_magic_62 hl (by decide) rfl (fun ls hl => ?_)
                refine lv_iload hx hb d_TF_magic_64 (lv_at hl 1 rfl) ?_
                refine lv_iload_n hx hb d_TF_magic_66 rfl (lv_at hl 3 rfl) ?_
                refine lv_imul hx hb d_TF_magic_67 ?_
                refine lv_iload hx hb d_TF_magic_68 (lv_at hl 0 rfl) ?_
                refine lv_iadd hx hb d_TF_magic_70 ?_
                refine lv_iconst (v := 1) hx hb d_TF_magic_71 (by decide) ?_
                refine lv_iadd hx hb d_TF_magic_72 ?_
                exact rt_i E hP hD hS ⟨rfl, rfl⟩ d_TF_magic_73
              · exact absurd (by unfold mgB; simp [h_1, h_2, h_3, h_4, h_5, h_6, h_7]) hb0
