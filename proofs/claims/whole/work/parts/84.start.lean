/-! the law's start: the script's cells, both objects -/
abbrev A9 (s : State) : Nat → Prop := fun q => s.heap.size ≤ q
def cv (L : Nat) (xs : Nat → Int32) (k : Nat) : Int32 := if k < L then xs k else nI 0
def cX (D : va_G) (ty : List (ClassId × FieldType)) (av : List Value) (sz sb L : Nat) (xs : Nat → Int32) : Array Value → State → Prop := fun a U => cP D [] ty av sz a U ∧ va_X sb L xs U U.heap ∧ sb < U.heap.size
theorem cX_blind {D : va_G} {ty : List (ClassId × FieldType)} {av : List Value} {sz sb L : Nat} {xs : Nat → Int32} : FrameBlind (cX D ty av sz sb L xs) := by
  intro a U g mk q
  exact ⟨cP_blind (a) (U) g mk q.1, va_X.moved (u := U) (U := U.calling g mk a) (Vm.Alike.refl U.vm) q.2.1, q.2.2⟩
theorem arr_of {args : Array Value} {s : State} {ty : FieldType} (h : (Cond.arrayClass ty).before args s = true) (hp : ty = .int ∨ ty = .long ∨ ty = .boolean) : ∃ cA, ArrOfT s cA ty ∧ va_RA s cA ty := by
  obtain ⟨cA, kA, comp, h1, h2, h3⟩ := Cond.arrayClass_spec h
  exact ⟨cA, fun n z => ⟨fun k h => (by cases h), kA, h2, comp, h3⟩, by rcases hp with rfl | rfl | rfl <;> exact h1⟩
set_option maxHeartbeats 1000000 in
set_option maxRecDepth 100000 in
theorem c_law_cell (l : Launch) (D : va_G) (ty : List (ClassId × FieldType)) (sb L k : Nat) (xs : Nat → Int32) (hk : k < 2 ^ 31) (hL : L < 2 ^ 31) (sz : Nat) : Met l y_law_cell (.code y_law_cell b_law_cell 2 (some .int) :: Om) { frames := 0, cells := 0, slots := 0, locals := 0 } (cX D ty [.ref sb, .int (nI k)] sz sb L xs) (qI D ty (fun r u => r = cv L xs k ∧ u = []) (va_A [] sz)) 0 0 (va_A [] sz) := by
  refine Met.ofW (cc := b_law_cell) (maxL := 2) (ret := some .int) (by decide) rfl ?_
  intro p e s m args below meth c s₁ B hml hv
  obtain ⟨⟨rfl, hsz, hP, hK, hD0, hN⟩, hX, hbl⟩ := hv
  subst hsz
  have hts := atoms_spec (ws := .code y_law_cell b_law_cell 2 (some .int) :: Om) B.pre
  have hown : s.vm.findClass y_law_cell.cls = some m.cls := findClass_of_methodNamed B.named
  have hD := hD0.self (sz := s.heap.size)
  have hl := lv_entry [.ref sb, .int (nI k)] (n := 2) (Nat.le_of_ble_eq_true rfl)
  rw [lg_entry_eq]
  have hS : va_S (va_A [] s.heap.size) s.heap s.heap [] := va_S.rf
  have hbA : ¬ va_A [] s.heap.size sb := by
    rintro (⟨j, x, h1⟩ | h1)
    · simp at h1
    · omega
  have E : En p s m [Value.ref sb, .int (nI k)].toArray meth c b_law_cell 2 (.code y_law_cell b_law_cell 2 (some .int) :: Om) y_law_cell.cls (some .int) (va_A [] s.heap.size) D ty := ⟨B.exec, B.bytes, hml, hown, hts, B.returns, B.notSynchronized, fun q h => Or.inr h, hK, hN⟩
  have hx := B.exec
  have hb := B.bytes
  generalize (lg_sl ([.ref sb, .int (nI k)]) ++ List.replicate (2 - (lg_sl ([.ref sb, .int (nI k)])).length) Slot.unset).toArray = ls at hl ⊢
  have hl : lv_has ls 2 [(0, .ref sb), (1, .int (nI k))] := hl
  refine lv_iload_n hx hb d_law_cell_0 rfl (lv_at hl 1 rfl) ?_
  refine lv_aload_n hx hb d_law_cell_1 rfl (lv_at hl 0 rfl) ?_
  refine nr_slen hx hb hX hbl hbA hS d_law_cell_2 ?_
  refine nr_icmp_ge (tgt := 12) hx hb d_law_cell_3 (by decide) hk hL (fun h => ?_) (fun h => ?_)
  · refine lv_iconst (v := nI 0) hx hb d_law_cell_12 (by decide) ?_
    exact rt_i E hP hD hS ⟨(if_neg (by omega)).symm, rfl⟩ d_law_cell_13
  · refine lv_aload_n hx hb d_law_cell_6 rfl (lv_at hl 0 rfl) ?_
    refine lv_iload_n hx hb d_law_cell_7 rfl (lv_at hl 1 rfl) ?_
    refine nr_sld hx hb hX hbl hbA hS (k := k) h hL d_law_cell_8 ?_
    refine lv_goto (tgt := 13) hx hb d_law_cell_9 (by decide) ?_
    exact rt_i E hP hD hS ⟨(if_pos h).symm, rfl⟩ d_law_cell_13
section CX
variable {p : Program} {l : Launch} {e : Env} {R : Room} {s : State} {m : MethodId} {args : Array Value} {below : List Frame} {meth : Method} {c : Code} {H : Heap} {locs : List Loc} {cells slots : Nat} {Q : State → Prop} {pc : Nat} {ls : Array Slot} {rest : List Value} {cc : ByteArray} {D : va_G} {ty : List (ClassId × FieldType)} {A : Nat → Prop} {nL : Nat} {own : String} {ret : Option FieldType} {mc ms : Nat}
theorem rn_SX {c0 : Cond} {y : MethodName} {bytes : ByteArray} {maxL n index sb L : Nat} {xs : Nat → Int32} {rt : Option FieldType} {rm : Room} {As st0 : List Value} {Qc : Array Value → State → Outcome → State → Prop} (E : En p s m args meth c cc nL (c0 :: Om) own ret A D ty) (f : MS y bytes maxL rt n) (hlink : Cond.methodLink own index y ∈ Om) (hM : Met l y (.code y bytes maxL rt :: Om) rm (cX D ty As H.size sb L xs) Qc mc ms (va_A [] H.size)) (hrm : rm.cells = mc ∧ rm.slots = ms ∧ rm.frames + 1 ≤ R.frames ∧ 8 + (maxL + 11) + rm.locals ≤ R.locals) (hX : va_X sb L xs s H) (hbl : sb < H.size)
    (hP : va_P D classes [] H) (hD : va_D A []) (hn : As.length = n) (hsize : ls.size = nL) (hstk : st0 = As.reverse ++ rest) (hW : (rest.map fun v => v.category).sum ≤ 8) (hf : cells + mc ≤ R.cells ∧ slots + ms ≤ R.slots) (hdg : decode cc pc = .ok (.invokestatic index, 3)) :
    va_Run p l e R s m args below meth c H locs cells slots mc ms (F0 m pc ls st0) rest (Qc As.toArray) (va_A [] H.size) := by
  obtain ⟨hx, hb, hml, hown, hts, hr, hlk, hA, hK, hN⟩ := E
  obtain ⟨f1, f2, f4, f5, f6, f7⟩ := f
  have ho : ∀ q ∈ Om, q.before args s = true := fun q h => hts q (List.mem_cons_of_mem _ h)
  exact va_runS ⟨hx, hb, hml, hown, hts⟩ hM ⟨callB_of n hts (om_step f1) rfl hrm.1 hrm.2.1 (ho _ f4) (ho _ hlink) ⟨f5, f6, f7⟩ hrm.2.2, ho _ f2⟩ ⟨cX_blind, fun U hU hW => ⟨cP_pre hP hK hD hN U hU hW, by rw [hU]; exact va_X.moved hW.alike hX, by rw [hU]; exact hbl⟩⟩ rfl hn hsize hstk (lv_room hW) hdg hf
end CX
/-! THE CLAIM OUT OF ONE WALK OF THE LAW'S BODY. Your part is whole_start (and what it stands on); all else here is the same for every law, but numbers. -/
def R_law : String := "TourFormsLaw"
def lw_P (b : Addr) (xs : List Int32) (args : Array Value) (s : State) : Prop := args = #[.ref b] ∧ s.IntsAt b xs ∧ xs.length ≤ 2050 ∧ (Jvm.Cond.and given_1 narrow_1).before args s = true
def lw_Q (_ : Array Value) (s : State) (o : Outcome) (t : State) : Prop := o = .returned (some (.int 1)) ∧ Framed s o t [] room_1.cells room_1.slots
def lw_Z (below : List Frame) (a : Array Value) (s : State) : State → Prop := fun t => ∃ o, t.status = .running ∧ Ended t below o ∧ lw_Q a s o t
/-- the law's own end, with 1 on the stack, nothing written that was there before, its room as the claim has it -/
theorem lw_ret {p : Program} {l : Launch} {e : Env} {s : State} {m : MethodId} {below : List Frame} {meth : Method} {c : Code} {b : Nat} (hx : p.tables.exec = Jvm.exec) (hb : c.code = code) (hr : meth.sig.returnType = ret) (hlocks : meth.locks = false) {pc : Nat} {H : Heap} {ls : Array Slot} (hdg : decode code pc = .ok (.ireturn, 1)) : W p l e room_1 s m #[Value.ref b] below meth c H [] room_1.cells room_1.slots (lw_Z below #[Value.ref b] s) (F0 m pc ls [.int 1]) := by
  intro T hT X
  obtain ⟨fs, hret, hrun, hended, hW, hframe⟩ := X.leave (v := some (.int 1)) (hlocks := hlocks) (fun h => by rw [hr] at h; cases h)
  have hmeth' : T.vm.method? m = some meth := X.method'
  refine ⟨T.setFrames fs, ?_, .returned (some (.int 1)), hrun, hended, rfl, ⟨_, rfl⟩, hW, hframe⟩
  jvm_step X.here [X.here.top, hx, hb, hdg, hmeth', hr, ret, narrow_b1]
  (try refine ⟨rfl, ?_⟩); (try refine ⟨rfl, ?_⟩)
  first | (intro acts; rw [hret _ acts rfl rfl rfl]) | rw [hret _ _ rfl rfl rfl]
  exact Steps.refl _
/-- what holds at the law's entry: the machine, the code, the tables' words (any of lw_tbl by 'hts w (by decide +kernel)'), the script of L ints xs at the cell b, what the Statement gives of the start (any of its parts by flat_of_before) -/
def lw_At (p : Program) (s : State) (m : MethodId) (meth : Method) (c : Code) (b L : Nat) (xs : Nat → Int32) : Prop :=
  p.tables.exec = Jvm.exec ∧ c.code = code ∧ meth.sig.returnType = ret ∧ c.maxLocals = 4 ∧ s.vm.findClass R_law = some m.cls ∧ (∀ w ∈ lw_tbl, w.before #[Value.ref b] s = true) ∧ va_X b L xs s s.heap ∧ b < s.heap.size ∧ meth.locks = false ∧ (Jvm.Cond.and given_1 narrow_1).before #[Value.ref b] s = true
set_option maxHeartbeats 4000000 in
set_option maxRecDepth 100000 in
theorem whole_start {p : Program} {e : Env} {s : State} {m : MethodId} {below : List Frame} {meth : Method} {c : Code} (l : Launch) {sb L : Nat} {xs : Nat → Int32} (hL : L ≤ 2050) (C0 : lw_At p s m meth c sb L xs) : W p l e room_1 s m #[Value.ref sb] below meth c s.heap [] 0 0 (lw_Z below #[Value.ref sb] s) (entryFrame m ([Value.ref sb] : List Value).toArray 4) := by
  obtain ⟨hx, hb, hr, hml, hown, hts9, hX, hbl, hlocks, hgv⟩ := id C0
  have hA : ∀ q : Nat, s.heap.size ≤ q → (A9 s) q := fun _ h => h
  have hbA : ¬ (A9 s) sb := Nat.not_le.mpr hbl
  have ho : ∀ q ∈ Om, q.before #[Value.ref sb] s = true := fun q h => hts9 q (List.mem_filter.mp h).1
  obtain ⟨g0, iS0, hKn0⟩ := u_known (C := R_BD) (T := F_BD) (N := 4) (n := 4) ho j_BD (ho _ kn_BD)
  obtain ⟨g1, iS1, hKn1⟩ := u_known (C := R_QS) (T := F_QS) (N := 5) (n := 5) ho j_QS (ho _ kn_QS)
  obtain ⟨g2, iS2, hKn2⟩ := u_known (C := R_RC) (T := F_RC) (N := 13) (n := 13) ho j_RC (ho _ kn_RC)
  obtain ⟨g3, iS3, hKn3⟩ := u_known (C := R_TS) (T := F_TS) (N := 10) (n := 10) ho j_TS (ho _ kn_TS)
  obtain ⟨g4, iS4, hKn4⟩ := u_known (C := R_TF) (T := F_TF) (N := 5) (n := 5) ho j_TF (ho _ kn_TF)
  obtain ⟨g5, iS5, hKn5⟩ := u_known (C := R_MD) (T := F_MD) (N := 18) (n := 18) ho j_MD (ho _ kn_MD)
  obtain ⟨D, hKc⟩ : ∃ D : va_G, ∀ (k : Nat) (q : vw_C), classes[k]? = some q → u_Kn s q.1 q.2.1 q.2.2 (D.1 k) (D.2 k) := by
    refine ⟨(fun k => if k = 0 then g0 else if k = 1 then g1 else if k = 2 then g2 else if k = 3 then g3 else if k = 4 then g4 else g5, fun k => if k = 0 then iS0 else if k = 1 then iS1 else if k = 2 then iS2 else if k = 3 then iS3 else if k = 4 then iS4 else iS5), ?_⟩
    intro k q hq
    match k, hq with
    | 0, hq => cases hq; exact hKn0
    | 1, hq => cases hq; exact hKn1
    | 2, hq => cases hq; exact hKn2
    | 3, hq => cases hq; exact hKn3
    | 4, hq => cases hq; exact hKn4
    | 5, hq => cases hq; exact hKn5
    | k + 6, hq => simp [classes] at hq
  obtain ⟨cI, hI1, hI2⟩ := arr_of (ho _ ka_int) (Or.inl rfl)
  obtain ⟨cL, hL1, hL2⟩ := arr_of (ho _ ka_long) (Or.inr (Or.inl rfl))
  obtain ⟨cZ, hZ1, hZ2⟩ := arr_of (ho _ ka_boolean) (Or.inr (Or.inr rfl))
  have hK : va_K D classes [(cI, .int), (cL, .long), (cZ, .boolean)] s := by
    refine ⟨hKc, fun k q h => ?_⟩
    match k, h with
    | 0, h => cases h; exact ⟨hI1, hI2⟩
    | 1, h => cases h; exact ⟨hL1, hL2⟩
    | 2, h => cases h; exact ⟨hZ1, hZ2⟩
    | k + 3, h => simp at h
  have hN : va_Nw NW s := va_Nw.of rfl (hts9 NW (by decide +kernel))
  have hts : ∀ q ∈ (Cond.initialized "TourFormsLaw" :: Om), q.before #[Value.ref sb] s = true := by
    intro q h
    rcases List.mem_cons.mp h with rfl | h
    · exact ho _ kz_law
    · exact ho _ h
  have E1 : En p s m #[Value.ref sb] meth c code 4 (Cond.initialized "TourFormsLaw" :: Om) "TourFormsLaw" (some .boolean) (A9 s) D [(cI, .int), (cL, .long)] := ⟨hx, hb, hml, hown, hts, hr, hlocks, hA, hK.sub [0, 1] rfl, hN⟩
  have E2 : En p s m #[Value.ref sb] meth c code 4 (Cond.initialized "TourFormsLaw" :: Om) "TourFormsLaw" (some .boolean) (A9 s) D [(cI, .int), (cZ, .boolean)] := ⟨hx, hb, hml, hown, hts, hr, hlocks, hA, hK.sub [0, 2] rfl, hN⟩
  have hS : va_S (A9 s) s.heap s.heap [] := va_S.rf
  have hP : va_P D classes [] s.heap := fun k q h => by simp at h
  have hD : va_D (A9 s) [] := ⟨fun i j p q h => by simp at h, fun k q h => by simp at h⟩
  obtain ⟨w, hw1, hw6, hx9, hx8⟩ := held_n (cv L xs 0)
  obtain ⟨h, hh1, hh6, hy9, hy8⟩ := held_n (cv L xs 1)
  have O : Oq w h := ⟨hw1, hw6, hh1, hh6⟩
  have hl := lv_entry ([.ref sb]) (n := 4) (Nat.le_of_ble_eq_true rfl)
  rw [lg_entry_eq]
  generalize (lg_sl ([.ref sb]) ++ List.replicate (4 - (lg_sl ([.ref sb])).length) Slot.unset).toArray = ls at hl ⊢
  have hl : lv_has ls 4 [(0, .ref sb)] := hl
  refine va_new (c0 := c) (C := R_TF) (T := F_TF) (N := 5) (ci := 4) (fs := [.null, .null, .null, .null, .int (nI 0)]) hx hb ho j_TF t_TF t_TF_ok hown (ho _ kc_law_7) (ho _ kn_TF) (ho _ kz_TF) hK hP hD hS hA rfl fs_TF (Nat.le_of_ble_eq_true rfl) (Nat.le_of_ble_eq_true rfl) d_law_0 (fun x0 H hP hD hS => ?_)
  have hP : va_P D classes [(x0, .inr (4, [.null, .null, .null, .null, .int (nI 0)]))] H := hP
  have hD : va_D (A9 s) [(x0, .inr (4, [.null, .null, .null, .null, .int (nI 0)]))] := hD
  refine lv_dup hx hb d_law_3 rfl ?_
  refine lv_aload_n hx hb d_law_4 rfl (lv_at hl 0 rfl) ?_
  refine lv_iconst (v := nI 0) hx hb d_law_5 (by decide) ?_
  refine af_i (wc := []) (wr := [(x0, .inr (4, [.null, .null, .null, .null, .int (nI 0)]))]) (rest := [.ref x0, .ref x0]) [] [0] hP hD hS hA rfl rfl (by decide) (by decide) (rn_SX E1 (As := [.ref sb, .int (nI 0)]) m_law_cell km_law_9 (c_law_cell l D [(cI, .int), (cL, .long)] sb L 0 xs (by decide) (by omega) _) ⟨rfl, rfl, Nat.le_of_ble_eq_true rfl, Nat.le_of_ble_eq_true rfl⟩ (va_X.kept hX (hS.2.1 sb hbl hbA)) (Nat.lt_of_lt_of_le hbl hS.1) (hP.sub [] rfl) (hD.sub [] (by decide) rfl) rfl hl.1 rfl (Nat.le_of_ble_eq_true rfl) ⟨Nat.le_of_ble_eq_true rfl, Nat.le_of_ble_eq_true rfl⟩ d_law_6) (fun r9 u9 H locs hw hP hD hS => ?_)
  obtain ⟨rfl, rfl⟩ := hw
  have hP : va_P D classes [(x0, .inr (4, [.null, .null, .null, .null, .int (nI 0)]))] H := hP
  have hD : va_D (A9 s) [(x0, .inr (4, [.null, .null, .null, .null, .int (nI 0)]))] := hD
  refine lv_aload_n hx hb d_law_9 rfl (lv_at hl 0 rfl) ?_
  refine lv_iconst (v := nI 1) hx hb d_law_10 (by decide) ?_
  refine af_i (wc := []) (wr := [(x0, .inr (4, [.null, .null, .null, .null, .int (nI 0)]))]) (rest := [.int (cv L xs 0), .ref x0, .ref x0]) [] [0] hP hD hS hA rfl rfl (by decide) (by decide) (rn_SX E1 (As := [.ref sb, .int (nI 1)]) m_law_cell km_law_9 (c_law_cell l D [(cI, .int), (cL, .long)] sb L 1 xs (by decide) (by omega) _) ⟨rfl, rfl, Nat.le_of_ble_eq_true rfl, Nat.le_of_ble_eq_true rfl⟩ (va_X.kept hX (hS.2.1 sb hbl hbA)) (Nat.lt_of_lt_of_le hbl hS.1) (hP.sub [] rfl) (hD.sub [] (by decide) rfl) rfl hl.1 rfl (Nat.le_of_ble_eq_true rfl) ⟨Nat.le_of_ble_eq_true rfl, Nat.le_of_ble_eq_true rfl⟩ d_law_11) (fun r9 u9 H locs hw hP hD hS => ?_)
  obtain ⟨rfl, rfl⟩ := hw
  have hP : va_P D classes [(x0, .inr (4, [.null, .null, .null, .null, .int (nI 0)]))] H := hP
  have hD : va_D (A9 s) [(x0, .inr (4, [.null, .null, .null, .null, .int (nI 0)]))] := hD
  refine af_v (wc := [(x0, .inr (4, [.null, .null, .null, .null, .int (nI 0)]))]) (wr := []) (rest := [.ref x0]) [0] [] hP hD hS hA rfl rfl (by decide) (by decide) (rn_I E1 (As := [.int (cv L xs 0), .int (cv L xs 1)]) m_TF_init km_law_15 (c_TF_init l D cI cL x0 (cv L xs 0) (cv L xs 1) w h hw6 hh6 hx9 hy9 _) ⟨rfl, rfl, Nat.le_of_ble_eq_true rfl, Nat.le_of_ble_eq_true rfl⟩ (hP.sub [0] rfl) (hD.sub [0] (by decide) rfl) rfl hl.1 rfl (Nat.le_of_ble_eq_true rfl) ⟨Nat.le_of_ble_eq_true rfl, Nat.le_of_ble_eq_true rfl⟩ d_law_14) (fun u9 H locs hw hP hD hS => ?_)
  obtain ⟨d0, s0, s1, s2, s3, s4, s5, q0, q1, r0, r1, r2, r3, r4, r5, r6, rfl⟩ := hw
  have hP : va_P D classes [(x0, .inr (4, [.ref d0, .ref s0, .ref q0, .ref r0, .int (nI 0)])), (d0, .inr (0, [.int (nI w), .int (nI h), .int (nI (w * h)), .long (lN (2 ^ (w * h) - 1))])), (s0, .inr (3, [.ref s1, .ref s2, .ref s3, .ref s4, .ref s5, .int (nI 0), .long (lN 0), .int (nI 0), .int (nI 0), .int (nI 0)])), (s1, .inl (cL, 108, .inr (.inl (lA (eT w h))))), (s2, .inl (cI, 36, .inl (nA (fun _ => 0)))), (s3, .inl (cI, 288, .inl (nA (fun _ => 0)))), (s4, .inl (cI, 36, .inl (nA (fun _ => 0)))), (s5, .inl (cI, 36, .inl (nA (fun _ => 0)))), (q0, .inr (1, [.int (nI w), .int (nI h), .ref q1, .long (lN 0), .int (nI 0)])), (q1, .inl (cI, 6, .inl (nA (fun _ => 0)))), (r0, .inr (2, [.int (nI (w * h)), .int (nI (max w h)), .int (nI (min w h)), .int (nI (2 * 2 ^ max w h - 2)), .ref r1, .ref r2, .ref r3, .ref r4, .ref r5, .ref r6, .long (lN (lz (fun _ => 0))), .long (lN (lz (fun _ => 0))), .int (nI 0)])), (r1, .inl (cI, 36, .inl (nA (fun _ => 0)))), (r2, .inl (cI, 36, .inl (nA (fun _ => 0)))), (r3, .inl (cI, 36, .inl (nA (fun _ => 0)))), (r4, .inl (cI, 36, .inl (nA (fun _ => 0)))), (r5, .inl (cI, 36, .inl (nA (e8 ((cR w h).1))))), (r6, .inl (cI, 36, .inl (nA (e8 ((cR w h).2)))))] H := hP
  have hD : va_D (A9 s) [(x0, .inr (4, [.ref d0, .ref s0, .ref q0, .ref r0, .int (nI 0)])), (d0, .inr (0, [.int (nI w), .int (nI h), .int (nI (w * h)), .long (lN (2 ^ (w * h) - 1))])), (s0, .inr (3, [.ref s1, .ref s2, .ref s3, .ref s4, .ref s5, .int (nI 0), .long (lN 0), .int (nI 0), .int (nI 0), .int (nI 0)])), (s1, .inl (cL, 108, .inr (.inl (lA (eT w h))))), (s2, .inl (cI, 36, .inl (nA (fun _ => 0)))), (s3, .inl (cI, 288, .inl (nA (fun _ => 0)))), (s4, .inl (cI, 36, .inl (nA (fun _ => 0)))), (s5, .inl (cI, 36, .inl (nA (fun _ => 0)))), (q0, .inr (1, [.int (nI w), .int (nI h), .ref q1, .long (lN 0), .int (nI 0)])), (q1, .inl (cI, 6, .inl (nA (fun _ => 0)))), (r0, .inr (2, [.int (nI (w * h)), .int (nI (max w h)), .int (nI (min w h)), .int (nI (2 * 2 ^ max w h - 2)), .ref r1, .ref r2, .ref r3, .ref r4, .ref r5, .ref r6, .long (lN (lz (fun _ => 0))), .long (lN (lz (fun _ => 0))), .int (nI 0)])), (r1, .inl (cI, 36, .inl (nA (fun _ => 0)))), (r2, .inl (cI, 36, .inl (nA (fun _ => 0)))), (r3, .inl (cI, 36, .inl (nA (fun _ => 0)))), (r4, .inl (cI, 36, .inl (nA (fun _ => 0)))), (r5, .inl (cI, 36, .inl (nA (e8 ((cR w h).1))))), (r6, .inl (cI, 36, .inl (nA (e8 ((cR w h).2)))))] := hD
  refine lv_astore_n (lv' := [(1, .ref x0), (0, .ref sb)]) hx hb d_law_17 rfl hl (by decide) rfl (fun ls hl => ?_)
  refine va_new (c0 := c) (C := R_MD) (T := F_MD) (N := 18) (ci := 5) (fs := [.int (nI 0), .int (nI 0), .int (nI 0), .int (nI 0), .null, .null, .null, .int (nI 0), .int (nI 0), .int (nI 0), .int (nI 0), .null, .null, .null, .null, .null, .null, .int (nI 0)]) hx hb ho j_MD t_MD t_MD_ok hown (ho _ kc_law_18) (ho _ kn_MD) (ho _ kz_MD) hK hP hD hS hA rfl fs_MD (Nat.le_of_ble_eq_true rfl) (Nat.le_of_ble_eq_true rfl) d_law_18 (fun a H hP hD hS => ?_)
  have hP : va_P D classes [(x0, .inr (4, [.ref d0, .ref s0, .ref q0, .ref r0, .int (nI 0)])), (d0, .inr (0, [.int (nI w), .int (nI h), .int (nI (w * h)), .long (lN (2 ^ (w * h) - 1))])), (s0, .inr (3, [.ref s1, .ref s2, .ref s3, .ref s4, .ref s5, .int (nI 0), .long (lN 0), .int (nI 0), .int (nI 0), .int (nI 0)])), (s1, .inl (cL, 108, .inr (.inl (lA (eT w h))))), (s2, .inl (cI, 36, .inl (nA (fun _ => 0)))), (s3, .inl (cI, 288, .inl (nA (fun _ => 0)))), (s4, .inl (cI, 36, .inl (nA (fun _ => 0)))), (s5, .inl (cI, 36, .inl (nA (fun _ => 0)))), (q0, .inr (1, [.int (nI w), .int (nI h), .ref q1, .long (lN 0), .int (nI 0)])), (q1, .inl (cI, 6, .inl (nA (fun _ => 0)))), (r0, .inr (2, [.int (nI (w * h)), .int (nI (max w h)), .int (nI (min w h)), .int (nI (2 * 2 ^ max w h - 2)), .ref r1, .ref r2, .ref r3, .ref r4, .ref r5, .ref r6, .long (lN (lz (fun _ => 0))), .long (lN (lz (fun _ => 0))), .int (nI 0)])), (r1, .inl (cI, 36, .inl (nA (fun _ => 0)))), (r2, .inl (cI, 36, .inl (nA (fun _ => 0)))), (r3, .inl (cI, 36, .inl (nA (fun _ => 0)))), (r4, .inl (cI, 36, .inl (nA (fun _ => 0)))), (r5, .inl (cI, 36, .inl (nA (e8 ((cR w h).1))))), (r6, .inl (cI, 36, .inl (nA (e8 ((cR w h).2))))), (a, .inr (5, [.int (nI 0), .int (nI 0), .int (nI 0), .int (nI 0), .null, .null, .null, .int (nI 0), .int (nI 0), .int (nI 0), .int (nI 0), .null, .null, .null, .null, .null, .null, .int (nI 0)]))] H := hP
  have hD : va_D (A9 s) [(x0, .inr (4, [.ref d0, .ref s0, .ref q0, .ref r0, .int (nI 0)])), (d0, .inr (0, [.int (nI w), .int (nI h), .int (nI (w * h)), .long (lN (2 ^ (w * h) - 1))])), (s0, .inr (3, [.ref s1, .ref s2, .ref s3, .ref s4, .ref s5, .int (nI 0), .long (lN 0), .int (nI 0), .int (nI 0), .int (nI 0)])), (s1, .inl (cL, 108, .inr (.inl (lA (eT w h))))), (s2, .inl (cI, 36, .inl (nA (fun _ => 0)))), (s3, .inl (cI, 288, .inl (nA (fun _ => 0)))), (s4, .inl (cI, 36, .inl (nA (fun _ => 0)))), (s5, .inl (cI, 36, .inl (nA (fun _ => 0)))), (q0, .inr (1, [.int (nI w), .int (nI h), .ref q1, .long (lN 0), .int (nI 0)])), (q1, .inl (cI, 6, .inl (nA (fun _ => 0)))), (r0, .inr (2, [.int (nI (w * h)), .int (nI (max w h)), .int (nI (min w h)), .int (nI (2 * 2 ^ max w h - 2)), .ref r1, .ref r2, .ref r3, .ref r4, .ref r5, .ref r6, .long (lN (lz (fun _ => 0))), .long (lN (lz (fun _ => 0))), .int (nI 0)])), (r1, .inl (cI, 36, .inl (nA (fun _ => 0)))), (r2, .inl (cI, 36, .inl (nA (fun _ => 0)))), (r3, .inl (cI, 36, .inl (nA (fun _ => 0)))), (r4, .inl (cI, 36, .inl (nA (fun _ => 0)))), (r5, .inl (cI, 36, .inl (nA (e8 ((cR w h).1))))), (r6, .inl (cI, 36, .inl (nA (e8 ((cR w h).2))))), (a, .inr (5, [.int (nI 0), .int (nI 0), .int (nI 0), .int (nI 0), .null, .null, .null, .int (nI 0), .int (nI 0), .int (nI 0), .int (nI 0), .null, .null, .null, .null, .null, .null, .int (nI 0)]))] := hD
  refine lv_dup hx hb d_law_21 rfl ?_
  refine lv_aload_n hx hb d_law_22 rfl (lv_at hl 1 rfl) ?_
  refine lv_iconst (v := nI 0) hx hb d_law_23 (by decide) ?_
  refine af_i (wc := []) (wr := [(x0, .inr (4, [.ref d0, .ref s0, .ref q0, .ref r0, .int (nI 0)])), (d0, .inr (0, [.int (nI w), .int (nI h), .int (nI (w * h)), .long (lN (2 ^ (w * h) - 1))])), (s0, .inr (3, [.ref s1, .ref s2, .ref s3, .ref s4, .ref s5, .int (nI 0), .long (lN 0), .int (nI 0), .int (nI 0), .int (nI 0)])), (s1, .inl (cL, 108, .inr (.inl (lA (eT w h))))), (s2, .inl (cI, 36, .inl (nA (fun _ => 0)))), (s3, .inl (cI, 288, .inl (nA (fun _ => 0)))), (s4, .inl (cI, 36, .inl (nA (fun _ => 0)))), (s5, .inl (cI, 36, .inl (nA (fun _ => 0)))), (q0, .inr (1, [.int (nI w), .int (nI h), .ref q1, .long (lN 0), .int (nI 0)])), (q1, .inl (cI, 6, .inl (nA (fun _ => 0)))), (r0, .inr (2, [.int (nI (w * h)), .int (nI (max w h)), .int (nI (min w h)), .int (nI (2 * 2 ^ max w h - 2)), .ref r1, .ref r2, .ref r3, .ref r4, .ref r5, .ref r6, .long (lN (lz (fun _ => 0))), .long (lN (lz (fun _ => 0))), .int (nI 0)])), (r1, .inl (cI, 36, .inl (nA (fun _ => 0)))), (r2, .inl (cI, 36, .inl (nA (fun _ => 0)))), (r3, .inl (cI, 36, .inl (nA (fun _ => 0)))), (r4, .inl (cI, 36, .inl (nA (fun _ => 0)))), (r5, .inl (cI, 36, .inl (nA (e8 ((cR w h).1))))), (r6, .inl (cI, 36, .inl (nA (e8 ((cR w h).2))))), (a, .inr (5, [.int (nI 0), .int (nI 0), .int (nI 0), .int (nI 0), .null, .null, .null, .int (nI 0), .int (nI 0), .int (nI 0), .int (nI 0), .null, .null, .null, .null, .null, .null, .int (nI 0)]))]) (rest := [.ref a, .ref a]) [] [0, 1, 2, 3, 4, 5, 6, 7, 8, 9, 10, 11, 12, 13, 14, 15, 16, 17] hP hD hS hA rfl rfl (by decide) (by decide) (rn_SX E1 (As := [.ref sb, .int (nI 0)]) m_law_cell km_law_9 (c_law_cell l D [(cI, .int), (cL, .long)] sb L 0 xs (by decide) (by omega) _) ⟨rfl, rfl, Nat.le_of_ble_eq_true rfl, Nat.le_of_ble_eq_true rfl⟩ (va_X.kept hX (hS.2.1 sb hbl hbA)) (Nat.lt_of_lt_of_le hbl hS.1) (hP.sub [] rfl) (hD.sub [] (by decide) rfl) rfl hl.1 rfl (Nat.le_of_ble_eq_true rfl) ⟨Nat.le_of_ble_eq_true rfl, Nat.le_of_ble_eq_true rfl⟩ d_law_24) (fun r9 u9 H locs hw hP hD hS => ?_)
  obtain ⟨rfl, rfl⟩ := hw
  have hP : va_P D classes [(x0, .inr (4, [.ref d0, .ref s0, .ref q0, .ref r0, .int (nI 0)])), (d0, .inr (0, [.int (nI w), .int (nI h), .int (nI (w * h)), .long (lN (2 ^ (w * h) - 1))])), (s0, .inr (3, [.ref s1, .ref s2, .ref s3, .ref s4, .ref s5, .int (nI 0), .long (lN 0), .int (nI 0), .int (nI 0), .int (nI 0)])), (s1, .inl (cL, 108, .inr (.inl (lA (eT w h))))), (s2, .inl (cI, 36, .inl (nA (fun _ => 0)))), (s3, .inl (cI, 288, .inl (nA (fun _ => 0)))), (s4, .inl (cI, 36, .inl (nA (fun _ => 0)))), (s5, .inl (cI, 36, .inl (nA (fun _ => 0)))), (q0, .inr (1, [.int (nI w), .int (nI h), .ref q1, .long (lN 0), .int (nI 0)])), (q1, .inl (cI, 6, .inl (nA (fun _ => 0)))), (r0, .inr (2, [.int (nI (w * h)), .int (nI (max w h)), .int (nI (min w h)), .int (nI (2 * 2 ^ max w h - 2)), .ref r1, .ref r2, .ref r3, .ref r4, .ref r5, .ref r6, .long (lN (lz (fun _ => 0))), .long (lN (lz (fun _ => 0))), .int (nI 0)])), (r1, .inl (cI, 36, .inl (nA (fun _ => 0)))), (r2, .inl (cI, 36, .inl (nA (fun _ => 0)))), (r3, .inl (cI, 36, .inl (nA (fun _ => 0)))), (r4, .inl (cI, 36, .inl (nA (fun _ => 0)))), (r5, .inl (cI, 36, .inl (nA (e8 ((cR w h).1))))), (r6, .inl (cI, 36, .inl (nA (e8 ((cR w h).2))))), (a, .inr (5, [.int (nI 0), .int (nI 0), .int (nI 0), .int (nI 0), .null, .null, .null, .int (nI 0), .int (nI 0), .int (nI 0), .int (nI 0), .null, .null, .null, .null, .null, .null, .int (nI 0)]))] H := hP
  have hD : va_D (A9 s) [(x0, .inr (4, [.ref d0, .ref s0, .ref q0, .ref r0, .int (nI 0)])), (d0, .inr (0, [.int (nI w), .int (nI h), .int (nI (w * h)), .long (lN (2 ^ (w * h) - 1))])), (s0, .inr (3, [.ref s1, .ref s2, .ref s3, .ref s4, .ref s5, .int (nI 0), .long (lN 0), .int (nI 0), .int (nI 0), .int (nI 0)])), (s1, .inl (cL, 108, .inr (.inl (lA (eT w h))))), (s2, .inl (cI, 36, .inl (nA (fun _ => 0)))), (s3, .inl (cI, 288, .inl (nA (fun _ => 0)))), (s4, .inl (cI, 36, .inl (nA (fun _ => 0)))), (s5, .inl (cI, 36, .inl (nA (fun _ => 0)))), (q0, .inr (1, [.int (nI w), .int (nI h), .ref q1, .long (lN 0), .int (nI 0)])), (q1, .inl (cI, 6, .inl (nA (fun _ => 0)))), (r0, .inr (2, [.int (nI (w * h)), .int (nI (max w h)), .int (nI (min w h)), .int (nI (2 * 2 ^ max w h - 2)), .ref r1, .ref r2, .ref r3, .ref r4, .ref r5, .ref r6, .long (lN (lz (fun _ => 0))), .long (lN (lz (fun _ => 0))), .int (nI 0)])), (r1, .inl (cI, 36, .inl (nA (fun _ => 0)))), (r2, .inl (cI, 36, .inl (nA (fun _ => 0)))), (r3, .inl (cI, 36, .inl (nA (fun _ => 0)))), (r4, .inl (cI, 36, .inl (nA (fun _ => 0)))), (r5, .inl (cI, 36, .inl (nA (e8 ((cR w h).1))))), (r6, .inl (cI, 36, .inl (nA (e8 ((cR w h).2))))), (a, .inr (5, [.int (nI 0), .int (nI 0), .int (nI 0), .int (nI 0), .null, .null, .null, .int (nI 0), .int (nI 0), .int (nI 0), .int (nI 0), .null, .null, .null, .null, .null, .null, .int (nI 0)]))] := hD
  refine lv_aload_n hx hb d_law_27 rfl (lv_at hl 1 rfl) ?_
  refine lv_iconst (v := nI 1) hx hb d_law_28 (by decide) ?_
  refine af_i (wc := []) (wr := [(x0, .inr (4, [.ref d0, .ref s0, .ref q0, .ref r0, .int (nI 0)])), (d0, .inr (0, [.int (nI w), .int (nI h), .int (nI (w * h)), .long (lN (2 ^ (w * h) - 1))])), (s0, .inr (3, [.ref s1, .ref s2, .ref s3, .ref s4, .ref s5, .int (nI 0), .long (lN 0), .int (nI 0), .int (nI 0), .int (nI 0)])), (s1, .inl (cL, 108, .inr (.inl (lA (eT w h))))), (s2, .inl (cI, 36, .inl (nA (fun _ => 0)))), (s3, .inl (cI, 288, .inl (nA (fun _ => 0)))), (s4, .inl (cI, 36, .inl (nA (fun _ => 0)))), (s5, .inl (cI, 36, .inl (nA (fun _ => 0)))), (q0, .inr (1, [.int (nI w), .int (nI h), .ref q1, .long (lN 0), .int (nI 0)])), (q1, .inl (cI, 6, .inl (nA (fun _ => 0)))), (r0, .inr (2, [.int (nI (w * h)), .int (nI (max w h)), .int (nI (min w h)), .int (nI (2 * 2 ^ max w h - 2)), .ref r1, .ref r2, .ref r3, .ref r4, .ref r5, .ref r6, .long (lN (lz (fun _ => 0))), .long (lN (lz (fun _ => 0))), .int (nI 0)])), (r1, .inl (cI, 36, .inl (nA (fun _ => 0)))), (r2, .inl (cI, 36, .inl (nA (fun _ => 0)))), (r3, .inl (cI, 36, .inl (nA (fun _ => 0)))), (r4, .inl (cI, 36, .inl (nA (fun _ => 0)))), (r5, .inl (cI, 36, .inl (nA (e8 ((cR w h).1))))), (r6, .inl (cI, 36, .inl (nA (e8 ((cR w h).2))))), (a, .inr (5, [.int (nI 0), .int (nI 0), .int (nI 0), .int (nI 0), .null, .null, .null, .int (nI 0), .int (nI 0), .int (nI 0), .int (nI 0), .null, .null, .null, .null, .null, .null, .int (nI 0)]))]) (rest := [.int (cv L xs 0), .ref a, .ref a]) [] [0, 1, 2, 3, 4, 5, 6, 7, 8, 9, 10, 11, 12, 13, 14, 15, 16, 17] hP hD hS hA rfl rfl (by decide) (by decide) (rn_SX E1 (As := [.ref sb, .int (nI 1)]) m_law_cell km_law_9 (c_law_cell l D [(cI, .int), (cL, .long)] sb L 1 xs (by decide) (by omega) _) ⟨rfl, rfl, Nat.le_of_ble_eq_true rfl, Nat.le_of_ble_eq_true rfl⟩ (va_X.kept hX (hS.2.1 sb hbl hbA)) (Nat.lt_of_lt_of_le hbl hS.1) (hP.sub [] rfl) (hD.sub [] (by decide) rfl) rfl hl.1 rfl (Nat.le_of_ble_eq_true rfl) ⟨Nat.le_of_ble_eq_true rfl, Nat.le_of_ble_eq_true rfl⟩ d_law_29) (fun r9 u9 H locs hw hP hD hS => ?_)
  obtain ⟨rfl, rfl⟩ := hw
  have hP : va_P D classes [(x0, .inr (4, [.ref d0, .ref s0, .ref q0, .ref r0, .int (nI 0)])), (d0, .inr (0, [.int (nI w), .int (nI h), .int (nI (w * h)), .long (lN (2 ^ (w * h) - 1))])), (s0, .inr (3, [.ref s1, .ref s2, .ref s3, .ref s4, .ref s5, .int (nI 0), .long (lN 0), .int (nI 0), .int (nI 0), .int (nI 0)])), (s1, .inl (cL, 108, .inr (.inl (lA (eT w h))))), (s2, .inl (cI, 36, .inl (nA (fun _ => 0)))), (s3, .inl (cI, 288, .inl (nA (fun _ => 0)))), (s4, .inl (cI, 36, .inl (nA (fun _ => 0)))), (s5, .inl (cI, 36, .inl (nA (fun _ => 0)))), (q0, .inr (1, [.int (nI w), .int (nI h), .ref q1, .long (lN 0), .int (nI 0)])), (q1, .inl (cI, 6, .inl (nA (fun _ => 0)))), (r0, .inr (2, [.int (nI (w * h)), .int (nI (max w h)), .int (nI (min w h)), .int (nI (2 * 2 ^ max w h - 2)), .ref r1, .ref r2, .ref r3, .ref r4, .ref r5, .ref r6, .long (lN (lz (fun _ => 0))), .long (lN (lz (fun _ => 0))), .int (nI 0)])), (r1, .inl (cI, 36, .inl (nA (fun _ => 0)))), (r2, .inl (cI, 36, .inl (nA (fun _ => 0)))), (r3, .inl (cI, 36, .inl (nA (fun _ => 0)))), (r4, .inl (cI, 36, .inl (nA (fun _ => 0)))), (r5, .inl (cI, 36, .inl (nA (e8 ((cR w h).1))))), (r6, .inl (cI, 36, .inl (nA (e8 ((cR w h).2))))), (a, .inr (5, [.int (nI 0), .int (nI 0), .int (nI 0), .int (nI 0), .null, .null, .null, .int (nI 0), .int (nI 0), .int (nI 0), .int (nI 0), .null, .null, .null, .null, .null, .null, .int (nI 0)]))] H := hP
  have hD : va_D (A9 s) [(x0, .inr (4, [.ref d0, .ref s0, .ref q0, .ref r0, .int (nI 0)])), (d0, .inr (0, [.int (nI w), .int (nI h), .int (nI (w * h)), .long (lN (2 ^ (w * h) - 1))])), (s0, .inr (3, [.ref s1, .ref s2, .ref s3, .ref s4, .ref s5, .int (nI 0), .long (lN 0), .int (nI 0), .int (nI 0), .int (nI 0)])), (s1, .inl (cL, 108, .inr (.inl (lA (eT w h))))), (s2, .inl (cI, 36, .inl (nA (fun _ => 0)))), (s3, .inl (cI, 288, .inl (nA (fun _ => 0)))), (s4, .inl (cI, 36, .inl (nA (fun _ => 0)))), (s5, .inl (cI, 36, .inl (nA (fun _ => 0)))), (q0, .inr (1, [.int (nI w), .int (nI h), .ref q1, .long (lN 0), .int (nI 0)])), (q1, .inl (cI, 6, .inl (nA (fun _ => 0)))), (r0, .inr (2, [.int (nI (w * h)), .int (nI (max w h)), .int (nI (min w h)), .int (nI (2 * 2 ^ max w h - 2)), .ref r1, .ref r2, .ref r3, .ref r4, .ref r5, .ref r6, .long (lN (lz (fun _ => 0))), .long (lN (lz (fun _ => 0))), .int (nI 0)])), (r1, .inl (cI, 36, .inl (nA (fun _ => 0)))), (r2, .inl (cI, 36, .inl (nA (fun _ => 0)))), (r3, .inl (cI, 36, .inl (nA (fun _ => 0)))), (r4, .inl (cI, 36, .inl (nA (fun _ => 0)))), (r5, .inl (cI, 36, .inl (nA (e8 ((cR w h).1))))), (r6, .inl (cI, 36, .inl (nA (e8 ((cR w h).2))))), (a, .inr (5, [.int (nI 0), .int (nI 0), .int (nI 0), .int (nI 0), .null, .null, .null, .int (nI 0), .int (nI 0), .int (nI 0), .int (nI 0), .null, .null, .null, .null, .null, .null, .int (nI 0)]))] := hD
  refine af_v (wc := [(a, .inr (5, [.int (nI 0), .int (nI 0), .int (nI 0), .int (nI 0), .null, .null, .null, .int (nI 0), .int (nI 0), .int (nI 0), .int (nI 0), .null, .null, .null, .null, .null, .null, .int (nI 0)]))]) (wr := [(x0, .inr (4, [.ref d0, .ref s0, .ref q0, .ref r0, .int (nI 0)])), (d0, .inr (0, [.int (nI w), .int (nI h), .int (nI (w * h)), .long (lN (2 ^ (w * h) - 1))])), (s0, .inr (3, [.ref s1, .ref s2, .ref s3, .ref s4, .ref s5, .int (nI 0), .long (lN 0), .int (nI 0), .int (nI 0), .int (nI 0)])), (s1, .inl (cL, 108, .inr (.inl (lA (eT w h))))), (s2, .inl (cI, 36, .inl (nA (fun _ => 0)))), (s3, .inl (cI, 288, .inl (nA (fun _ => 0)))), (s4, .inl (cI, 36, .inl (nA (fun _ => 0)))), (s5, .inl (cI, 36, .inl (nA (fun _ => 0)))), (q0, .inr (1, [.int (nI w), .int (nI h), .ref q1, .long (lN 0), .int (nI 0)])), (q1, .inl (cI, 6, .inl (nA (fun _ => 0)))), (r0, .inr (2, [.int (nI (w * h)), .int (nI (max w h)), .int (nI (min w h)), .int (nI (2 * 2 ^ max w h - 2)), .ref r1, .ref r2, .ref r3, .ref r4, .ref r5, .ref r6, .long (lN (lz (fun _ => 0))), .long (lN (lz (fun _ => 0))), .int (nI 0)])), (r1, .inl (cI, 36, .inl (nA (fun _ => 0)))), (r2, .inl (cI, 36, .inl (nA (fun _ => 0)))), (r3, .inl (cI, 36, .inl (nA (fun _ => 0)))), (r4, .inl (cI, 36, .inl (nA (fun _ => 0)))), (r5, .inl (cI, 36, .inl (nA (e8 ((cR w h).1))))), (r6, .inl (cI, 36, .inl (nA (e8 ((cR w h).2)))))]) (rest := [.ref a]) [17] [0, 1, 2, 3, 4, 5, 6, 7, 8, 9, 10, 11, 12, 13, 14, 15, 16] hP hD hS hA rfl rfl (by decide) (by decide) (rn_I E2 (As := [.int (cv L xs 0), .int (cv L xs 1)]) m_MD_init km_law_20 (c_MD_init l D cI cZ a (cv L xs 0) (cv L xs 1) w h hw6 hh6 hx8 hy8 _) ⟨rfl, rfl, Nat.le_of_ble_eq_true rfl, Nat.le_of_ble_eq_true rfl⟩ (hP.sub [17] rfl) (hD.sub [17] (by decide) rfl) rfl hl.1 rfl (Nat.le_of_ble_eq_true rfl) ⟨Nat.le_of_ble_eq_true rfl, Nat.le_of_ble_eq_true rfl⟩ d_law_32) (fun u9 H locs hw hP hD hS => ?_)
  obtain ⟨b1, b2, b3, b4, b5, b6, b7, b8, b9, rfl⟩ := hw
  have hP : va_P D classes [(x0, .inr (4, [.ref d0, .ref s0, .ref q0, .ref r0, .int (nI 0)])), (d0, .inr (0, [.int (nI w), .int (nI h), .int (nI (w * h)), .long (lN (2 ^ (w * h) - 1))])), (s0, .inr (3, [.ref s1, .ref s2, .ref s3, .ref s4, .ref s5, .int (nI 0), .long (lN 0), .int (nI 0), .int (nI 0), .int (nI 0)])), (s1, .inl (cL, 108, .inr (.inl (lA (eT w h))))), (s2, .inl (cI, 36, .inl (nA (fun _ => 0)))), (s3, .inl (cI, 288, .inl (nA (fun _ => 0)))), (s4, .inl (cI, 36, .inl (nA (fun _ => 0)))), (s5, .inl (cI, 36, .inl (nA (fun _ => 0)))), (q0, .inr (1, [.int (nI w), .int (nI h), .ref q1, .long (lN 0), .int (nI 0)])), (q1, .inl (cI, 6, .inl (nA (fun _ => 0)))), (r0, .inr (2, [.int (nI (w * h)), .int (nI (max w h)), .int (nI (min w h)), .int (nI (2 * 2 ^ max w h - 2)), .ref r1, .ref r2, .ref r3, .ref r4, .ref r5, .ref r6, .long (lN (lz (fun _ => 0))), .long (lN (lz (fun _ => 0))), .int (nI 0)])), (r1, .inl (cI, 36, .inl (nA (fun _ => 0)))), (r2, .inl (cI, 36, .inl (nA (fun _ => 0)))), (r3, .inl (cI, 36, .inl (nA (fun _ => 0)))), (r4, .inl (cI, 36, .inl (nA (fun _ => 0)))), (r5, .inl (cI, 36, .inl (nA (e8 ((cR w h).1))))), (r6, .inl (cI, 36, .inl (nA (e8 ((cR w h).2))))), (a, .inr (5, [.int (nI w), .int (nI h), .int (nI (w * h)), .int (nI (max w h)), .ref b1, .ref b2, .ref b3, .int (nI 0), .int (nI 0), .int (nI 0), .int (nI 0), .ref b4, .ref b5, .ref b6, .ref b7, .ref b8, .ref b9, .int (nI 0)])), (b1, .inl (cZ, 36, .inl (nA (fun _ => 0)))), (b2, .inl (cZ, 36, .inl (nA (fun _ => 0)))), (b3, .inl (cI, 36, .inl (nA (fun _ => 0)))), (b4, .inl (cI, 6, .inl (mA (fun _ => 1)))), (b5, .inl (cI, 6, .inl (mA (fun _ => 1)))), (b6, .inl (cI, 36, .inl (nA (fun _ => 0)))), (b7, .inl (cI, 36, .inl (nA (fun _ => 0)))), (b8, .inl (cI, 36, .inl (nA (fun _ => 0)))), (b9, .inl (cI, 36, .inl (nA (fun _ => 0))))] H := hP
  have hD : va_D (A9 s) [(x0, .inr (4, [.ref d0, .ref s0, .ref q0, .ref r0, .int (nI 0)])), (d0, .inr (0, [.int (nI w), .int (nI h), .int (nI (w * h)), .long (lN (2 ^ (w * h) - 1))])), (s0, .inr (3, [.ref s1, .ref s2, .ref s3, .ref s4, .ref s5, .int (nI 0), .long (lN 0), .int (nI 0), .int (nI 0), .int (nI 0)])), (s1, .inl (cL, 108, .inr (.inl (lA (eT w h))))), (s2, .inl (cI, 36, .inl (nA (fun _ => 0)))), (s3, .inl (cI, 288, .inl (nA (fun _ => 0)))), (s4, .inl (cI, 36, .inl (nA (fun _ => 0)))), (s5, .inl (cI, 36, .inl (nA (fun _ => 0)))), (q0, .inr (1, [.int (nI w), .int (nI h), .ref q1, .long (lN 0), .int (nI 0)])), (q1, .inl (cI, 6, .inl (nA (fun _ => 0)))), (r0, .inr (2, [.int (nI (w * h)), .int (nI (max w h)), .int (nI (min w h)), .int (nI (2 * 2 ^ max w h - 2)), .ref r1, .ref r2, .ref r3, .ref r4, .ref r5, .ref r6, .long (lN (lz (fun _ => 0))), .long (lN (lz (fun _ => 0))), .int (nI 0)])), (r1, .inl (cI, 36, .inl (nA (fun _ => 0)))), (r2, .inl (cI, 36, .inl (nA (fun _ => 0)))), (r3, .inl (cI, 36, .inl (nA (fun _ => 0)))), (r4, .inl (cI, 36, .inl (nA (fun _ => 0)))), (r5, .inl (cI, 36, .inl (nA (e8 ((cR w h).1))))), (r6, .inl (cI, 36, .inl (nA (e8 ((cR w h).2))))), (a, .inr (5, [.int (nI w), .int (nI h), .int (nI (w * h)), .int (nI (max w h)), .ref b1, .ref b2, .ref b3, .int (nI 0), .int (nI 0), .int (nI 0), .int (nI 0), .ref b4, .ref b5, .ref b6, .ref b7, .ref b8, .ref b9, .int (nI 0)])), (b1, .inl (cZ, 36, .inl (nA (fun _ => 0)))), (b2, .inl (cZ, 36, .inl (nA (fun _ => 0)))), (b3, .inl (cI, 36, .inl (nA (fun _ => 0)))), (b4, .inl (cI, 6, .inl (mA (fun _ => 1)))), (b5, .inl (cI, 6, .inl (mA (fun _ => 1)))), (b6, .inl (cI, 36, .inl (nA (fun _ => 0)))), (b7, .inl (cI, 36, .inl (nA (fun _ => 0)))), (b8, .inl (cI, 36, .inl (nA (fun _ => 0)))), (b9, .inl (cI, 36, .inl (nA (fun _ => 0))))] := hD
  refine lv_astore_n (lv' := [(2, .ref a), (1, .ref x0), (0, .ref sb)]) hx hb d_law_35 rfl hl (by decide) rfl (fun ls hl => ?_)
  refine lv_iconst (v := nI 2) hx hb d_law_36 (by decide) ?_
  refine lv_istore_n (lv' := [(3, .int (nI 2)), (2, .ref a), (1, .ref x0), (0, .ref sb)]) hx hb d_law_37 rfl hl (by decide) rfl (fun ls hl => ?_)
  refine L_law (w := w) (h := h) E1 E2 hX hbl hbA (by omega) ?_ (L + 1) 2 (2 ^ (w * h) - 1) 0 0 0 0 0 0 0 0 0 (fun _ => 0) (fun _ => 0) (fun _ => 0) (fun _ => 0) (fun _ => 0) (fun _ => 0) (fun _ => 0) (fun _ => 0) (fun _ => 0) (fun _ => 0) (fun _ => 0) (fun _ => 0) (fun _ => 0) 0 0 0 0 0 (fun _ => 0) (fun _ => 0) (fun _ => 0) (fun _ => 1) (fun _ => 1) (fun _ => 0) (fun _ => 0) (fun _ => 0) (fun _ => 0) (by omega) (by omega) (by decide) (rel_init O) _ _ hP hD hS ls (lv_sub hl [3, 2, 1, 0] rfl)
  intro H locs hS ls
  refine lv_iconst (v := 1) hx hb d_law_547 (by decide) ?_
  refine va_forget (fun q hq => hS.2.2 q hq) ?_
  refine W.widen (k := room_1.cells) (n := room_1.slots) (Nat.le_of_ble_eq_true rfl) (Nat.le_of_ble_eq_true rfl) ?_
  exact lw_ret hx hb hr hlocks d_law_548
set_option maxHeartbeats 4000000 in
theorem lw_walk (l : Launch) (b : Addr) (xs : List Int32) : MetFree l x (headSpec (Jvm.Cond.code x code maxLocals ret :: tables_1) room_1) (lw_P b xs) (fun _ _ _ _ _ => True) lw_Q := by
  refine MetFree.of_bodyS (code := code) (maxLocals := maxLocals) (ret := ret) (by decide) ?_ ?_
  · intro args s m h hn
    obtain ⟨meth, c, h1, h2, h3, h4, h5, h6, -, -⟩ := Cond.code_spec hn (atoms_spec (ws := Jvm.Cond.code x code maxLocals ret :: tables_1) h _ List.mem_cons_self)
    exact ⟨meth, c, h1, h2, h3, h4, h5, h6⟩
  · intro p e s m args below meth c s₁ B hml0 hP _
    obtain ⟨rfl, hx, hbd, hgv⟩ := hP
    obtain ⟨scr, harrAt, hlist, hof, hsmall⟩ := hx
    obtain ⟨hcb, hkn, -, -⟩ := State.arrayAt?_spec harrAt
    have hown : s.vm.findClass R_law = some m.cls := findClass_of_methodNamed B.named
    have hts0 : ∀ c ∈ (Jvm.Cond.code x code maxLocals ret :: tables_1), c.before #[Value.ref b] s = true := atoms_spec (ws := Jvm.Cond.code x code maxLocals ret :: tables_1) B.pre
    have hts : ∀ w ∈ lw_tbl, w.before #[Value.ref b] s = true := k2_hts_sels lw_privs (fun w hw => hts0 w (List.mem_cons_of_mem _ hw)) lw_privs_ok
    have hml : c.maxLocals = 4 := B.maxLocals_eq (hts0 _ List.mem_cons_self)
    have X₀ : Stand p l e room_1 s m #[Value.ref b] below meth c s₁ [] 0 0 := Stand.of_body B
    have hh0 : s₁.heap = s.heap := by rw [B.state]; rfl
    have hsz : scr.slots.size = xs.length := by rw [← Array.length_toList, hlist, List.length_map]
    have hval : ∀ j : Nat, j < xs.length → scr.slots[j]? = some (.int (xs.getD j 0)) := fun j hj => by
      rw [← Array.getElem?_toList, hlist]
      simp [hj]
    have hbl : b < s.heap.size := (Array.getElem?_eq_some_iff.mp hcb).1
    have hX : va_X b xs.length (fun j => xs.getD j 0) s s.heap := ⟨scr, hcb, hof, hkn, hsz, hval⟩
    have K : W p l e room_1 s m #[Value.ref b] below meth c s₁.heap [] 0 0 (lw_Z below #[Value.ref b] s) (entryFrame m ([Value.ref b] : List Value).toArray 4) := by
      rw [hh0]
      exact whole_start l hbd ⟨B.exec, B.bytes, B.returns, hml, hown, hts, hX, hbl, B.notSynchronized, hgv⟩
    obtain ⟨t, a1, o, b1, b2, b3⟩ := K s₁ rfl X₀
    exact ⟨t, o, a1, b1, b2, b3⟩
theorem lw_pre_spec {args : Array Value} {s : State} (h : (Jvm.Cond.and given_1 narrow_1).before args s = true) (hr : rest_1_c.before args s = true) : ∃ (b : Addr) (xs : List Int32), lw_P b xs args s := by
  have hs := flat_of_before _ h
  have hq := flat_of_before _ hr
  have hc : (Cond.count 1).before args s = true := hs _ (by decide +kernel)
  have harr : (Cond.arrayOf (.arg 0) .int).before args s = true := hs _ (by decide +kernel)
  have hle : (Cond.le (.length (.arg 0)) (.int 2050)).before args s = true := hs _ (by decide +kernel)
  have hlen : (Cond.isInt (.length (.arg 0))).before args s = true := hq _ (by decide +kernel)
  have hall : (Cond.all (.arg 0) (.isInt (.elem (.arg 0) (.index 0)))).before args s = true := hq _ (by decide +kernel)
  obtain ⟨b, xs, hb, hx⟩ := State.ints_of_pre rfl harr hlen hall
  have hsm : xs.length < 2 ^ 31 := hx.choose_spec.2.2.2
  have hev : (Term.length (.arg 0)).eval args s none [] s = some (.int xs.length.toInt32) := hx.length_eval hb
  have hv := Cond.le_ints hev (show (Term.int 2050).eval args s none [] s = some (.int 2050) from rfl)
  have hd : xs.length.toInt32 ≤ 2050 := by
    simpa [Cond.before, Cond.holds, hv] using hle
  have hN : xs.length ≤ 2050 := (Int32.ofNat_le_ofNat hsm (by decide)).mp (show Int32.ofNat xs.length ≤ Int32.ofNat 2050 from hd)
  exact ⟨b, xs, Cond.one_arg hc (show args[0]? = some (.ref b) from hb), hx, hN, h⟩
theorem lw_comes (l : Launch) : Comes l x (Jvm.Cond.code x code maxLocals ret :: tables_1) room_1 (fun tb e args s => Calls_1 tb e args s ∧ rest_1 tb e args s ∧ Pre_1 tb e args s)
    (fun _ _ args s o t => lw_Q args s o t) := by
  intro p e ha hc hk s m args below hf hfit hheap happ hpre
  obtain ⟨b, xs, hP⟩ := lw_pre_spec hpre.2.2 hpre.2.1
  obtain ⟨k, o, h1, h2, h3, hQ⟩ := lw_walk l b xs p e ha hc hk s m args below hf ((Spec.applies_iff_loose hf).mp happ).1 hP trivial
  exact ⟨k, o, h1, h2, h3, hQ⟩
theorem lw_frame {s t : State} {o : Outcome} {args : Array Value} (h : Framed s o t [] room_1.cells room_1.slots) :
    Framed s o t (fieldLocs frame_1_writes args s ++ arrayLocs frame_1_arrays args s ++ staticLocs frame_1_statics s) room_1.cells room_1.slots := h
theorem lw_limb (L : Cond) (hL : ∀ (args : Array Value) (s t : State), L.after args s (.returned (some (.int 1))) t = true) :
    ArmFor flags0 classFile x code maxLocals ret World_1 tables_1 room_1 Calls_1 rest_1 Pre_1
      (fun tb e a s o t => postC L tb e a s o t ∧ Framed s o t (fieldLocs frame_1_writes a s ++ arrayLocs frame_1_arrays a s ++ staticLocs frame_1_statics s) room_1.cells room_1.slots) := by
  intro l _ _ _ p e ha hc hk s m args below hf hfit hheap happ hpre
  obtain ⟨k, o, h1, h2, h3, rfl, hF⟩ := lw_comes l p e ha hc hk s m args below hf hfit hheap happ hpre
  exact ⟨k, _, h1, h2, h3, hL args s _, lw_frame hF⟩
theorem i_vc : Claimed_1_1 ∧ Claimed_1_2 := ⟨lw_limb limb_1_1 (fun args s t => by simp [limb_1_1, Cond.after, Cond.holds, Cond.value]), lw_limb limb_1_2 (fun args s t => Cond.after_iff.mpr (by
  first | (rw [show limb_1_2 = Cond.eq .result (.int 1) from rfl, Cond.eq_ints (x := 1) (y := 1) rfl rfl]; simp; done) | (simp [limb_1_2, Cond.value, Term.eval]; done)))⟩
