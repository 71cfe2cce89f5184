/-! one form of contract for every method, its entry, its ends, and one row a call; Om: the words that all methods share -/
theorem om_good : ∀ w ∈ Om, (w.onTables && w.keeps) = true ∨ ∃ ty, w = .arrayClass ty := fun w h => good_of_word (List.mem_filter.mp h).2
/-- the one link between nest mates -/
abbrev NW : Cond := .methodLinkNest "TourForms$TourSearch" 46 ⟨"TourForms", "isPiece", "(I)Z"⟩ "TourForms"
theorem om_step {c0 c1 : Cond} (h : c1 ∈ Om) : GoodIn (c0 :: Om) (c1 :: Om) := by
  intro w hw
  rcases List.mem_cons.mp hw with rfl | h2
  · exact ⟨List.mem_cons_of_mem _ h, om_good _ h⟩
  · exact ⟨List.mem_cons_of_mem _ h2, om_good _ h2⟩
def cP (D : va_G) (ws : va_W) (ty : List (ClassId × FieldType)) (av : List Value) (sz : Nat) : Array Value → State → Prop := va_Pc av (fun U => U.heap.size = sz ∧ va_P D classes ws U.heap ∧ va_K D classes ty U ∧ va_D (fun _ => True) ws ∧ va_Nw NW U)
def cB (D : va_G) (ty : List (ClassId × FieldType)) (A : Nat → Prop) : va_W → State → Prop := fun u t => va_P D classes u t.heap ∧ va_K D classes ty t ∧ va_D A u
abbrev qI (D : va_G) (ty : List (ClassId × FieldType)) (post : Int32 → va_W → Prop) (A : Nat → Prop) : Array Value → State → Outcome → State → Prop := va_Qi post (cB D ty A) A
abbrev qL (D : va_G) (ty : List (ClassId × FieldType)) (post : Int64 → va_W → Prop) (A : Nat → Prop) : Array Value → State → Outcome → State → Prop := va_Ql post (cB D ty A) A
abbrev qV (D : va_G) (ty : List (ClassId × FieldType)) (post : va_W → Prop) (A : Nat → Prop) : Array Value → State → Outcome → State → Prop := va_Qv post (cB D ty A) A
abbrev CI (l : Launch) (y : MethodName) (w : List Cond) (rm : Room) (D : va_G) (ws : va_W) (ty : List (ClassId × FieldType)) (av : List Value) (post : Int32 → va_W → Prop) : Prop := ∀ sz, Met l y w rm (cP D ws ty av sz) (qI D ty post (va_A ws sz)) 0 0 (va_A ws sz)
abbrev CL (l : Launch) (y : MethodName) (w : List Cond) (rm : Room) (D : va_G) (ws : va_W) (ty : List (ClassId × FieldType)) (av : List Value) (post : Int64 → va_W → Prop) : Prop := ∀ sz, Met l y w rm (cP D ws ty av sz) (qL D ty post (va_A ws sz)) 0 0 (va_A ws sz)
abbrev CV (l : Launch) (y : MethodName) (w : List Cond) (rm : Room) (D : va_G) (ws : va_W) (ty : List (ClassId × FieldType)) (av : List Value) (post : va_W → Prop) : Prop := ∀ sz, Met l y w rm (cP D ws ty av sz) (qV D ty post (va_A ws sz)) 0 0 (va_A ws sz)
/-- what holds all through a method -/
def En (p : Program) (s : State) (m : MethodId) (args : Array Value) (meth : Method) (c : Code) (cc : ByteArray) (nL : Nat) (w : List Cond) (own : String) (ret : Option FieldType) (A : Nat → Prop) (D : va_G) (ty : List (ClassId × FieldType)) : Prop :=
  p.tables.exec = Jvm.exec ∧ c.code = cc ∧ c.maxLocals = nL ∧ s.vm.findClass own = some m.cls ∧ (∀ q ∈ w, q.before args s = true) ∧ meth.sig.returnType = ret ∧ meth.locks = false ∧ (∀ q : Nat, s.heap.size ≤ q → A q) ∧ va_K D classes ty s ∧ va_Nw NW s
theorem en_of {l : Launch} {y : MethodName} {w w' : List Cond} {rm : Room} {cc : ByteArray} {maxL : Nat} {ret : Option FieldType} {D : va_G} {ws : va_W} {ty : List (ClassId × FieldType)} {av : List Value} {mc ms : Nat} {Qc : (Nat → Prop) → Array Value → State → Outcome → State → Prop}
    (hy : plainName y.cls = true) (hw : w = .code y cc maxL ret :: w') (hlen : (lg_sl av).length ≤ maxL)
    (body : ∀ (p : Program) (e : Env) (s : State) (m : MethodId) (below : List Frame) (meth : Method) (c : Code) (A : Nat → Prop), En p s m av.toArray meth c cc maxL w y.cls ret A D ty → meth.name = y.name → va_P D classes ws s.heap → va_D A ws → va_S A s.heap s.heap [] → ∀ ls : Array Slot, lv_has ls maxL (lv_args 0 av) →
      W p l e rm s m av.toArray below meth c s.heap [] 0 0 (MQ below (Qc A) av.toArray s mc ms A) (F0 m 0 ls [])) (sz : Nat) :
    Met l y w rm (cP D ws ty av sz) (Qc (va_A ws sz)) mc ms (va_A ws sz) := by
  refine Met.ofW (cc := cc) (maxL := maxL) (ret := ret) hy hw ?_
  intro p e s m args below meth c s₁ B hml hv
  obtain ⟨rfl, hsz, hP, hK, hD0, hN⟩ := hv
  subst hsz
  have hts := atoms_spec (ws := w) B.pre
  have hown : s.vm.findClass y.cls = some m.cls := findClass_of_methodNamed B.named
  have hD := hD0.self (sz := s.heap.size)
  have hl := lv_entry av (n := maxL) hlen
  rw [lg_entry_eq]
  exact body p e s m below meth c (va_A ws s.heap.size) ⟨B.exec, B.bytes, hml, hown, hts, B.returns, B.notSynchronized, fun q h => Or.inr h, hK, hN⟩ (name_of_methodNamed B.named B.method).1 hP hD va_S.rf _ hl
/-- a method that the words know: its code, and that it can be called on its own type -/
def MV (y : MethodName) (bytes : ByteArray) (maxL : Nat) (rt : Option FieldType) (n : Nat) : Prop := Cond.code y bytes maxL rt ∈ Om ∧ Cond.instanceMethod y ∈ Om ∧ Cond.selects y.cls y y ∈ Om ∧ Cond.initialized y.cls ∈ Om ∧ y.cls ≠ "java/lang/invoke/MethodHandle" ∧ y.cls ≠ "java/lang/invoke/VarHandle" ∧ (parseMethodDescriptor y.desc).map (fun d => d.parameters.length) = some n
def MS (y : MethodName) (bytes : ByteArray) (maxL : Nat) (rt : Option FieldType) (n : Nat) : Prop := Cond.code y bytes maxL rt ∈ Om ∧ Cond.static y ∈ Om ∧ Cond.initialized y.cls ∈ Om ∧ y.cls ≠ "java/lang/invoke/MethodHandle" ∧ y.cls ≠ "java/lang/invoke/VarHandle" ∧ (parseMethodDescriptor y.desc).map (fun d => d.parameters.length) = some n
def MI (y : MethodName) (bytes : ByteArray) (maxL : Nat) (n : Nat) : Prop := Cond.code y bytes maxL none ∈ Om ∧ Cond.instanceMethod y ∈ Om ∧ y.name = "<init>" ∧ Cond.initialized y.cls ∈ Om ∧ y.cls ≠ "java/lang/invoke/MethodHandle" ∧ y.cls ≠ "java/lang/invoke/VarHandle" ∧ (parseMethodDescriptor y.desc).map (fun d => d.parameters.length) = some n
theorem cP_blind {D : va_G} {ws : va_W} {ty : List (ClassId × FieldType)} {av : List Value} {sz : Nat} : FrameBlind (cP D ws ty av sz) := by
  intro a U g mk q
  obtain ⟨q0, q1, qP, qK, qD, qN⟩ := q
  exact ⟨q0, q1, qP, va_K.moved (u := U) (U := U.calling g mk a) (Vm.Alike.refl U.vm) qK, qD, va_Nw.same (u := U) (U := U.calling g mk a) rfl rfl qN⟩
theorem cP_pre {s : State} {H : Heap} {D : va_G} {ws : va_W} {ty : List (ClassId × FieldType)} {av : List Value} {A : Nat → Prop} (hP : va_P D classes ws H) (hK : va_K D classes ty s) (hD : va_D A ws) (hN : va_Nw NW s) : ∀ U : State, U.heap = H → s.WarmedH U.vm → cP D ws ty av H.size av.toArray U :=
  fun U hU hW => ⟨rfl, by rw [hU], by rw [hU]; exact hP, va_K.moved hW.alike hK, hD.weaken (fun _ _ _ _ => trivial), va_Nw.warmM hW hN⟩
section CR
variable {p : Program} {l : Launch} {e : Env} {R : Room} {s : State} {m : MethodId} {args : Array Value} {below : List Frame} {meth : Method} {c : Code} {H : Heap} {locs : List Loc} {cells slots : Nat} {Q : State → Prop} {pc : Nat} {ls : Array Slot} {rest : List Value} {cc : ByteArray} {D : va_G} {ty : List (ClassId × FieldType)} {ws wc wr : va_W} {A : Nat → Prop} {nL : Nat} {w : List Cond} {own : String} {ret : Option FieldType} {mc ms : Nat}
theorem rt_i {post : Int32 → va_W → Prop} (E : En p s m args meth c cc nL w own (some .int) A D ty) (hP : va_P D classes ws H) (hD : va_D A ws) (hS : va_S A s.heap H locs) {v : Int32} (hpost : post v ws) (hd : decode cc pc = .ok (.ireturn, 1)) : W p l e R s m args below meth c H locs cells slots (MQ below (qI D ty post A) args s cells slots A) (F0 m pc ls [.int v]) := by
  obtain ⟨hx, hb, hml, hown, hts, hr, hlk, hA, hK, hN⟩ := E
  exact W.iret hx hb hr (fun t ht hW => ⟨⟨v, ws, rfl, hpost, by rw [ht]; exact hP, va_K.moved hW.alike hK, hD⟩, hS.F ht⟩) hS.2.2 hd hlk
theorem rt_z {post : Int32 → va_W → Prop} (E : En p s m args meth c cc nL w own (some .boolean) A D ty) (hP : va_P D classes ws H) (hD : va_D A ws) (hS : va_S A s.heap H locs) {v : Int32} (hv : v = 0 ∨ v = 1) (hpost : post v ws) (hd : decode cc pc = .ok (.ireturn, 1)) : W p l e R s m args below meth c H locs cells slots (MQ below (qI D ty post A) args s cells slots A) (F0 m pc ls [.int v]) := by
  obtain ⟨hx, hb, hml, hown, hts, hr, hlk, hA, hK, hN⟩ := E
  exact W.zret hx hb hr (by rcases hv with rfl | rfl <;> decide) (fun t ht hW => ⟨⟨v, ws, rfl, hpost, by rw [ht]; exact hP, va_K.moved hW.alike hK, hD⟩, hS.F ht⟩) hS.2.2 hd hlk
theorem rt_l {post : Int64 → va_W → Prop} (E : En p s m args meth c cc nL w own (some .long) A D ty) (hP : va_P D classes ws H) (hD : va_D A ws) (hS : va_S A s.heap H locs) {v : Int64} (hpost : post v ws) (hd : decode cc pc = .ok (.lreturn, 1)) : W p l e R s m args below meth c H locs cells slots (MQ below (qL D ty post A) args s cells slots A) (F0 m pc ls [.long v]) := by
  obtain ⟨hx, hb, hml, hown, hts, hr, hlk, hA, hK, hN⟩ := E
  exact W.lret hx hb hr (fun t ht hW => ⟨⟨v, ws, rfl, hpost, by rw [ht]; exact hP, va_K.moved hW.alike hK, hD⟩, hS.F ht⟩) hS.2.2 hd hlk
theorem rt_v {post : va_W → Prop} (E : En p s m args meth c cc nL w own none A D ty) (hP : va_P D classes ws H) (hD : va_D A ws) (hS : va_S A s.heap H locs) (hpost : post ws) (hd : decode cc pc = .ok (.return_, 1)) : W p l e R s m args below meth c H locs cells slots (MQ below (qV D ty post A) args s cells slots A) (F0 m pc ls []) := by
  obtain ⟨hx, hb, hml, hown, hts, hr, hlk, hA, hK, hN⟩ := E
  exact W.vret hx hb hr (fun t ht hW => ⟨⟨ws, rfl, hpost, by rw [ht]; exact hP, va_K.moved hW.alike hK, hD⟩, hS.F ht⟩) hS.2.2 hd hlk
/-- behind a call: the other cells first, then what came back -/
theorem af_i {post : Int32 → va_W → Prop} {a : Array Value} {st0 : List Value} (isC isR : List Nat) (hP : va_P D classes ws H) (hD : va_D A ws) (hS : va_S A s.heap H locs) (hA : ∀ q : Nat, s.heap.size ≤ q → A q) (hC : isC.map (fun i => ws[i]?) = wc.map some) (hR : isR.map (fun i => ws[i]?) = wr.map some) (hn : va_nd isR = true) (hdis : ∀ i ∈ isR, i ∉ isC)
    (hr : va_Run p l e R s m args below meth c H locs cells slots 0 0 (F0 m pc ls st0) rest (qI D ty post (va_A wc H.size) a) (va_A wc H.size))
    (kk : ∀ (r : Int32) (u : va_W) (H1 : Heap) (locs1 : List Loc), post r u → va_P D classes (wr ++ u) H1 → va_D A (wr ++ u) → va_S A s.heap H1 locs1 → W p l e R s m args below meth c H1 locs1 cells slots Q (F0 m (pc + 3) ls (.int r :: rest))) : W p l e R s m args below meth c H locs cells slots Q (F0 m pc ls st0) := by
  have hFc := va_free hD hS hA isC hC
  refine va_calli hr hS (fun q _ h => hFc q h) hFc (fun r u t H1 locs1 ht hvm hw hB hz1 hk1 hS1 => ?_)
  obtain ⟨hP1, hK1, hD1⟩ := hB
  rw [ht] at hP1
  obtain ⟨hP2, hD2⟩ := va_join hP hD isC isR hC hR hn hdis hk1 hFc hP1 hD1
  exact kk r u H1 locs1 hw hP2 hD2 hS1
theorem af_l {post : Int64 → va_W → Prop} {a : Array Value} {st0 : List Value} (isC isR : List Nat) (hP : va_P D classes ws H) (hD : va_D A ws) (hS : va_S A s.heap H locs) (hA : ∀ q : Nat, s.heap.size ≤ q → A q) (hC : isC.map (fun i => ws[i]?) = wc.map some) (hR : isR.map (fun i => ws[i]?) = wr.map some) (hn : va_nd isR = true) (hdis : ∀ i ∈ isR, i ∉ isC)
    (hr : va_Run p l e R s m args below meth c H locs cells slots 0 0 (F0 m pc ls st0) rest (qL D ty post (va_A wc H.size) a) (va_A wc H.size))
    (kk : ∀ (r : Int64) (u : va_W) (H1 : Heap) (locs1 : List Loc), post r u → va_P D classes (wr ++ u) H1 → va_D A (wr ++ u) → va_S A s.heap H1 locs1 → W p l e R s m args below meth c H1 locs1 cells slots Q (F0 m (pc + 3) ls (.long r :: rest))) : W p l e R s m args below meth c H locs cells slots Q (F0 m pc ls st0) := by
  have hFc := va_free hD hS hA isC hC
  refine va_calll hr hS (fun q _ h => hFc q h) hFc (fun r u t H1 locs1 ht hvm hw hB hz1 hk1 hS1 => ?_)
  obtain ⟨hP1, hK1, hD1⟩ := hB
  rw [ht] at hP1
  obtain ⟨hP2, hD2⟩ := va_join hP hD isC isR hC hR hn hdis hk1 hFc hP1 hD1
  exact kk r u H1 locs1 hw hP2 hD2 hS1
theorem af_v {post : va_W → Prop} {a : Array Value} {st0 : List Value} (isC isR : List Nat) (hP : va_P D classes ws H) (hD : va_D A ws) (hS : va_S A s.heap H locs) (hA : ∀ q : Nat, s.heap.size ≤ q → A q) (hC : isC.map (fun i => ws[i]?) = wc.map some) (hR : isR.map (fun i => ws[i]?) = wr.map some) (hn : va_nd isR = true) (hdis : ∀ i ∈ isR, i ∉ isC)
    (hr : va_Run p l e R s m args below meth c H locs cells slots mc ms (F0 m pc ls st0) rest (qV D ty post (va_A wc H.size) a) (va_A wc H.size))
    (kk : ∀ (u : va_W) (H1 : Heap) (locs1 : List Loc), post u → va_P D classes (wr ++ u) H1 → va_D A (wr ++ u) → va_S A s.heap H1 locs1 → W p l e R s m args below meth c H1 locs1 (cells + mc) (slots + ms) Q (F0 m (pc + 3) ls rest)) : W p l e R s m args below meth c H locs cells slots Q (F0 m pc ls st0) := by
  have hFc := va_free hD hS hA isC hC
  refine va_callv hr hS (fun q _ h => hFc q h) hFc (fun u t H1 locs1 ht hvm hw hB hz1 hk1 hS1 => ?_)
  obtain ⟨hP1, hK1, hD1⟩ := hB
  rw [ht] at hP1
  obtain ⟨hP2, hD2⟩ := va_join hP hD isC isR hC hR hn hdis hk1 hFc hP1 hD1
  exact kk u H1 locs1 hw hP2 hD2 hS1
variable {c0 : Cond} {y : MethodName} {bytes : ByteArray} {maxL n index : Nat} {rt : Option FieldType} {rm : Room} {b : Addr} {As : List Value} {Qc : Array Value → State → Outcome → State → Prop} {st0 : List Value} {host : String} {ci q0 : Nat} {fs : List Value} {T : u_T} {N : Nat}
theorem rn_V (E : En p s m args meth c cc nL (c0 :: Om) own ret A D ty) (f : MV y bytes maxL rt n) (hlink : Cond.methodLink own index y ∈ Om) (hM : Met l y (.code y bytes maxL rt :: Om) rm (cP D wc ty (.ref b :: As) H.size) Qc mc ms (va_A wc H.size)) (hrm : rm.cells = mc ∧ rm.slots = ms ∧ rm.frames + 1 ≤ R.frames ∧ 8 + (maxL + 11) + rm.locals ≤ R.locals)
    (hP : va_P D classes wc H) (hD : va_D A wc) (he : wc[q0]? = some (b, .inr (ci, fs))) (hci : classes[ci]? = some (y.cls, T, N)) (hn : As.length = n) (hsize : ls.size = nL) (hstk : st0 = As.reverse ++ .ref b :: rest) (hW : (rest.map fun v => v.category).sum ≤ 8) (hf : cells + mc ≤ R.cells ∧ slots + ms ≤ R.slots) (hdg : decode cc pc = .ok (.invokevirtual index, 3)) :
    va_Run p l e R s m args below meth c H locs cells slots mc ms (F0 m pc ls st0) rest (Qc (Value.ref b :: As).toArray) (va_A wc H.size) := by
  obtain ⟨hx, hb, hml, hown, hts, hr, hlk, hA, hK, hN⟩ := E
  obtain ⟨f1, f2, f3, f4, f5, f6, f7⟩ := f
  have ho : ∀ q ∈ Om, q.before args s = true := fun q h => hts q (List.mem_cons_of_mem _ h)
  exact va_runV ⟨hx, hb, hml, hown, hts⟩ hM ⟨callB_of n hts (om_step f1) rfl hrm.1 hrm.2.1 (ho _ f4) (ho _ hlink) ⟨f5, f6, f7⟩ hrm.2.2, ho _ f2, ho _ f3⟩ ⟨cP_blind, va_recv hK hP hci he, cP_pre hP hK hD hN⟩ rfl hn hsize hstk (lv_room hW) hdg hf
theorem rn_VN (E : En p s m args meth c cc nL (c0 :: Om) own ret A D ty) (f : MV y bytes maxL rt n) (hlink : va_Nw (Cond.methodLinkNest own index y host) s) (hM : Met l y (.code y bytes maxL rt :: Om) rm (cP D wc ty (.ref b :: As) H.size) Qc mc ms (va_A wc H.size)) (hrm : rm.cells = mc ∧ rm.slots = ms ∧ rm.frames + 1 ≤ R.frames ∧ 8 + (maxL + 11) + rm.locals ≤ R.locals)
    (hP : va_P D classes wc H) (hD : va_D A wc) (he : wc[q0]? = some (b, .inr (ci, fs))) (hci : classes[ci]? = some (y.cls, T, N)) (hn : As.length = n) (hsize : ls.size = nL) (hstk : st0 = As.reverse ++ .ref b :: rest) (hW : (rest.map fun v => v.category).sum ≤ 8) (hf : cells + mc ≤ R.cells ∧ slots + ms ≤ R.slots) (hdg : decode cc pc = .ok (.invokevirtual index, 3)) :
    va_Run p l e R s m args below meth c H locs cells slots mc ms (F0 m pc ls st0) rest (Qc (Value.ref b :: As).toArray) (va_A wc H.size) := by
  obtain ⟨hx, hb, hml, hown, hts, hr, hlk, hA, hK, hN⟩ := E
  obtain ⟨f1, f2, f3, f4, f5, f6, f7⟩ := f
  have ho : ∀ q ∈ Om, q.before args s = true := fun q h => hts q (List.mem_cons_of_mem _ h)
  exact va_runVN ⟨hx, hb, hml, hown, hts⟩ hM ⟨va_cnB n hts (om_step f1) rfl hrm.1 hrm.2.1 hlink (ho _ f4) ⟨f5, f6, f7⟩ hrm.2.2, ho _ f2, ho _ f3⟩ ⟨cP_blind, va_recv hK hP hci he, cP_pre hP hK hD hN⟩ rfl hn hsize hstk (lv_room hW) hdg hf
theorem rn_S (E : En p s m args meth c cc nL (c0 :: Om) own ret A D ty) (f : MS y bytes maxL rt n) (hlink : Cond.methodLink own index y ∈ Om) (hM : Met l y (.code y bytes maxL rt :: Om) rm (cP D wc ty As H.size) Qc mc ms (va_A wc H.size)) (hrm : rm.cells = mc ∧ rm.slots = ms ∧ rm.frames + 1 ≤ R.frames ∧ 8 + (maxL + 11) + rm.locals ≤ R.locals)
    (hP : va_P D classes wc H) (hD : va_D A wc) (hn : As.length = n) (hsize : ls.size = nL) (hstk : st0 = As.reverse ++ rest) (hW : (rest.map fun v => v.category).sum ≤ 8) (hf : cells + mc ≤ R.cells ∧ slots + ms ≤ R.slots) (hdg : decode cc pc = .ok (.invokestatic index, 3)) :
    va_Run p l e R s m args below meth c H locs cells slots mc ms (F0 m pc ls st0) rest (Qc As.toArray) (va_A wc H.size) := by
  obtain ⟨hx, hb, hml, hown, hts, hr, hlk, hA, hK, hN⟩ := E
  obtain ⟨f1, f2, f4, f5, f6, f7⟩ := f
  have ho : ∀ q ∈ Om, q.before args s = true := fun q h => hts q (List.mem_cons_of_mem _ h)
  exact va_runS ⟨hx, hb, hml, hown, hts⟩ hM ⟨callB_of n hts (om_step f1) rfl hrm.1 hrm.2.1 (ho _ f4) (ho _ hlink) ⟨f5, f6, f7⟩ hrm.2.2, ho _ f2⟩ ⟨cP_blind, cP_pre hP hK hD hN⟩ rfl hn hsize hstk (lv_room hW) hdg hf
theorem rn_SN (E : En p s m args meth c cc nL (c0 :: Om) own ret A D ty) (f : MS y bytes maxL rt n) (hlink : va_Nw (Cond.methodLinkNest own index y host) s) (hM : Met l y (.code y bytes maxL rt :: Om) rm (cP D wc ty As H.size) Qc mc ms (va_A wc H.size)) (hrm : rm.cells = mc ∧ rm.slots = ms ∧ rm.frames + 1 ≤ R.frames ∧ 8 + (maxL + 11) + rm.locals ≤ R.locals)
    (hP : va_P D classes wc H) (hD : va_D A wc) (hn : As.length = n) (hsize : ls.size = nL) (hstk : st0 = As.reverse ++ rest) (hW : (rest.map fun v => v.category).sum ≤ 8) (hf : cells + mc ≤ R.cells ∧ slots + ms ≤ R.slots) (hdg : decode cc pc = .ok (.invokestatic index, 3)) :
    va_Run p l e R s m args below meth c H locs cells slots mc ms (F0 m pc ls st0) rest (Qc As.toArray) (va_A wc H.size) := by
  obtain ⟨hx, hb, hml, hown, hts, hr, hlk, hA, hK, hN⟩ := E
  obtain ⟨f1, f2, f4, f5, f6, f7⟩ := f
  have ho : ∀ q ∈ Om, q.before args s = true := fun q h => hts q (List.mem_cons_of_mem _ h)
  exact va_runSN ⟨hx, hb, hml, hown, hts⟩ hM ⟨va_cnB n hts (om_step f1) rfl hrm.1 hrm.2.1 hlink (ho _ f4) ⟨f5, f6, f7⟩ hrm.2.2, ho _ f2, trivial⟩ ⟨cP_blind, cP_pre hP hK hD hN⟩ rfl hn hsize hstk (lv_room hW) hdg hf
theorem rn_I (E : En p s m args meth c cc nL (c0 :: Om) own ret A D ty) (f : MI y bytes maxL n) (hlink : Cond.methodLink own index y ∈ Om) (hM : Met l y (.code y bytes maxL none :: Om) rm (cP D wc ty (.ref b :: As) H.size) Qc mc ms (va_A wc H.size)) (hrm : rm.cells = mc ∧ rm.slots = ms ∧ rm.frames + 1 ≤ R.frames ∧ 8 + (maxL + 11) + rm.locals ≤ R.locals)
    (hP : va_P D classes wc H) (hD : va_D A wc) (hn : As.length = n) (hsize : ls.size = nL) (hstk : st0 = As.reverse ++ .ref b :: rest) (hW : (rest.map fun v => v.category).sum ≤ 8) (hf : cells + mc ≤ R.cells ∧ slots + ms ≤ R.slots) (hdg : decode cc pc = .ok (.invokespecial index, 3)) :
    va_Run p l e R s m args below meth c H locs cells slots mc ms (F0 m pc ls st0) rest (Qc (Value.ref b :: As).toArray) (va_A wc H.size) := by
  obtain ⟨hx, hb, hml, hown, hts, hr, hlk, hA, hK, hN⟩ := E
  obtain ⟨f1, f2, f3, f4, f5, f6, f7⟩ := f
  have ho : ∀ q ∈ Om, q.before args s = true := fun q h => hts q (List.mem_cons_of_mem _ h)
  exact va_runI ⟨hx, hb, hml, hown, hts⟩ hM ⟨callB_of n hts (om_step f1) rfl hrm.1 hrm.2.1 (ho _ f4) (ho _ hlink) ⟨f5, f6, f7⟩ hrm.2.2, f3, ho _ f2⟩ ⟨cP_blind, cP_pre hP hK hD hN⟩ rfl hn hsize hstk (lv_room hW) hdg hf
end CR
