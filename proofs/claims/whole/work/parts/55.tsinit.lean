/-! TourSearch: the table of reaches, the constructor -/
abbrev qR (D : va_G) (ty : List (ClassId × FieldType)) (post : va_W → Prop) (A : Nat → Prop) : Array Value → State → Outcome → State → Prop := va_Qr post (fun u ra t => cB D ty A u t ∧ ∃ v, u = [(ra, v)]) A
abbrev CRm (l : Launch) (y : MethodName) (w : List Cond) (rm : Room) (D : va_G) (ws : va_W) (ty : List (ClassId × FieldType)) (av : List Value) (mc ms : Nat) (post : va_W → Prop) : Prop := ∀ sz, Met l y w rm (cP D ws ty av sz) (qR D ty post (va_A ws sz)) mc ms (va_A ws sz)
section RF0
variable {p : Program} {l : Launch} {e : Env} {R : Room} {s : State} {m : MethodId} {args : Array Value} {below : List Frame} {meth : Method} {c : Code} {H : Heap} {locs : List Loc} {cells slots : Nat} {Q : State → Prop} {pc : Nat} {ls : Array Slot} {rest : List Value} {cc : ByteArray} {D : va_G} {ty : List (ClassId × FieldType)} {ws wc wr : va_W} {A : Nat → Prop} {nL : Nat} {w : List Cond} {own : String} {ret : Option FieldType} {mc ms : Nat}
theorem rt_r {post : va_W → Prop} {t0 : FieldType} {ra : Nat} {v : va_E} (E : En p s m args meth c cc nL w own (some (.array t0)) A D ty) (hP : va_P D classes [(ra, v)] H) (hD : va_D A [(ra, v)]) (hS : va_S A s.heap H locs) (hpost : post [(ra, v)]) (hd : decode cc pc = .ok (.areturn, 1)) : W p l e R s m args below meth c H locs cells slots (MQ below (qR D ty post A) args s cells slots A) (F0 m pc ls [.ref ra]) := by
  obtain ⟨hx, hb, hml, hown, hts, hr, hlk, hA, hK, hN⟩ := E
  exact W.aret hx hb hr (Or.inr ⟨t0, rfl⟩) (Or.inr ⟨ra, rfl⟩) (fun t ht hW => ⟨⟨[(ra, v)], ra, rfl, hpost, ⟨by rw [ht]; exact hP, va_K.moved hW.alike hK, hD⟩, v, rfl⟩, hS.F ht⟩) hS.2.2 hd hlk
theorem af_r {post : va_W → Prop} {a : Array Value} {st0 : List Value} (isC isR : List Nat) (hP : va_P D classes ws H) (hD : va_D A ws) (hS : va_S A s.heap H locs) (hA : ∀ q : Nat, s.heap.size ≤ q → A q) (hC : isC.map (fun i => ws[i]?) = wc.map some) (hR : isR.map (fun i => ws[i]?) = wr.map some) (hn : va_nd isR = true) (hdis : ∀ i ∈ isR, i ∉ isC)
    (hr : va_Run p l e R s m args below meth c H locs cells slots mc ms (F0 m pc ls st0) rest (qR D ty post (va_A wc H.size) a) (va_A wc H.size))
    (kk : ∀ (ra : Nat) (v : va_E) (H1 : Heap) (locs1 : List Loc), post [(ra, v)] → va_P D classes (wr ++ [(ra, v)]) H1 → va_D A (wr ++ [(ra, v)]) → va_S A s.heap H1 locs1 → W p l e R s m args below meth c H1 locs1 (cells + mc) (slots + ms) Q (F0 m (pc + 3) ls (.ref ra :: rest))) : W p l e R s m args below meth c H locs cells slots Q (F0 m pc ls st0) := by
  have hFc := va_free hD hS hA isC hC
  refine va_callr hr hS (fun q _ h => hFc q h) hFc (fun u ra t H1 locs1 ht hvm hw hB hz1 hk1 hS1 => ?_)
  obtain ⟨⟨hP1, hK1, hD1⟩, v, rfl⟩ := hB
  rw [ht] at hP1
  obtain ⟨hP2, hD2⟩ := va_join hP hD isC isR hC hR hn hdis hk1 hFc hP1 hD1
  exact kk ra v H1 locs1 hw hP2 hD2 hS1
end RF0
def eP (w h x y : Nat) : Nat → Nat → (Nat → Nat) → Nat → Nat
  | 0, _, re => re
  | m + 1, p, re => if p < 3 then eP w h x y m (p + 1) (va_up re (p * 36 + x + w * y) (rF w h p x y)) else re
def eX (w h y : Nat) : Nat → Nat → (Nat → Nat) → Nat → Nat
  | 0, _, re => re
  | m + 1, x, re => if x < w then eX w h y m (x + 1) (eP w h x y 4 0 re) else re
def eY (w h : Nat) : Nat → Nat → (Nat → Nat) → Nat → Nat
  | 0, _, re => re
  | m + 1, y, re => if y < h then eY w h m (y + 1) (eX w h y 7 0 re) else re
/-- the table of reaches -/
def eT (w h : Nat) : Nat → Nat := eY w h 7 0 (fun _ => 0)
set_option maxHeartbeats 1000000 in
set_option maxRecDepth 100000 in
theorem L_TS_ep {p : Program} {l : Launch} {e : Env} {s : State} {m : MethodId} {args : Array Value} {below : List Frame} {meth : Method} {c : Code} {A : Nat → Prop} {D : va_G} {cI cL : ClassId} {c0 : Cond} {Q : State → Prop} (q w h : Nat) (hw6 : w ≤ 6) (hh6 : h ≤ 6) (x y : Nat) (hx9 : x < w) (hy9 : y < h) (E : En p s m args meth c b_TS_reachesOn 7 (c0 :: Om) R_TS (some (.array .long)) A D [(cI, .int), (cL, .long)]) : ∀ (m1 : Nat) (p1 : Nat) (re : Nat → Nat), p1 ≤ 3 → 3 < p1 + m1 → (∀ (H : Heap) (locs : List Loc), va_P D classes [(q, .inl (cL, 108, .inr (.inl (lA (eP w h x y m1 p1 re)))))] H → va_D A [(q, .inl (cL, 108, .inr (.inl (lA (eP w h x y m1 p1 re)))))] → va_S A s.heap H locs → ∀ ls : Array Slot, lv_has ls 7 [(0, .int (nI w)), (1, .int (nI h)), (2, .ref q), (3, .int (nI y)), (4, .int (nI x))] → W p l e { frames := 2, cells := 1, slots := 108, locals := 68 } s m args below meth c H locs 1 108 Q (F0 m 89 ls [])) → ∀ (H : Heap) (locs : List Loc), va_P D classes [(q, .inl (cL, 108, .inr (.inl (lA re))))] H → va_D A [(q, .inl (cL, 108, .inr (.inl (lA re))))] → va_S A s.heap H locs → ∀ ls : Array Slot, lv_has ls 7 [(0, .int (nI w)), (1, .int (nI h)), (2, .ref q), (3, .int (nI y)), (4, .int (nI x)), (5, .int (nI p1))] → W p l e { frames := 2, cells := 1, slots := 108, locals := 68 } s m args below meth c H locs 1 108 Q (F0 m 37 ls []) := by
  obtain ⟨hx, hb, hml, hown, hts, hr, hlk, hA, hK, hN⟩ := id E
  have ho : ∀ q ∈ Om, q.before _ s = true := fun q h => hts q (List.mem_cons_of_mem _ h)
  intro m1
  induction m1 with
  | zero =>
    intro p1 re h1 h2 hq
    exact absurd h2 (by omega)
  | succ m1 ih =>
    intro p1 re h1 h2 hq H locs hP hD hS ls hl
    refine lv_iload hx hb d_TS_reachesOn_37 (lv_at hl 5 rfl) ?_
    refine lv_iconst (v := nI 3) hx hb d_TS_reachesOn_39 (by decide) ?_
    refine nr_icmp_ge (tgt := 89) hx hb d_TS_reachesOn_40 (by decide) (by omega) (by omega) (fun h_1 => ?_) (fun h_1 => ?_)
    · rw [eP, if_neg (by omega)] at hq
      exact hq _ _ hP hD hS ls (lv_sub hl [0, 1, 2, 3, 4] rfl)
    · have hce := ce_lt hx9 hy9 hw6 hh6
      refine lv_iload hx hb d_TS_reachesOn_43 (lv_at hl 5 rfl) ?_
      refine lv_bipush (v := nI 36) hx hb d_TS_reachesOn_45 (by decide) ?_
      refine nr_imul hx hb d_TS_reachesOn_47 ?_
      refine lv_iload hx hb d_TS_reachesOn_48 (lv_at hl 4 rfl) ?_
      refine nr_iadd hx hb d_TS_reachesOn_50 ?_
      refine lv_iload_n hx hb d_TS_reachesOn_51 rfl (lv_at hl 0 rfl) ?_
      refine lv_iload_n hx hb d_TS_reachesOn_52 rfl (lv_at hl 3 rfl) ?_
      refine nr_imul hx hb d_TS_reachesOn_53 ?_
      refine nr_iadd hx hb d_TS_reachesOn_54 ?_
      refine lv_istore (lv' := [(6, .int (nI (((p1 * 36) + x) + (w * y)))), (0, .int (nI w)), (1, .int (nI h)), (2, .ref q), (3, .int (nI y)), (4, .int (nI x)), (5, .int (nI p1))]) hx hb d_TS_reachesOn_55 hl (by decide) rfl (fun ls hl => ?_)
      refine lv_iload hx hb d_TS_reachesOn_57 (lv_at hl 0 rfl) ?_
      refine nr_if_lt (tgt := 83) hx hb d_TS_reachesOn_59 (by decide) (by omega) ?_
      refine lv_iload hx hb d_TS_reachesOn_62 (lv_at hl 0 rfl) ?_
      refine lv_aload_n hx hb d_TS_reachesOn_64 rfl (lv_at hl 3 rfl) ?_
      refine va_alen (v := nI 108) hx hb hK hP 0 1 rfl rfl rfl d_TS_reachesOn_65 ?_
      refine nr_icmp_ge (tgt := 83) hx hb d_TS_reachesOn_66 (by decide) (by omega) (by omega) (fun h9 => absurd h9 (by omega)) (fun _ => ?_)
      refine lv_aload_n hx hb d_TS_reachesOn_69 rfl (lv_at hl 3 rfl) ?_
      refine lv_iload hx hb d_TS_reachesOn_70 (lv_at hl 0 rfl) ?_
      refine lv_iload hx hb d_TS_reachesOn_72 (lv_at hl 6 rfl) ?_
      refine lv_iload hx hb d_TS_reachesOn_74 (lv_at hl 5 rfl) ?_
      refine lv_iload_n hx hb d_TS_reachesOn_76 rfl (lv_at hl 4 rfl) ?_
      refine lv_iload_n hx hb d_TS_reachesOn_77 rfl (lv_at hl 1 rfl) ?_
      refine lv_iload_n hx hb d_TS_reachesOn_78 rfl (lv_at hl 2 rfl) ?_
      refine af_l (wc := []) (wr := [(q, .inl (cL, 108, .inr (.inl (lA re))))]) (rest := [.int (nI (((p1 * 36) + x) + (w * y))), .ref q]) [] [0] hP hD hS hA rfl rfl (by decide) (by decide) (rn_S E (As := [.int (nI p1), .int (nI x), .int (nI y), .int (nI w), .int (nI h)]) m_TS_reachFrom km_TS_32 (c_TS_reachFrom l D cI cL p1 x y w h (by omega) (by omega) (by omega) hw6 hh6 _) ⟨rfl, rfl, by dsimp only; omega, by dsimp only; omega⟩ (hP.sub [] rfl) (hD.sub [] (by decide) rfl) rfl hl.1 rfl (Nat.le_of_ble_eq_true rfl) ⟨Nat.le_of_ble_eq_true rfl, Nat.le_of_ble_eq_true rfl⟩ d_TS_reachesOn_79) (fun r_3 u_2 H locs hw hP hD hS => ?_)
      obtain ⟨rfl, rfl⟩ := hw
      have hP : va_P D classes [(q, .inl (cL, 108, .inr (.inl (lA re))))] H := hP
      have hD : va_D A [(q, .inl (cL, 108, .inr (.inl (lA re))))] := hD
      refine nr_last hx hb hK hP hD hS 0 1 rfl rfl (i := ((p1 * 36) + x) + (w * y)) (x := rF w h p1 x y) (by omega) (by decide) d_TS_reachesOn_82 (fun H locs hP hD hS => ?_)
      have hP : va_P D classes [(q, .inl (cL, 108, .inr (.inl (lA (va_up re (((p1 * 36) + x) + (w * y)) (rF w h p1 x y))))))] H := hP
      have hD : va_D A [(q, .inl (cL, 108, .inr (.inl (lA (va_up re (((p1 * 36) + x) + (w * y)) (rF w h p1 x y))))))] := hD
      refine nr_iinc (lv' := [(5, .int (nI (p1 + 1))), (6, .int (nI (((p1 * 36) + x) + (w * y)))), (0, .int (nI w)), (1, .int (nI h)), (2, .ref q), (3, .int (nI y)), (4, .int (nI x))]) hx hb d_TS_reachesOn_83 hl (k := 6) rfl (by decide) rfl (fun ls hl => ?_)
      refine lv_goto (tgt := 37) hx hb d_TS_reachesOn_86 (by decide) ?_
      exact ih (p1 + 1) (va_up re (((p1 * 36) + x) + (w * y)) (rF w h p1 x y)) (by omega) (by omega) (by rw [eP, if_pos (by omega)] at hq; exact hq) _ _ hP hD hS ls (lv_sub hl [2, 3, 4, 5, 6, 0] rfl)
set_option maxHeartbeats 1000000 in
set_option maxRecDepth 100000 in
theorem L_TS_ex {p : Program} {l : Launch} {e : Env} {s : State} {m : MethodId} {args : Array Value} {below : List Frame} {meth : Method} {c : Code} {A : Nat → Prop} {D : va_G} {cI cL : ClassId} {c0 : Cond} {Q : State → Prop} (q w h : Nat) (hw6 : w ≤ 6) (hh6 : h ≤ 6) (y : Nat) (hy9 : y < h) (E : En p s m args meth c b_TS_reachesOn 7 (c0 :: Om) R_TS (some (.array .long)) A D [(cI, .int), (cL, .long)]) : ∀ (m1 : Nat) (x : Nat) (re : Nat → Nat), x ≤ w → w < x + m1 → (∀ (H : Heap) (locs : List Loc), va_P D classes [(q, .inl (cL, 108, .inr (.inl (lA (eX w h y m1 x re)))))] H → va_D A [(q, .inl (cL, 108, .inr (.inl (lA (eX w h y m1 x re)))))] → va_S A s.heap H locs → ∀ ls : Array Slot, lv_has ls 7 [(0, .int (nI w)), (1, .int (nI h)), (2, .ref q), (3, .int (nI y))] → W p l e { frames := 2, cells := 1, slots := 108, locals := 68 } s m args below meth c H locs 1 108 Q (F0 m 95 ls [])) → ∀ (H : Heap) (locs : List Loc), va_P D classes [(q, .inl (cL, 108, .inr (.inl (lA re))))] H → va_D A [(q, .inl (cL, 108, .inr (.inl (lA re))))] → va_S A s.heap H locs → ∀ ls : Array Slot, lv_has ls 7 [(0, .int (nI w)), (1, .int (nI h)), (2, .ref q), (3, .int (nI y)), (4, .int (nI x))] → W p l e { frames := 2, cells := 1, slots := 108, locals := 68 } s m args below meth c H locs 1 108 Q (F0 m 21 ls []) := by
  obtain ⟨hx, hb, hml, hown, hts, hr, hlk, hA, hK, hN⟩ := id E
  have ho : ∀ q ∈ Om, q.before _ s = true := fun q h => hts q (List.mem_cons_of_mem _ h)
  intro m1
  induction m1 with
  | zero =>
    intro x re h1 h2 hq
    exact absurd h2 (by omega)
  | succ m1 ih =>
    intro x re h1 h2 hq H locs hP hD hS ls hl
    refine lv_iload hx hb d_TS_reachesOn_21 (lv_at hl 4 rfl) ?_
    refine lv_iload_n hx hb d_TS_reachesOn_23 rfl (lv_at hl 0 rfl) ?_
    refine nr_icmp_ge (tgt := 95) hx hb d_TS_reachesOn_24 (by decide) (by omega) (by omega) (fun h_1 => ?_) (fun h_1 => ?_)
    · rw [eX, if_neg (by omega)] at hq
      exact hq _ _ hP hD hS ls (lv_sub hl [0, 1, 2, 3] rfl)
    · refine lv_iload hx hb d_TS_reachesOn_27 (lv_at hl 4 rfl) ?_
      refine lv_bipush (v := nI 6) hx hb d_TS_reachesOn_29 (by decide) ?_
      refine nr_icmp_ge (tgt := 95) hx hb d_TS_reachesOn_31 (by decide) (by omega) (by omega) (fun h9 => absurd h9 (by omega)) (fun _ => ?_)
      refine lv_iconst (v := nI 0) hx hb d_TS_reachesOn_34 (by decide) ?_
      refine lv_istore (lv' := [(5, .int (nI 0)), (0, .int (nI w)), (1, .int (nI h)), (2, .ref q), (3, .int (nI y)), (4, .int (nI x))]) hx hb d_TS_reachesOn_35 hl (by decide) rfl (fun ls hl => ?_)
      refine L_TS_ep q w h hw6 hh6 x y (by omega) hy9 E 4 0 re (by omega) (by omega) (fun H locs hP hD hS ls hl => ?_) _ _ hP hD hS ls (lv_sub hl [1, 2, 3, 4, 5, 0] rfl)
      refine nr_iinc (lv' := [(4, .int (nI (x + 1))), (0, .int (nI w)), (1, .int (nI h)), (2, .ref q), (3, .int (nI y))]) hx hb d_TS_reachesOn_89 hl (k := 4) rfl (by decide) rfl (fun ls hl => ?_)
      refine lv_goto (tgt := 21) hx hb d_TS_reachesOn_92 (by decide) ?_
      exact ih (x + 1) (eP w h x y 4 0 re) (by omega) (by omega) (by rw [eX, if_pos (by omega)] at hq; exact hq) _ _ hP hD hS ls (lv_sub hl [1, 2, 3, 4, 0] rfl)
set_option maxHeartbeats 1000000 in
set_option maxRecDepth 100000 in
theorem L_TS_ey {p : Program} {l : Launch} {e : Env} {s : State} {m : MethodId} {args : Array Value} {below : List Frame} {meth : Method} {c : Code} {A : Nat → Prop} {D : va_G} {cI cL : ClassId} {c0 : Cond} {post : va_W → Prop} (q w h : Nat) (hw6 : w ≤ 6) (hh6 : h ≤ 6) (E : En p s m args meth c b_TS_reachesOn 7 (c0 :: Om) R_TS (some (.array .long)) A D [(cI, .int), (cL, .long)]) : ∀ (m1 : Nat) (y : Nat) (re : Nat → Nat), y ≤ h → h < y + m1 → post [(q, .inl (cL, 108, .inr (.inl (lA (eY w h m1 y re)))))] → ∀ (H : Heap) (locs : List Loc), va_P D classes [(q, .inl (cL, 108, .inr (.inl (lA re))))] H → va_D A [(q, .inl (cL, 108, .inr (.inl (lA re))))] → va_S A s.heap H locs → ∀ ls : Array Slot, lv_has ls 7 [(0, .int (nI w)), (1, .int (nI h)), (2, .ref q), (3, .int (nI y))] → W p l e { frames := 2, cells := 1, slots := 108, locals := 68 } s m args below meth c H locs 1 108 (MQ below (qR D [(cI, .int), (cL, .long)] post A) args s 1 108 A) (F0 m 7 ls []) := by
  obtain ⟨hx, hb, hml, hown, hts, hr, hlk, hA, hK, hN⟩ := id E
  have ho : ∀ q ∈ Om, q.before _ s = true := fun q h => hts q (List.mem_cons_of_mem _ h)
  intro m1
  induction m1 with
  | zero =>
    intro y re h1 h2 hq
    exact absurd h2 (by omega)
  | succ m1 ih =>
    intro y re h1 h2 hq H locs hP hD hS ls hl
    refine lv_iload_n hx hb d_TS_reachesOn_7 rfl (lv_at hl 3 rfl) ?_
    refine lv_iload_n hx hb d_TS_reachesOn_8 rfl (lv_at hl 1 rfl) ?_
    refine nr_icmp_ge (tgt := 101) hx hb d_TS_reachesOn_9 (by decide) (by omega) (by omega) (fun h_1 => ?_) (fun h_1 => ?_)
    · refine lv_aload_n hx hb d_TS_reachesOn_101 rfl (lv_at hl 2 rfl) ?_
      exact rt_r E hP hD hS (by rw [eY, if_neg (by omega)] at hq; exact hq) d_TS_reachesOn_102
    · refine lv_iload_n hx hb d_TS_reachesOn_12 rfl (lv_at hl 3 rfl) ?_
      refine lv_bipush (v := nI 6) hx hb d_TS_reachesOn_13 (by decide) ?_
      refine nr_icmp_ge (tgt := 101) hx hb d_TS_reachesOn_15 (by decide) (by omega) (by omega) (fun h9 => absurd h9 (by omega)) (fun _ => ?_)
      refine lv_iconst (v := nI 0) hx hb d_TS_reachesOn_18 (by decide) ?_
      refine lv_istore (lv' := [(4, .int (nI 0)), (0, .int (nI w)), (1, .int (nI h)), (2, .ref q), (3, .int (nI y))]) hx hb d_TS_reachesOn_19 hl (by decide) rfl (fun ls hl => ?_)
      refine L_TS_ex q w h hw6 hh6 y (by omega) E 7 0 re (by omega) (by omega) (fun H locs hP hD hS ls hl => ?_) _ _ hP hD hS ls (lv_sub hl [1, 2, 3, 4, 0] rfl)
      refine nr_iinc (lv' := [(3, .int (nI (y + 1))), (0, .int (nI w)), (1, .int (nI h)), (2, .ref q)]) hx hb d_TS_reachesOn_95 hl (k := 3) rfl (by decide) rfl (fun ls hl => ?_)
      refine lv_goto (tgt := 7) hx hb d_TS_reachesOn_98 (by decide) ?_
      exact ih (y + 1) (eX w h y 7 0 re) (by omega) (by omega) (by rw [eY, if_pos (by omega)] at hq; exact hq) _ _ hP hD hS ls (lv_sub hl [1, 2, 3, 0] rfl)
set_option maxHeartbeats 1000000 in
set_option maxRecDepth 100000 in
theorem c_TS_reachesOn (l : Launch) (D : va_G) (cI cL : ClassId) (w h : Nat) (hw6 : w ≤ 6) (hh6 : h ≤ 6) : CRm l y_TS_reachesOn (.code y_TS_reachesOn b_TS_reachesOn 7 (some (.array .long)) :: Om) { frames := 2, cells := 1, slots := 108, locals := 68 } D [] [(cI, .int), (cL, .long)] [.int (nI w), .int (nI h)] 1 108 (fun u => ∃ q, u = [(q, .inl (cL, 108, .inr (.inl (lA (eT w h)))))]) := by
  refine en_of (cc := b_TS_reachesOn) (Qc := qR D [(cI, .int), (cL, .long)] (fun u => ∃ q, u = [(q, .inl (cL, 108, .inr (.inl (lA (eT w h)))))])) (by decide) rfl (Nat.le_of_ble_eq_true rfl) ?_
  intro p e s m below meth c A E hnm hP hD hS ls hl
  have hl : lv_has ls 7 [(0, .int (nI w)), (1, .int (nI h))] := hl
  obtain ⟨hx, hb, hml, hown, hts, hr, hlk, hA, hK, hN⟩ := id E
  have ho : ∀ q ∈ Om, q.before _ s = true := fun q h => hts q (List.mem_cons_of_mem _ h)
  refine lv_bipush (v := nI 108) hx hb d_TS_reachesOn_0 (by decide) ?_
  refine nr_newl hx hb (ho _ ka_long) hK hP hD hS hA 1 rfl (by decide) (Nat.le_of_ble_eq_true rfl) (Nat.le_of_ble_eq_true rfl) d_TS_reachesOn_2 (fun q H hP hD hS => ?_)
  have hP : va_P D classes [(q, .inl (cL, 108, .inr (.inl (lA (fun _ => 0)))))] H := hP
  have hD : va_D A [(q, .inl (cL, 108, .inr (.inl (lA (fun _ => 0)))))] := hD
  refine lv_astore_n (lv' := [(2, .ref q), (0, .int (nI w)), (1, .int (nI h))]) hx hb d_TS_reachesOn_4 rfl hl (by decide) rfl (fun ls hl => ?_)
  refine lv_iconst (v := nI 0) hx hb d_TS_reachesOn_5 (by decide) ?_
  refine lv_istore_n (lv' := [(3, .int (nI 0)), (2, .ref q), (0, .int (nI w)), (1, .int (nI h))]) hx hb d_TS_reachesOn_6 rfl hl (by decide) rfl (fun ls hl => ?_)
  exact L_TS_ey q w h hw6 hh6 E 7 0 (fun _ => 0) (by omega) (by omega) ⟨q, rfl⟩ _ _ hP hD hS ls (lv_sub hl [2, 3, 1, 0] rfl)
