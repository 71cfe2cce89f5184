/-! the law: one call of the program and one of the reference -/
theorem nC_cases (w h : Nat) (x y : Int32) (hw : w ≤ 6) (hh : h ≤ 6) : (nC w h x y ∧ cA w h x y = -1) ∨ ∃ i j : Nat, i < w ∧ j < h ∧ x = nI i ∧ y = nI j := by
  by_cases c : x < 0 ∨ nI w ≤ x ∨ y < 0 ∨ ¬ y < nI h
  · exact Or.inl ⟨c, if_pos c⟩
  · refine Or.inr ?_
    rcases pk_ix x (n := w) (by omega) with q | q | ⟨i, hi, rfl⟩
    · exact absurd (Or.inl q) c
    · exact absurd (Or.inr (Or.inl q)) c
    · rcases pk_ix y (n := h) (by omega) with q | q | ⟨j, hj, rfl⟩
      · exact absurd (Or.inr (Or.inr (Or.inl q))) c
      · exact absurd (Or.inr (Or.inr (Or.inr (fun z => absurd ((nI_ltI (b := h) (a := h) (by omega) (by omega)).mp (Int32.lt_of_le_of_lt q z)) (by omega))))) c
      · exact ⟨i, j, hi, hj, rfl, rfl⟩
theorem and15 (x : Int32) : ∃ j : Nat, j < 16 ∧ x &&& nI 15 = nI j := by
  obtain ⟨n, _, rfl⟩ := wb_of32 x
  exact ⟨n &&& 15, Nat.lt_of_le_of_lt Nat.and_le_right (by decide), nx_and n 15⟩
section LS
variable {p : Program} {l : Launch} {e : Env} {R : Room} {s : State} {m : MethodId} {args : Array Value} {below : List Frame} {meth : Method} {c : Code} {H H0 : Heap} {locs : List Loc} {cells slots : Nat} {Q : State → Prop} {pc : Nat} {ls : Array Slot} {rest : List Value} {cc : ByteArray} {A : Nat → Prop}
theorem nr_sld (hx : p.tables.exec = Jvm.exec) (hb : c.code = cc) {b L : Nat} {xs : Nat → Int32} (hX : va_X b L xs s H0) (hbl : b < H0.size) (hbA : ¬ A b) (hS : va_S A H0 H locs) {k : Nat} (hk : k < L) (hL : L < 2 ^ 31) (hd : decode cc pc = .ok (.iaload, 1))
    (kk : W p l e R s m args below meth c H locs cells slots Q (F0 m (pc + 1) ls (.int (xs k) :: rest))) : W p l e R s m args below meth c H locs cells slots Q (F0 m pc ls (.int (nI k) :: .ref b :: rest)) :=
  va_sld hx hb hX hbl hbA hS (vp_in_nI hk hL) hd (by rw [nI_clamp (by omega)]; exact kk)
theorem nr_slen (hx : p.tables.exec = Jvm.exec) (hb : c.code = cc) {b L : Nat} {xs : Nat → Int32} (hX : va_X b L xs s H0) (hbl : b < H0.size) (hbA : ¬ A b) (hS : va_S A H0 H locs) (hd : decode cc pc = .ok (.arraylength, 1))
    (kk : W p l e R s m args below meth c H locs cells slots Q (F0 m (pc + 1) ls (.int (nI L) :: rest))) : W p l e R s m args below meth c H locs cells slots Q (F0 m pc ls (.ref b :: rest)) :=
  va_slen hx hb hX hbl hbA hS hd kk
theorem nr_iinc4 (hx : p.tables.exec = Jvm.exec) (hb : c.code = cc) {i nL k : Nat} {a : Nat} {lv lv' : List (Nat × Value)} (hd : decode cc pc = .ok (.iinc i 4, 3)) (h : lv_has ls nL lv) (hk : lv[k]? = some (i, .int (nI a))) (hn : i < nL) (hl : (i, Value.int (nI (a + 4))) :: lv.filter (fun q => !(q.1 == i) && !(q.1 + 1 == i && q.2.category == 2)) = lv')
    (kk : ∀ ls' : Array Slot, lv_has ls' nL lv' → W p l e R s m args below meth c H locs cells slots Q (F0 m (pc + 3) ls' rest)) : W p l e R s m args below meth c H locs cells slots Q (F0 m pc ls rest) :=
  lv_iinc hx hb hd h hk (show nI a + Int32.ofInt 4 = nI (a + 4) from by rw [← nI_add]; rfl) hn hl kk
end LS
