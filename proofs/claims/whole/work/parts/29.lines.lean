/-! sets of numbers, a line each; six of them side by side in one long -/
theorem nr_ishl1 {p : Program} {l : Launch} {e : Env} {R : Room} {s : State} {m : MethodId} {args : Array Value} {below : List Frame} {meth : Method} {c : Code} {H : Heap} {locs : List Loc} {cells slots : Nat} {Q : State → Prop} {pc : Nat} {ls : Array Slot} {rest : List Value} {cc : ByteArray} (hx : p.tables.exec = Jvm.exec) (hb : c.code = cc) {b : Nat} (hd : decode cc pc = .ok (.ishl, 1)) (h : b < 32) (k : W p l e R s m args below meth c H locs cells slots Q (F0 m (pc + 1) ls (.int (nI (2 ^ b)) :: rest))) : W p l e R s m args below meth c H locs cells slots Q (F0 m pc ls (.int (nI b) :: .int (nI 1) :: rest)) :=
  nr_ishl hx hb hd h (by rw [Nat.one_mul]; exact k)
theorem nr_i2l {p : Program} {l : Launch} {e : Env} {R : Room} {s : State} {m : MethodId} {args : Array Value} {below : List Frame} {meth : Method} {c : Code} {H : Heap} {locs : List Loc} {cells slots : Nat} {Q : State → Prop} {pc : Nat} {ls : Array Slot} {rest : List Value} {cc : ByteArray} (hx : p.tables.exec = Jvm.exec) (hb : c.code = cc) {a : Nat} (hd : decode cc pc = .ok (.i2l, 1)) (h : a < 2 ^ 31) (k : W p l e R s m args below meth c H locs cells slots Q (F0 m (pc + 1) ls (.long (lN a) :: rest))) : W p l e R s m args below meth c H locs cells slots Q (F0 m pc ls (.int (nI a) :: rest)) :=
  lv_i2l hx hb hd (nI_l h) k
/-- the numbers that no cell of the column or the row has -/
def rCh (al : Nat) (co ro uc ur : Nat → Nat) (k : Nat) : Nat := al &&& ((uc (co k) ||| ur (ro k)) ^^^ 4294967295)
theorem rCh_le (al : Nat) (co ro uc ur : Nat → Nat) (k : Nat) : rCh al co ro uc ur k ≤ al := Nat.and_le_left
def rPut (f : Nat → Nat) (i v : Nat) : Nat → Nat := va_up f i (f i ||| 2 ^ v)
def rTake (f : Nat → Nat) (i v : Nat) : Nat → Nat := va_up f i (f i &&& (2 ^ v ^^^ 4294967295))
theorem up_lt {f : Nat → Nat} {i x b : Nat} (h : ∀ k, f k < b) (hx : x < b) : ∀ k, va_up f i x k < b := fun k => by
  unfold va_up
  split
  · exact hx
  · exact h k
theorem rPut_lt {f : Nat → Nat} {i v : Nat} (h : ∀ k, f k < 128) (hv : v < 7) : ∀ k, rPut f i v k < 128 :=
  up_lt h (Nat.or_lt_two_pow (n := 7) (h i) (Nat.pow_lt_pow_right (by decide) hv))
theorem rTake_lt {f : Nat → Nat} {i v : Nat} (h : ∀ k, f k < 128) : ∀ k, rTake f i v k < 128 :=
  up_lt h (Nat.lt_of_le_of_lt Nat.and_le_left (h i))
theorem or_lt {x y : Nat} (hx : x < 128) (hy : y < 128) : x ||| y < 128 := Nat.or_lt_two_pow (n := 7) hx hy
theorem nA_cpy (f g : Nat → Nat) (a b n : Nat) : va_cpy (nA f) (nA g) a b n = nA (va_cpy f g a b n) := by
  funext k
  simp only [va_cpy, nA]
  split <;> rfl
def rLw (f : Nat → Nat) (v : Nat) : Nat → Nat → Nat → Nat
  | 0, _, x => x
  | m + 1, k, x => if k < 6 then rLw f v m (k + 1) (x + f k / 2 ^ v % 2) else x
def rZ : Nat → Nat → Nat → (Nat → Nat) → Nat → Nat
  | 0, _, _, f => f
  | m + 1, k, b, f => if k < b then rZ m (k + 1) b (va_up f k 0) else f
def rC1 (src : Nat → Nat) : Nat → Nat → (Nat → Nat) → Nat → Nat
  | 0, _, f => f
  | m + 1, k, f => if k < 6 then rC1 src m (k + 1) (va_up f k (src k)) else f
/-- where a line's set begins -/
def e8 (f : Nat → Nat) (k : Nat) : Nat := 8 * f k
theorem e8_le {f : Nat → Nat} (h : ∀ k, f k < 6) (k : Nat) : e8 f k ≤ 40 := by
  have := h k
  unfold e8
  omega
theorem e8_up (f : Nat → Nat) (i v : Nat) : va_up (e8 f) i (8 * v) = e8 (va_up f i v) := by
  funext j
  simp only [va_up, e8]
  split <;> rfl
def lzn (f : Nat → Nat) : Nat → Nat → Nat
  | 0, _ => 0
  | m + 1, i => 2 ^ 8 * lzn f m (i + 1) + f i
/-- the sets of six lines, side by side -/
def lz (f : Nat → Nat) : Nat := lzn f 6 0
theorem lzn_tb {f : Nat → Nat} (hf : ∀ k, f k < 2 ^ 8) : ∀ m i t v, t < m → v < 8 → (lzn f m i).testBit (8 * t + v) = (f (i + t)).testBit v := by
  intro m
  induction m with
  | zero => intro i t v ht; omega
  | succ m ih =>
    intro i t v ht hv
    rw [lzn, Nat.testBit_two_pow_mul_add _ (hf i)]
    by_cases q : t = 0
    · subst q
      rw [if_pos (by omega), Nat.mul_zero, Nat.zero_add, Nat.add_zero]
    · rw [if_neg (by omega), show 8 * t + v - 8 = 8 * (t - 1) + v by omega, ih _ _ _ (by omega) hv, show i + 1 + (t - 1) = i + t by omega]
theorem lzn_lt {f : Nat → Nat} (hf : ∀ k, f k < 2 ^ 8) : ∀ m i, lzn f m i < 2 ^ (8 * m) := by
  intro m
  induction m with
  | zero => intro i; exact Nat.pow_pos (by decide)
  | succ m ih =>
    intro i
    have h1 := ih (i + 1)
    have h2 := hf i
    rw [lzn, show 8 * (m + 1) = 8 * m + 8 by omega, Nat.pow_add]
    generalize 2 ^ (8 * m) = X at h1 ⊢
    generalize lzn f m (i + 1) = a at h1 ⊢
    omega
theorem up8 {f : Nat → Nat} (hf : ∀ k, f k < 128) : ∀ k, f k < 2 ^ 8 := fun k => Nat.lt_trans (hf k) (by decide)
theorem lz_lt {f : Nat → Nat} (hf : ∀ k, f k < 128) : lz f < 2 ^ 48 := lzn_lt (up8 hf) 6 0
theorem lz_tb {f : Nat → Nat} (hf : ∀ k, f k < 128) {i v : Nat} (hi : i < 6) (hv : v < 8) : (lz f).testBit (8 * i + v) = (f i).testBit v := by
  have h := lzn_tb (up8 hf) 6 0 i v hi hv
  rw [Nat.zero_add] at h
  exact h
theorem tb_hi {x n j : Nat} (hx : x < 2 ^ n) (h : n ≤ j) : x.testBit j = false :=
  Nat.testBit_lt_two_pow (Nat.lt_of_lt_of_le hx (Nat.pow_le_pow_right (by decide) h))
theorem lz_hi {f : Nat → Nat} (hf : ∀ k, f k < 128) {j : Nat} (h : 48 ≤ j) : (lz f).testBit j = false := tb_hi (lz_lt hf) h
theorem lz_ext {x y : Nat} (h : ∀ i v, i < 6 → v < 8 → x.testBit (8 * i + v) = y.testBit (8 * i + v)) (h2 : ∀ j, 48 ≤ j → x.testBit j = y.testBit j) : x = y := by
  apply Nat.eq_of_testBit_eq
  intro j
  by_cases q : j < 48
  · have e := h (j / 8) (j % 8) (by omega) (by omega)
    rw [show 8 * (j / 8) + j % 8 = j by omega] at e
    exact e
  · exact h2 j (by omega)
theorem lz_or {f : Nat → Nat} (hf : ∀ k, f k < 128) {i x : Nat} (hi : i < 6) (hx : x < 128) : lz (va_up f i (f i ||| x)) = lz f ||| x * 2 ^ (8 * i) := by
  have hg : ∀ k, va_up f i (f i ||| x) k < 128 := up_lt hf (or_lt (hf i) hx)
  have h7 : x < 2 ^ 7 := hx
  refine lz_ext (fun t v ht hv => ?_) (fun j hj => ?_)
  · rw [lz_tb hg ht hv, Nat.testBit_or, lz_tb hf ht hv, Nat.testBit_mul_two_pow]
    by_cases q : t = i
    · subst q
      rw [va_up_self, Nat.testBit_or, show 8 * t + v - 8 * t = v by omega, decide_eq_true (show 8 * t ≤ 8 * t + v by omega), Bool.true_and]
    · rw [va_up_ne f _ q]
      have z : (decide (8 * i ≤ 8 * t + v) && x.testBit (8 * t + v - 8 * i)) = false := by
        by_cases r : i < t
        · rw [tb_hi h7 (show 7 ≤ 8 * t + v - 8 * i by omega), Bool.and_false]
        · rw [decide_eq_false (show ¬ 8 * i ≤ 8 * t + v by omega), Bool.false_and]
      rw [z, Bool.or_false]
  · rw [lz_hi hg hj, Nat.testBit_or, lz_hi hf hj, Nat.testBit_mul_two_pow, tb_hi h7 (show 7 ≤ j - 8 * i by omega), Bool.and_false]
    rfl
theorem lz_put {f co : Nat → Nat} {k v : Nat} (hf : ∀ k, f k < 128) (hi : co k < 6) (hv : v < 7) : lz (rPut f (co k) v) = lz f ||| 2 ^ (e8 co k + v) := by
  have e := lz_or hf hi (show 2 ^ v < 128 from Nat.pow_lt_pow_right (by decide) hv)
  rw [← Nat.pow_add, Nat.add_comm] at e
  exact e
theorem lz_add {f co : Nat → Nat} {k x : Nat} (hf : ∀ k, f k < 128) (hi : co k < 6) (hx : x < 128) : lz (va_up f (co k) (f (co k) ||| x)) = lz f ||| x * 2 ^ e8 co k := lz_or hf hi hx
theorem lz_take {f co : Nat → Nat} {k v : Nat} (hf : ∀ k, f k < 128) (hi : co k < 6) (hv : v < 7) : lz (rTake f (co k) v) = lz f &&& (2 ^ (e8 co k + v) ^^^ 18446744073709551615) := by
  have hg : ∀ j, rTake f (co k) v j < 128 := rTake_lt hf
  have b1 : ∀ u, u < 8 → (4294967295 : Nat).testBit u = true := fun u hu => (Nat.testBit_two_pow_sub_one 32 u).trans (decide_eq_true (by omega))
  have b2 : ∀ u, u < 48 → (18446744073709551615 : Nat).testBit u = true := fun u hu => (Nat.testBit_two_pow_sub_one 64 u).trans (decide_eq_true (by omega))
  unfold e8
  generalize co k = i at hi hg ⊢
  refine lz_ext (fun t u ht hu => ?_) (fun j hj => ?_)
  · rw [lz_tb hg ht hu, Nat.testBit_and, lz_tb hf ht hu, Nat.testBit_xor, Nat.testBit_two_pow, b2 (8 * t + u) (by omega)]
    unfold rTake
    by_cases q : t = i
    · subst q
      rw [va_up_self, Nat.testBit_and, Nat.testBit_xor, Nat.testBit_two_pow, b1 _ hu]
      by_cases r : v = u
      · rw [decide_eq_true r, decide_eq_true (show 8 * t + v = 8 * t + u by omega)]
      · rw [decide_eq_false r, decide_eq_false (show ¬ 8 * t + v = 8 * t + u by omega)]
    · rw [va_up_ne f _ q, decide_eq_false (show ¬ 8 * i + v = 8 * t + u by omega), Bool.false_xor, Bool.and_true]
  · rw [lz_hi hg hj, Nat.testBit_and, lz_hi hf hj, Bool.false_and]
theorem lz_ch {al k : Nat} {co ro uc ur : Nat → Nat} (hal : al < 128) (huc : ∀ k, uc k < 128) (hur : ∀ k, ur k < 128) (h1 : co k < 6) (h2 : ro k < 6) : al &&& ((lz uc / 2 ^ e8 co k ||| lz ur / 2 ^ e8 ro k) ^^^ 4294967295) = rCh al co ro uc ur k := by
  have h7 : al < 2 ^ 7 := hal
  apply Nat.eq_of_testBit_eq
  intro j
  rw [rCh, Nat.testBit_and, Nat.testBit_and]
  by_cases q : j < 8
  · rw [Nat.testBit_xor, Nat.testBit_xor, Nat.testBit_or, Nat.testBit_or, Nat.testBit_div_two_pow, Nat.testBit_div_two_pow, show j + e8 co k = 8 * co k + j from Nat.add_comm _ _, show j + e8 ro k = 8 * ro k + j from Nat.add_comm _ _, lz_tb huc h1 q, lz_tb hur h2 q]
  · rw [tb_hi h7 (show 7 ≤ j by omega), Bool.false_and, Bool.false_and]
theorem pop8_01 : ∀ b, b < 2 → pop 8 b = b := by decide
theorem rLw_lz {f g : Nat → Nat} {v : Nat} (e : ∀ k, f k / 2 ^ v % 2 = g k) (h2 : ∀ k, g k < 2) : ∀ m k x, k + m = 6 → rLw f v (m + 1) k x = x + pop (8 * m) (lzn g m k) := by
  intro m
  induction m with
  | zero =>
    intro k x h
    rw [rLw, if_neg (by omega)]
    rfl
  | succ m ih =>
    intro k x h
    have hb := h2 k
    rw [rLw, if_pos (by omega), e k, ih _ _ (by omega), pop_bytes, lzn]
    generalize g k = b at hb ⊢
    generalize lzn g m (k + 1) = a
    rw [show (2 ^ 8 * a + b) / 256 = a by omega, ← pop_mod 8 (2 ^ 8 * a + b), show (2 ^ 8 * a + b) % 2 ^ 8 = b by omega, pop8_01 b hb, Nat.add_assoc]
theorem lz_one : lz (fun _ => 1) = 1103823438081 := by decide
theorem lz_0 : lz (fun _ => 0) = 0 := by decide
def gW (f : Nat → Nat) (v k : Nat) : Nat := f k / 2 ^ v % 2
theorem lz_lw {f : Nat → Nat} {v : Nat} (hf : ∀ k, f k < 128) (hv : v < 7) : pop 64 (lz f / 2 ^ v &&& 1103823438081) = rLw f v 7 0 0 := by
  have h2 : ∀ k, gW f v k < 2 := fun k => Nat.mod_lt _ (by decide)
  have hg : ∀ k, gW f v k < 128 := fun k => Nat.lt_trans (h2 k) (by decide)
  have e1 : ∀ k, f k / 2 ^ v % 2 = gW f v k := fun _ => rfl
  have e2 : ∀ k, (gW f v k).testBit 0 = (f k).testBit v := fun k => by
    rw [Nat.testBit_zero, Nat.testBit_eq_decide_div_mod_eq, ← e1, Nat.mod_mod]
  have e : lz f / 2 ^ v &&& 1103823438081 = lz (gW f v) := by
    refine lz_ext (fun t u ht hu => ?_) (fun j hj => ?_)
    · have hm : (1103823438081 : Nat).testBit (8 * t + u) = (1 : Nat).testBit u := by
        rw [← lz_one]
        exact lz_tb (f := fun _ => 1) (fun _ => by decide) ht hu
      rw [Nat.testBit_and, Nat.testBit_div_two_pow, lz_tb hg ht hu, hm]
      by_cases q : u = 0
      · subst q
        rw [show 8 * t + 0 + v = 8 * t + v by omega, lz_tb hf ht (show v < 8 by omega), e2, show (1 : Nat).testBit 0 = true from rfl, Bool.and_true]
      · rw [tb_hi (show 1 < 2 ^ 1 by decide) (show 1 ≤ u by omega), tb_hi (show gW f v t < 2 ^ 1 from h2 t) (show 1 ≤ u by omega), Bool.and_false]
    · rw [Nat.testBit_and, lz_hi hg hj, tb_hi (show 1103823438081 < 2 ^ 48 by decide) hj, Bool.and_false]
  have e3 : rLw f v 7 0 0 = 0 + pop (8 * 6) (lzn (gW f v) 6 0) := rLw_lz e1 h2 6 0 0 rfl
  have e4 : pop 64 (lz (gW f v)) = pop 48 (lz (gW f v)) + pop 16 (lz (gW f v) / 2 ^ 48) := pop_add 16 48 (lz (gW f v))
  rw [e, e3, e4, Nat.div_eq_of_lt (lz_lt hg), show pop 16 0 = 0 by decide, Nat.add_zero, Nat.zero_add]
  rfl
theorem lz_eq {f g : Nat → Nat} (h0 : f 0 = g 0) (h1 : f 1 = g 1) (h2 : f 2 = g 2) (h3 : f 3 = g 3) (h4 : f 4 = g 4) (h5 : f 5 = g 5) : lz f = lz g := by
  show 2 ^ 8 * (2 ^ 8 * (2 ^ 8 * (2 ^ 8 * (2 ^ 8 * (2 ^ 8 * 0 + f 5) + f 4) + f 3) + f 2) + f 1) + f 0 = 2 ^ 8 * (2 ^ 8 * (2 ^ 8 * (2 ^ 8 * (2 ^ 8 * (2 ^ 8 * 0 + g 5) + g 4) + g 3) + g 2) + g 1) + g 0
  rw [h0, h1, h2, h3, h4, h5]
theorem lz_z (f : Nat → Nat) : lz (rZ 7 0 6 f) = 0 := (lz_eq (f := rZ 7 0 6 f) (g := fun _ => 0) (by first | rfl | simp [rZ, va_up]) (by first | rfl | simp [rZ, va_up]) (by first | rfl | simp [rZ, va_up]) (by first | rfl | simp [rZ, va_up]) (by first | rfl | simp [rZ, va_up]) (by first | rfl | simp [rZ, va_up])).trans lz_0
theorem lz_c1 (src f : Nat → Nat) : lz (rC1 src 7 0 f) = lz src := lz_eq (by first | rfl | simp [rC1, va_up]) (by first | rfl | simp [rC1, va_up]) (by first | rfl | simp [rC1, va_up]) (by first | rfl | simp [rC1, va_up]) (by first | rfl | simp [rC1, va_up]) (by first | rfl | simp [rC1, va_up])
