section
-- ===== PART A: goes FIRST, ahead of the names: the tables' words, and 'selects' of the private methods out of them =====
/-- a private method of a class that the tables say can be made, by its rows of tables_1 -/
def lw_okq (q : MethodName × Nat) : Prop := (q.1.cls ≠ "java/lang/invoke/MethodHandle" ∧ q.1.cls ≠ "java/lang/invoke/VarHandle") ∧ Cond.instantiable q.1.cls q.2 ∈ tables_1 ∧ Cond.privateMethod q.1 ∈ tables_1 ∧ Cond.instanceMethod q.1 ∈ tables_1
theorem lw_p0 : lw_okq (⟨"TourForms$TourSearch", "enter", "(I)V"⟩, 10) := ⟨⟨by decide +kernel, by decide +kernel⟩, List.mem_of_getElem? (i := 48) (by decide +kernel), List.mem_of_getElem? (i := 239) (by decide +kernel), List.mem_of_getElem? (i := 240) (by decide +kernel)⟩
theorem lw_p1 : lw_okq (⟨"TourForms$TourSearch", "listWaysOn", "(II)I"⟩, 10) := ⟨⟨by decide +kernel, by decide +kernel⟩, List.mem_of_getElem? (i := 48) (by decide +kernel), List.mem_of_getElem? (i := 244) (by decide +kernel), List.mem_of_getElem? (i := 245) (by decide +kernel)⟩
theorem lw_p2 : lw_okq (⟨"TourForms$TourSearch", "insertWayOn", "(III)V"⟩, 10) := ⟨⟨by decide +kernel, by decide +kernel⟩, List.mem_of_getElem? (i := 48) (by decide +kernel), List.mem_of_getElem? (i := 260) (by decide +kernel), List.mem_of_getElem? (i := 261) (by decide +kernel)⟩
theorem lw_p3 : lw_okq (⟨"TourForms$TourSearch", "closes", "()Z"⟩, 10) := ⟨⟨by decide +kernel, by decide +kernel⟩, List.mem_of_getElem? (i := 48) (by decide +kernel), List.mem_of_getElem? (i := 268) (by decide +kernel), List.mem_of_getElem? (i := 269) (by decide +kernel)⟩
theorem lw_p4 : lw_okq (⟨"TourForms$TourSearch", "nextCell", "()I"⟩, 10) := ⟨⟨by decide +kernel, by decide +kernel⟩, List.mem_of_getElem? (i := 48) (by decide +kernel), List.mem_of_getElem? (i := 272) (by decide +kernel), List.mem_of_getElem? (i := 273) (by decide +kernel)⟩
theorem lw_p5 : lw_okq (⟨"TourForms$TourSearch", "goBack", "()V"⟩, 10) := ⟨⟨by decide +kernel, by decide +kernel⟩, List.mem_of_getElem? (i := 48) (by decide +kernel), List.mem_of_getElem? (i := 276) (by decide +kernel), List.mem_of_getElem? (i := 277) (by decide +kernel)⟩
theorem lw_p6 : lw_okq (⟨"TourForms$QueenSearch", "placeFrom", "(II)Z"⟩, 5) := ⟨⟨by decide +kernel, by decide +kernel⟩, List.mem_of_getElem? (i := 97) (by decide +kernel), List.mem_of_getElem? (i := 311) (by decide +kernel), List.mem_of_getElem? (i := 312) (by decide +kernel)⟩
theorem lw_p7 : lw_okq (⟨"TourForms$QueenSearch", "placeIn", "(II)Z"⟩, 5) := ⟨⟨by decide +kernel, by decide +kernel⟩, List.mem_of_getElem? (i := 97) (by decide +kernel), List.mem_of_getElem? (i := 315) (by decide +kernel), List.mem_of_getElem? (i := 316) (by decide +kernel)⟩
theorem lw_p8 : lw_okq (⟨"TourForms$QueenSearch", "canStand", "(II)Z"⟩, 5) := ⟨⟨by decide +kernel, by decide +kernel⟩, List.mem_of_getElem? (i := 97) (by decide +kernel), List.mem_of_getElem? (i := 319) (by decide +kernel), List.mem_of_getElem? (i := 320) (by decide +kernel)⟩
theorem lw_p9 : lw_okq (⟨"TourForms$Rectangle", "layGiven", "()Z"⟩, 15) := ⟨⟨by decide +kernel, by decide +kernel⟩, List.mem_of_getElem? (i := 120) (by decide +kernel), List.mem_of_getElem? (i := 354) (by decide +kernel), List.mem_of_getElem? (i := 355) (by decide +kernel)⟩
theorem lw_p10 : lw_okq (⟨"TourForms$Rectangle", "choicesAt", "(I)I"⟩, 15) := ⟨⟨by decide +kernel, by decide +kernel⟩, List.mem_of_getElem? (i := 120) (by decide +kernel), List.mem_of_getElem? (i := 358) (by decide +kernel), List.mem_of_getElem? (i := 359) (by decide +kernel)⟩
theorem lw_p11 : lw_okq (⟨"TourForms$Rectangle", "put", "(II)V"⟩, 15) := ⟨⟨by decide +kernel, by decide +kernel⟩, List.mem_of_getElem? (i := 120) (by decide +kernel), List.mem_of_getElem? (i := 362) (by decide +kernel), List.mem_of_getElem? (i := 363) (by decide +kernel)⟩
theorem lw_p12 : lw_okq (⟨"TourForms$Rectangle", "countFrom", "(II)I"⟩, 15) := ⟨⟨by decide +kernel, by decide +kernel⟩, List.mem_of_getElem? (i := 120) (by decide +kernel), List.mem_of_getElem? (i := 366) (by decide +kernel), List.mem_of_getElem? (i := 367) (by decide +kernel)⟩
theorem lw_p13 : lw_okq (⟨"TourForms$Rectangle", "narrowestOpenCell", "()I"⟩, 15) := ⟨⟨by decide +kernel, by decide +kernel⟩, List.mem_of_getElem? (i := 120) (by decide +kernel), List.mem_of_getElem? (i := 370) (by decide +kernel), List.mem_of_getElem? (i := 371) (by decide +kernel)⟩
theorem lw_p14 : lw_okq (⟨"TourForms$Rectangle", "someNumberLacksPlaces", "()Z"⟩, 15) := ⟨⟨by decide +kernel, by decide +kernel⟩, List.mem_of_getElem? (i := 120) (by decide +kernel), List.mem_of_getElem? (i := 383) (by decide +kernel), List.mem_of_getElem? (i := 384) (by decide +kernel)⟩
theorem lw_p15 : lw_okq (⟨"TourForms$Rectangle", "countWith", "(IIII)I"⟩, 15) := ⟨⟨by decide +kernel, by decide +kernel⟩, List.mem_of_getElem? (i := 120) (by decide +kernel), List.mem_of_getElem? (i := 390) (by decide +kernel), List.mem_of_getElem? (i := 391) (by decide +kernel)⟩
def lw_privs_1 : List (MethodName × Nat) := [(⟨"TourForms$TourSearch", "enter", "(I)V"⟩, 10), (⟨"TourForms$TourSearch", "listWaysOn", "(II)I"⟩, 10), (⟨"TourForms$TourSearch", "insertWayOn", "(III)V"⟩, 10), (⟨"TourForms$TourSearch", "closes", "()Z"⟩, 10), (⟨"TourForms$TourSearch", "nextCell", "()I"⟩, 10), (⟨"TourForms$TourSearch", "goBack", "()V"⟩, 10), (⟨"TourForms$QueenSearch", "placeFrom", "(II)Z"⟩, 5), (⟨"TourForms$QueenSearch", "placeIn", "(II)Z"⟩, 5), (⟨"TourForms$QueenSearch", "canStand", "(II)Z"⟩, 5), (⟨"TourForms$Rectangle", "layGiven", "()Z"⟩, 15), (⟨"TourForms$Rectangle", "choicesAt", "(I)I"⟩, 15), (⟨"TourForms$Rectangle", "put", "(II)V"⟩, 15), (⟨"TourForms$Rectangle", "countFrom", "(II)I"⟩, 15), (⟨"TourForms$Rectangle", "narrowestOpenCell", "()I"⟩, 15), (⟨"TourForms$Rectangle", "someNumberLacksPlaces", "()Z"⟩, 15), (⟨"TourForms$Rectangle", "countWith", "(IIII)I"⟩, 15)]
theorem lw_r1 : ∀ q ∈ lw_privs_1, lw_okq q := List.forall_mem_cons.mpr ⟨lw_p0, List.forall_mem_cons.mpr ⟨lw_p1, List.forall_mem_cons.mpr ⟨lw_p2, List.forall_mem_cons.mpr ⟨lw_p3, List.forall_mem_cons.mpr ⟨lw_p4, List.forall_mem_cons.mpr ⟨lw_p5, List.forall_mem_cons.mpr ⟨lw_p6, List.forall_mem_cons.mpr ⟨lw_p7, List.forall_mem_cons.mpr ⟨lw_p8, List.forall_mem_cons.mpr ⟨lw_p9, List.forall_mem_cons.mpr ⟨lw_p10, List.forall_mem_cons.mpr ⟨lw_p11, List.forall_mem_cons.mpr ⟨lw_p12, List.forall_mem_cons.mpr ⟨lw_p13, List.forall_mem_cons.mpr ⟨lw_p14, List.forall_mem_cons.mpr ⟨lw_p15, fun _ h => absurd h List.not_mem_nil⟩⟩⟩⟩⟩⟩⟩⟩⟩⟩⟩⟩⟩⟩⟩⟩
theorem lw_p16 : lw_okq (⟨"TourForms$Rectangle", "take", "(II)V"⟩, 15) := ⟨⟨by decide +kernel, by decide +kernel⟩, List.mem_of_getElem? (i := 120) (by decide +kernel), List.mem_of_getElem? (i := 394) (by decide +kernel), List.mem_of_getElem? (i := 395) (by decide +kernel)⟩
theorem lw_p17 : lw_okq (⟨"TourForms$Rectangle", "settle", "(I)V"⟩, 15) := ⟨⟨by decide +kernel, by decide +kernel⟩, List.mem_of_getElem? (i := 120) (by decide +kernel), List.mem_of_getElem? (i := 398) (by decide +kernel), List.mem_of_getElem? (i := 399) (by decide +kernel)⟩
theorem lw_p18 : lw_okq (⟨"TourFormsModel", "isCell", "(II)Z"⟩, 18) := ⟨⟨by decide +kernel, by decide +kernel⟩, List.mem_of_getElem? (i := 428) (by decide +kernel), List.mem_of_getElem? (i := 497) (by decide +kernel), List.mem_of_getElem? (i := 498) (by decide +kernel)⟩
theorem lw_p19 : lw_okq (⟨"TourFormsModel", "search", "(IZI)I"⟩, 18) := ⟨⟨by decide +kernel, by decide +kernel⟩, List.mem_of_getElem? (i := 428) (by decide +kernel), List.mem_of_getElem? (i := 510) (by decide +kernel), List.mem_of_getElem? (i := 511) (by decide +kernel)⟩
theorem lw_p20 : lw_okq (⟨"TourFormsModel", "open", "()I"⟩, 18) := ⟨⟨by decide +kernel, by decide +kernel⟩, List.mem_of_getElem? (i := 428) (by decide +kernel), List.mem_of_getElem? (i := 514) (by decide +kernel), List.mem_of_getElem? (i := 515) (by decide +kernel)⟩
theorem lw_p21 : lw_okq (⟨"TourFormsModel", "goes", "(III)Z"⟩, 18) := ⟨⟨by decide +kernel, by decide +kernel⟩, List.mem_of_getElem? (i := 428) (by decide +kernel), List.mem_of_getElem? (i := 518) (by decide +kernel), List.mem_of_getElem? (i := 519) (by decide +kernel)⟩
theorem lw_p22 : lw_okq (⟨"TourFormsModel", "nextCell", "(III)I"⟩, 18) := ⟨⟨by decide +kernel, by decide +kernel⟩, List.mem_of_getElem? (i := 428) (by decide +kernel), List.mem_of_getElem? (i := 525) (by decide +kernel), List.mem_of_getElem? (i := 526) (by decide +kernel)⟩
theorem lw_p23 : lw_okq (⟨"TourFormsModel", "waysOn", "(II)I"⟩, 18) := ⟨⟨by decide +kernel, by decide +kernel⟩, List.mem_of_getElem? (i := 428) (by decide +kernel), List.mem_of_getElem? (i := 529) (by decide +kernel), List.mem_of_getElem? (i := 530) (by decide +kernel)⟩
theorem lw_p24 : lw_okq (⟨"TourFormsModel", "goThrough", "(I)I"⟩, 18) := ⟨⟨by decide +kernel, by decide +kernel⟩, List.mem_of_getElem? (i := 428) (by decide +kernel), List.mem_of_getElem? (i := 549) (by decide +kernel), List.mem_of_getElem? (i := 550) (by decide +kernel)⟩
theorem lw_p25 : lw_okq (⟨"TourFormsModel", "stands", "(I)Z"⟩, 18) := ⟨⟨by decide +kernel, by decide +kernel⟩, List.mem_of_getElem? (i := 428) (by decide +kernel), List.mem_of_getElem? (i := 553) (by decide +kernel), List.mem_of_getElem? (i := 554) (by decide +kernel)⟩
theorem lw_p26 : lw_okq (⟨"TourFormsModel", "fillThrough", "(IZ)I"⟩, 18) := ⟨⟨by decide +kernel, by decide +kernel⟩, List.mem_of_getElem? (i := 428) (by decide +kernel), List.mem_of_getElem? (i := 569) (by decide +kernel), List.mem_of_getElem? (i := 570) (by decide +kernel)⟩
theorem lw_p27 : lw_okq (⟨"TourFormsModel", "goesOn", "(I)Z"⟩, 18) := ⟨⟨by decide +kernel, by decide +kernel⟩, List.mem_of_getElem? (i := 428) (by decide +kernel), List.mem_of_getElem? (i := 573) (by decide +kernel), List.mem_of_getElem? (i := 574) (by decide +kernel)⟩
theorem lw_p28 : lw_okq (⟨"TourFormsModel", "free", "(II)I"⟩, 18) := ⟨⟨by decide +kernel, by decide +kernel⟩, List.mem_of_getElem? (i := 428) (by decide +kernel), List.mem_of_getElem? (i := 577) (by decide +kernel), List.mem_of_getElem? (i := 578) (by decide +kernel)⟩
theorem lw_p29 : lw_okq (⟨"TourFormsModel", "enough", "(IIII)Z"⟩, 18) := ⟨⟨by decide +kernel, by decide +kernel⟩, List.mem_of_getElem? (i := 428) (by decide +kernel), List.mem_of_getElem? (i := 581) (by decide +kernel), List.mem_of_getElem? (i := 582) (by decide +kernel)⟩
theorem lw_p30 : lw_okq (⟨"TourFormsModel", "fits", "(II)Z"⟩, 18) := ⟨⟨by decide +kernel, by decide +kernel⟩, List.mem_of_getElem? (i := 428) (by decide +kernel), List.mem_of_getElem? (i := 588) (by decide +kernel), List.mem_of_getElem? (i := 589) (by decide +kernel)⟩
def lw_privs_2 : List (MethodName × Nat) := [(⟨"TourForms$Rectangle", "take", "(II)V"⟩, 15), (⟨"TourForms$Rectangle", "settle", "(I)V"⟩, 15), (⟨"TourFormsModel", "isCell", "(II)Z"⟩, 18), (⟨"TourFormsModel", "search", "(IZI)I"⟩, 18), (⟨"TourFormsModel", "open", "()I"⟩, 18), (⟨"TourFormsModel", "goes", "(III)Z"⟩, 18), (⟨"TourFormsModel", "nextCell", "(III)I"⟩, 18), (⟨"TourFormsModel", "waysOn", "(II)I"⟩, 18), (⟨"TourFormsModel", "goThrough", "(I)I"⟩, 18), (⟨"TourFormsModel", "stands", "(I)Z"⟩, 18), (⟨"TourFormsModel", "fillThrough", "(IZ)I"⟩, 18), (⟨"TourFormsModel", "goesOn", "(I)Z"⟩, 18), (⟨"TourFormsModel", "free", "(II)I"⟩, 18), (⟨"TourFormsModel", "enough", "(IIII)Z"⟩, 18), (⟨"TourFormsModel", "fits", "(II)Z"⟩, 18)]
theorem lw_r2 : ∀ q ∈ lw_privs_2, lw_okq q := List.forall_mem_cons.mpr ⟨lw_p16, List.forall_mem_cons.mpr ⟨lw_p17, List.forall_mem_cons.mpr ⟨lw_p18, List.forall_mem_cons.mpr ⟨lw_p19, List.forall_mem_cons.mpr ⟨lw_p20, List.forall_mem_cons.mpr ⟨lw_p21, List.forall_mem_cons.mpr ⟨lw_p22, List.forall_mem_cons.mpr ⟨lw_p23, List.forall_mem_cons.mpr ⟨lw_p24, List.forall_mem_cons.mpr ⟨lw_p25, List.forall_mem_cons.mpr ⟨lw_p26, List.forall_mem_cons.mpr ⟨lw_p27, List.forall_mem_cons.mpr ⟨lw_p28, List.forall_mem_cons.mpr ⟨lw_p29, List.forall_mem_cons.mpr ⟨lw_p30, fun _ h => absurd h List.not_mem_nil⟩⟩⟩⟩⟩⟩⟩⟩⟩⟩⟩⟩⟩⟩⟩
def lw_privs : List (MethodName × Nat) := lw_privs_1 ++ (lw_privs_2)
def lw_tbl : List Cond := k2_sels lw_privs ++ tables_1
theorem lw_privs_ok : ∀ q ∈ lw_privs, lw_okq q := by
  show ∀ q ∈ lw_privs_1 ++ (lw_privs_2), lw_okq q
  exact List.forall_mem_append.mpr ⟨lw_r1, lw_r2⟩
def Om : List Cond := lw_tbl.filter goodWord
theorem om_at {w : Cond} (h : w ∈ lw_tbl) (g : goodWord w = true) : w ∈ Om := List.mem_filter.mpr ⟨h, g⟩
theorem om_in {w : Cond} (h : w ∈ Om) : w ∈ lw_tbl := (List.mem_filter.mp h).1
def R_BD : String := "TourForms$Board"
def F_BD : u_T := fun k => match k with
  | 0 => ("TourForms$Board", "width", "I", true)
  | 1 => ("TourForms$Board", "height", "I", true)
  | 2 => ("TourForms$Board", "cells", "I", true)
  | _ => ("TourForms$Board", "free", "J", false)
def t_BD : Nat → FieldType := fun k => match k with
  | 0 => .int
  | 1 => .int
  | 2 => .int
  | _ => .long
theorem n_BD : ∀ a, a < 4 → ∀ b, b < 4 → a ≠ b → (F_BD a).2.1 ≠ (F_BD b).2.1 := by decide +kernel
theorem t_BD_ok : ∀ k, k < 4 → parseFieldDescriptor (F_BD k).2.2.1 = some (t_BD k) := by decide +kernel
theorem j_BD0 : ∀ w ∈ u_ws R_BD F_BD 4, w ∈ lw_tbl ∧ goodWord w = true := by decide +kernel
theorem j_BD : ∀ w ∈ u_ws R_BD F_BD 4, w ∈ Om := fun w h => om_at (j_BD0 w h).1 (j_BD0 w h).2
def R_QS : String := "TourForms$QueenSearch"
def F_QS : u_T := fun k => match k with
  | 0 => ("TourForms$QueenSearch", "width", "I", true)
  | 1 => ("TourForms$QueenSearch", "height", "I", true)
  | 2 => ("TourForms$QueenSearch", "rows", "[I", true)
  | 3 => ("TourForms$QueenSearch", "free", "J", false)
  | _ => ("TourForms$QueenSearch", "waysSeen", "I", false)
def t_QS : Nat → FieldType := fun k => match k with
  | 0 => .int
  | 1 => .int
  | 2 => .array .int
  | 3 => .long
  | _ => .int
theorem n_QS : ∀ a, a < 5 → ∀ b, b < 5 → a ≠ b → (F_QS a).2.1 ≠ (F_QS b).2.1 := by decide +kernel
theorem t_QS_ok : ∀ k, k < 5 → parseFieldDescriptor (F_QS k).2.2.1 = some (t_QS k) := by decide +kernel
theorem j_QS0 : ∀ w ∈ u_ws R_QS F_QS 5, w ∈ lw_tbl ∧ goodWord w = true := by decide +kernel
theorem j_QS : ∀ w ∈ u_ws R_QS F_QS 5, w ∈ Om := fun w h => om_at (j_QS0 w h).1 (j_QS0 w h).2
def R_RC : String := "TourForms$Rectangle"
def F_RC : u_T := fun k => match k with
  | 0 => ("TourForms$Rectangle", "cells", "I", true)
  | 1 => ("TourForms$Rectangle", "greatest", "I", true)
  | 2 => ("TourForms$Rectangle", "shorterSide", "I", true)
  | 3 => ("TourForms$Rectangle", "all", "I", true)
  | 4 => ("TourForms$Rectangle", "fixed", "[I", true)
  | 5 => ("TourForms$Rectangle", "least", "[I", true)
  | 6 => ("TourForms$Rectangle", "tried", "[I", true)
  | 7 => ("TourForms$Rectangle", "witness", "[I", true)
  | 8 => ("TourForms$Rectangle", "columnOf", "[I", true)
  | 9 => ("TourForms$Rectangle", "rowOf", "[I", true)
  | 10 => ("TourForms$Rectangle", "usedInColumn", "[I", true)
  | 11 => ("TourForms$Rectangle", "usedInRow", "[I", true)
  | 12 => ("TourForms$Rectangle", "possibleInColumn", "[I", true)
  | 13 => ("TourForms$Rectangle", "possibleInRow", "[I", true)
  | _ => ("TourForms$Rectangle", "found", "Z", false)
def t_RC : Nat → FieldType := fun k => match k with
  | 0 => .int
  | 1 => .int
  | 2 => .int
  | 3 => .int
  | 4 => .array .int
  | 5 => .array .int
  | 6 => .array .int
  | 7 => .array .int
  | 8 => .array .int
  | 9 => .array .int
  | 10 => .array .int
  | 11 => .array .int
  | 12 => .array .int
  | 13 => .array .int
  | _ => .boolean
theorem n_RC : ∀ a, a < 15 → ∀ b, b < 15 → a ≠ b → (F_RC a).2.1 ≠ (F_RC b).2.1 := by decide +kernel
theorem t_RC_ok : ∀ k, k < 15 → parseFieldDescriptor (F_RC k).2.2.1 = some (t_RC k) := by decide +kernel
theorem j_RC0 : ∀ w ∈ u_ws R_RC F_RC 15, w ∈ lw_tbl ∧ goodWord w = true := by decide +kernel
theorem j_RC : ∀ w ∈ u_ws R_RC F_RC 15, w ∈ Om := fun w h => om_at (j_RC0 w h).1 (j_RC0 w h).2
def R_TS : String := "TourForms$TourSearch"
def F_TS : u_T := fun k => match k with
  | 0 => ("TourForms$TourSearch", "reaches", "[J", true)
  | 1 => ("TourForms$TourSearch", "path", "[I", true)
  | 2 => ("TourForms$TourSearch", "waysOn", "[I", true)
  | 3 => ("TourForms$TourSearch", "waysOnCount", "[I", true)
  | 4 => ("TourForms$TourSearch", "waysOnTried", "[I", true)
  | 5 => ("TourForms$TourSearch", "piece", "I", false)
  | 6 => ("TourForms$TourSearch", "open", "J", false)
  | 7 => ("TourForms$TourSearch", "length", "I", false)
  | 8 => ("TourForms$TourSearch", "made", "I", false)
  | _ => ("TourForms$TourSearch", "found", "Z", false)
def t_TS : Nat → FieldType := fun k => match k with
  | 0 => .array .long
  | 1 => .array .int
  | 2 => .array .int
  | 3 => .array .int
  | 4 => .array .int
  | 5 => .int
  | 6 => .long
  | 7 => .int
  | 8 => .int
  | _ => .boolean
theorem n_TS : ∀ a, a < 10 → ∀ b, b < 10 → a ≠ b → (F_TS a).2.1 ≠ (F_TS b).2.1 := by decide +kernel
theorem t_TS_ok : ∀ k, k < 10 → parseFieldDescriptor (F_TS k).2.2.1 = some (t_TS k) := by decide +kernel
theorem j_TS0 : ∀ w ∈ u_ws R_TS F_TS 10, w ∈ lw_tbl ∧ goodWord w = true := by decide +kernel
theorem j_TS : ∀ w ∈ u_ws R_TS F_TS 10, w ∈ Om := fun w h => om_at (j_TS0 w h).1 (j_TS0 w h).2
def R_TF : String := "TourForms"
def F_TF : u_T := fun k => match k with
  | 0 => ("TourForms", "board", "LTourForms$Board;", true)
  | 1 => ("TourForms", "search", "LTourForms$TourSearch;", true)
  | 2 => ("TourForms", "queenSearch", "LTourForms$QueenSearch;", true)
  | 3 => ("TourForms", "rectangle", "LTourForms$Rectangle;", true)
  | _ => ("TourForms", "startCell", "I", false)
def t_TF : Nat → FieldType := fun k => match k with
  | 0 => .object "TourForms$Board"
  | 1 => .object "TourForms$TourSearch"
  | 2 => .object "TourForms$QueenSearch"
  | 3 => .object "TourForms$Rectangle"
  | _ => .int
theorem n_TF : ∀ a, a < 5 → ∀ b, b < 5 → a ≠ b → (F_TF a).2.1 ≠ (F_TF b).2.1 := by decide +kernel
theorem t_TF_ok : ∀ k, k < 5 → parseFieldDescriptor (F_TF k).2.2.1 = some (t_TF k) := by decide +kernel
theorem j_TF0 : ∀ w ∈ u_ws R_TF F_TF 5, w ∈ lw_tbl ∧ goodWord w = true := by decide +kernel
theorem j_TF : ∀ w ∈ u_ws R_TF F_TF 5, w ∈ Om := fun w h => om_at (j_TF0 w h).1 (j_TF0 w h).2
def R_MD : String := "TourFormsModel"
def F_MD : u_T := fun k => match k with
  | 0 => ("TourFormsModel", "width", "I", true)
  | 1 => ("TourFormsModel", "height", "I", true)
  | 2 => ("TourFormsModel", "cells", "I", true)
  | 3 => ("TourFormsModel", "numbers", "I", true)
  | 4 => ("TourFormsModel", "barred", "[Z", true)
  | 5 => ("TourFormsModel", "visited", "[Z", true)
  | 6 => ("TourFormsModel", "tour", "[I", true)
  | 7 => ("TourFormsModel", "begin", "I", false)
  | 8 => ("TourFormsModel", "tourLong", "I", false)
  | 9 => ("TourFormsModel", "steps", "I", false)
  | 10 => ("TourFormsModel", "thrown", "I", false)
  | 11 => ("TourFormsModel", "row", "[I", true)
  | 12 => ("TourFormsModel", "listed", "[I", true)
  | 13 => ("TourFormsModel", "givenAt", "[I", true)
  | 14 => ("TourFormsModel", "filled", "[I", true)
  | 15 => ("TourFormsModel", "found", "[I", true)
  | 16 => ("TourFormsModel", "may", "[I", true)
  | _ => ("TourFormsModel", "isFound", "Z", false)
def t_MD : Nat → FieldType := fun k => match k with
  | 0 => .int
  | 1 => .int
  | 2 => .int
  | 3 => .int
  | 4 => .array .boolean
  | 5 => .array .boolean
  | 6 => .array .int
  | 7 => .int
  | 8 => .int
  | 9 => .int
  | 10 => .int
  | 11 => .array .int
  | 12 => .array .int
  | 13 => .array .int
  | 14 => .array .int
  | 15 => .array .int
  | 16 => .array .int
  | _ => .boolean
theorem n_MD : ∀ a, a < 18 → ∀ b, b < 18 → a ≠ b → (F_MD a).2.1 ≠ (F_MD b).2.1 := by decide +kernel
theorem t_MD_ok : ∀ k, k < 18 → parseFieldDescriptor (F_MD k).2.2.1 = some (t_MD k) := by decide +kernel
theorem j_MD0 : ∀ w ∈ u_ws R_MD F_MD 18, w ∈ lw_tbl ∧ goodWord w = true := by decide +kernel
theorem j_MD : ∀ w ∈ u_ws R_MD F_MD 18, w ∈ Om := fun w h => om_at (j_MD0 w h).1 (j_MD0 w h).2
def R_LG : String := "java/lang/Long"
def R_IN : String := "java/lang/Integer"
def R_MT : String := "java/lang/Math"
abbrev classes : List vw_C := [(R_BD, F_BD, 4), (R_QS, F_QS, 5), (R_RC, F_RC, 15), (R_TS, F_TS, 10), (R_TF, F_TF, 5), (R_MD, F_MD, 18)]
end
section
abbrev b_TF_init : ByteArray := prog_1_method_1_code
def y_TF_init : MethodName := ⟨"TourForms", "<init>", "(II)V"⟩
abbrev b_TF_heldToSide : ByteArray := prog_1_method_15_code
def y_TF_heldToSide : MethodName := ⟨"TourForms", "heldToSide", "(I)I"⟩
abbrev b_MT_min : ByteArray := prog_10_method_69_code
def y_MT_min : MethodName := ⟨"java/lang/Math", "min", "(II)I"⟩
abbrev b_MT_max : ByteArray := prog_10_method_65_code
def y_MT_max : MethodName := ⟨"java/lang/Math", "max", "(II)I"⟩
abbrev b_BD_init : ByteArray := prog_2_method_1_code
def y_BD_init : MethodName := ⟨"TourForms$Board", "<init>", "(II)V"⟩
abbrev b_TS_init : ByteArray := prog_5_method_1_code
def y_TS_init : MethodName := ⟨"TourForms$TourSearch", "<init>", "(II)V"⟩
abbrev b_TS_reachesOn : ByteArray := prog_5_method_2_code
def y_TS_reachesOn : MethodName := ⟨"TourForms$TourSearch", "reachesOn", "(II)[J"⟩
abbrev b_TS_reachFrom : ByteArray := prog_5_method_3_code
def y_TS_reachFrom : MethodName := ⟨"TourForms$TourSearch", "reachFrom", "(IIIII)J"⟩
abbrev b_TS_goes : ByteArray := prog_5_method_4_code
def y_TS_goes : MethodName := ⟨"TourForms$TourSearch", "goes", "(II)Z"⟩
abbrev b_QS_init : ByteArray := prog_3_method_1_code
def y_QS_init : MethodName := ⟨"TourForms$QueenSearch", "<init>", "(II)V"⟩
abbrev b_RC_init : ByteArray := prog_4_method_1_code
def y_RC_init : MethodName := ⟨"TourForms$Rectangle", "<init>", "(II)V"⟩
abbrev b_TF_bar : ByteArray := prog_1_method_2_code
def y_TF_bar : MethodName := ⟨"TourForms", "bar", "(IIZ)Z"⟩
abbrev b_BD_cellAt : ByteArray := prog_2_method_2_code
def y_BD_cellAt : MethodName := ⟨"TourForms$Board", "cellAt", "(II)I"⟩
abbrev b_BD_isFree : ByteArray := prog_2_method_4_code
def y_BD_isFree : MethodName := ⟨"TourForms$Board", "isFree", "(I)Z"⟩
abbrev b_BD_hasCell : ByteArray := prog_2_method_3_code
def y_BD_hasCell : MethodName := ⟨"TourForms$Board", "hasCell", "(I)Z"⟩
abbrev b_BD_turnBar : ByteArray := prog_2_method_6_code
def y_BD_turnBar : MethodName := ⟨"TourForms$Board", "turnBar", "(I)V"⟩
abbrev b_TS_forget : ByteArray := prog_5_method_6_code
def y_TS_forget : MethodName := ⟨"TourForms$TourSearch", "forget", "()V"⟩
abbrev b_TF_start : ByteArray := prog_1_method_3_code
def y_TF_start : MethodName := ⟨"TourForms", "start", "(II)Z"⟩
abbrev b_TF_tour : ByteArray := prog_1_method_4_code
def y_TF_tour : MethodName := ⟨"TourForms", "tour", "(IZI)I"⟩
abbrev b_TF_isPiece : ByteArray := prog_1_method_16_code
def y_TF_isPiece : MethodName := ⟨"TourForms", "isPiece", "(I)Z"⟩
abbrev b_TS_giveUp : ByteArray := prog_5_method_7_code
def y_TS_giveUp : MethodName := ⟨"TourForms$TourSearch", "giveUp", "()V"⟩
abbrev b_BD_freeCells : ByteArray := prog_2_method_5_code
def y_BD_freeCells : MethodName := ⟨"TourForms$Board", "freeCells", "()J"⟩
abbrev b_TS_begin : ByteArray := prog_5_method_8_code
def y_TS_begin : MethodName := ⟨"TourForms$TourSearch", "begin", "(IIJ)V"⟩
abbrev b_TS_enter : ByteArray := prog_5_method_13_code
def y_TS_enter : MethodName := ⟨"TourForms$TourSearch", "enter", "(I)V"⟩
abbrev b_TS_listWaysOn : ByteArray := prog_5_method_16_code
def y_TS_listWaysOn : MethodName := ⟨"TourForms$TourSearch", "listWaysOn", "(II)I"⟩
abbrev b_TS_reach : ByteArray := prog_5_method_5_code
def y_TS_reach : MethodName := ⟨"TourForms$TourSearch", "reach", "(II)J"⟩
abbrev b_LG_bitCount : ByteArray := prog_9_method_50_code
def y_LG_bitCount : MethodName := ⟨"java/lang/Long", "bitCount", "(J)I"⟩
abbrev b_TS_insertWayOn : ByteArray := prog_5_method_17_code
def y_TS_insertWayOn : MethodName := ⟨"TourForms$TourSearch", "insertWayOn", "(III)V"⟩
abbrev b_TS_run : ByteArray := prog_5_method_9_code
def y_TS_run : MethodName := ⟨"TourForms$TourSearch", "run", "(ZI)I"⟩
abbrev b_TS_closes : ByteArray := prog_5_method_12_code
def y_TS_closes : MethodName := ⟨"TourForms$TourSearch", "closes", "()Z"⟩
abbrev b_TS_nextCell : ByteArray := prog_5_method_15_code
def y_TS_nextCell : MethodName := ⟨"TourForms$TourSearch", "nextCell", "()I"⟩
abbrev b_TS_goBack : ByteArray := prog_5_method_14_code
def y_TS_goBack : MethodName := ⟨"TourForms$TourSearch", "goBack", "()V"⟩
abbrev b_TF_at : ByteArray := prog_1_method_5_code
def y_TF_at : MethodName := ⟨"TourForms", "at", "(I)I"⟩
abbrev b_TS_cellOfTour : ByteArray := prog_5_method_10_code
def y_TS_cellOfTour : MethodName := ⟨"TourForms$TourSearch", "cellOfTour", "(I)I"⟩
abbrev b_TF_steps : ByteArray := prog_1_method_6_code
def y_TF_steps : MethodName := ⟨"TourForms", "steps", "()I"⟩
abbrev b_TS_stepsMade : ByteArray := prog_5_method_11_code
def y_TS_stepsMade : MethodName := ⟨"TourForms$TourSearch", "stepsMade", "()I"⟩
abbrev b_TF_ways : ByteArray := prog_1_method_7_code
def y_TF_ways : MethodName := ⟨"TourForms", "ways", "(II)I"⟩
abbrev b_TF_queens : ByteArray := prog_1_method_8_code
def y_TF_queens : MethodName := ⟨"TourForms", "queens", "()I"⟩
abbrev b_QS_countWays : ByteArray := prog_3_method_2_code
def y_QS_countWays : MethodName := ⟨"TourForms$QueenSearch", "countWays", "(J)I"⟩
abbrev b_QS_placeFrom : ByteArray := prog_3_method_4_code
def y_QS_placeFrom : MethodName := ⟨"TourForms$QueenSearch", "placeFrom", "(II)Z"⟩
abbrev b_QS_placeIn : ByteArray := prog_3_method_5_code
def y_QS_placeIn : MethodName := ⟨"TourForms$QueenSearch", "placeIn", "(II)Z"⟩
abbrev b_QS_canStand : ByteArray := prog_3_method_6_code
def y_QS_canStand : MethodName := ⟨"TourForms$QueenSearch", "canStand", "(II)Z"⟩
abbrev b_MT_abs : ByteArray := prog_10_method_59_code
def y_MT_abs : MethodName := ⟨"java/lang/Math", "abs", "(I)I"⟩
abbrev b_TF_queen : ByteArray := prog_1_method_9_code
def y_TF_queen : MethodName := ⟨"TourForms", "queen", "(II)I"⟩
abbrev b_QS_rowInWay : ByteArray := prog_3_method_3_code
def y_QS_rowInWay : MethodName := ⟨"TourForms$QueenSearch", "rowInWay", "(JII)I"⟩
abbrev b_TF_given : ByteArray := prog_1_method_10_code
def y_TF_given : MethodName := ⟨"TourForms", "given", "(III)Z"⟩
abbrev b_RC_allows : ByteArray := prog_4_method_2_code
def y_RC_allows : MethodName := ⟨"TourForms$Rectangle", "allows", "(I)Z"⟩
abbrev b_RC_give : ByteArray := prog_4_method_3_code
def y_RC_give : MethodName := ⟨"TourForms$Rectangle", "give", "(II)V"⟩
abbrev b_TF_fill : ByteArray := prog_1_method_11_code
def y_TF_fill : MethodName := ⟨"TourForms", "fill", "()Z"⟩
abbrev b_RC_findLeast : ByteArray := prog_4_method_6_code
def y_RC_findLeast : MethodName := ⟨"TourForms$Rectangle", "findLeast", "()Z"⟩
abbrev b_RC_layGiven : ByteArray := prog_4_method_8_code
def y_RC_layGiven : MethodName := ⟨"TourForms$Rectangle", "layGiven", "()Z"⟩
abbrev b_RC_choicesAt : ByteArray := prog_4_method_14_code
def y_RC_choicesAt : MethodName := ⟨"TourForms$Rectangle", "choicesAt", "(I)I"⟩
abbrev b_RC_put : ByteArray := prog_4_method_15_code
def y_RC_put : MethodName := ⟨"TourForms$Rectangle", "put", "(II)V"⟩
abbrev b_RC_countFrom : ByteArray := prog_4_method_9_code
def y_RC_countFrom : MethodName := ⟨"TourForms$Rectangle", "countFrom", "(II)I"⟩
abbrev b_RC_narrowestOpenCell : ByteArray := prog_4_method_11_code
def y_RC_narrowestOpenCell : MethodName := ⟨"TourForms$Rectangle", "narrowestOpenCell", "()I"⟩
abbrev b_IN_bitCount : ByteArray := prog_8_method_49_code
def y_IN_bitCount : MethodName := ⟨"java/lang/Integer", "bitCount", "(I)I"⟩
abbrev b_RC_someNumberLacksPlaces : ByteArray := prog_4_method_12_code
def y_RC_someNumberLacksPlaces : MethodName := ⟨"TourForms$Rectangle", "someNumberLacksPlaces", "()Z"⟩
abbrev b_RC_linesWith : ByteArray := prog_4_method_13_code
def y_RC_linesWith : MethodName := ⟨"TourForms$Rectangle", "linesWith", "([II)I"⟩
abbrev b_RC_countWith : ByteArray := prog_4_method_10_code
def y_RC_countWith : MethodName := ⟨"TourForms$Rectangle", "countWith", "(IIII)I"⟩
abbrev b_RC_take : ByteArray := prog_4_method_16_code
def y_RC_take : MethodName := ⟨"TourForms$Rectangle", "take", "(II)V"⟩
abbrev b_RC_settle : ByteArray := prog_4_method_7_code
def y_RC_settle : MethodName := ⟨"TourForms$Rectangle", "settle", "(I)V"⟩
abbrev b_TF_number : ByteArray := prog_1_method_12_code
def y_TF_number : MethodName := ⟨"TourForms", "number", "(II)I"⟩
abbrev b_RC_foundAt : ByteArray := prog_4_method_4_code
def y_RC_foundAt : MethodName := ⟨"TourForms$Rectangle", "foundAt", "(I)I"⟩
abbrev b_TF_fills : ByteArray := prog_1_method_13_code
def y_TF_fills : MethodName := ⟨"TourForms", "fills", "(I)I"⟩
abbrev b_RC_countUpTo : ByteArray := prog_4_method_5_code
def y_RC_countUpTo : MethodName := ⟨"TourForms$Rectangle", "countUpTo", "(I)I"⟩
abbrev b_TF_magic : ByteArray := prog_1_method_14_code
def y_TF_magic : MethodName := ⟨"TourForms", "magic", "(III)I"⟩
abbrev b_MT_floorMod : ByteArray := prog_10_method_50_code
def y_MT_floorMod : MethodName := ⟨"java/lang/Math", "floorMod", "(II)I"⟩
abbrev b_law_cell : ByteArray := method_2_code
def y_law_cell : MethodName := ⟨"TourFormsLaw", "cell", "([II)I"⟩
abbrev b_MD_init : ByteArray := prog_7_method_1_code
def y_MD_init : MethodName := ⟨"TourFormsModel", "<init>", "(II)V"⟩
abbrev b_MD_held : ByteArray := prog_7_method_3_code
def y_MD_held : MethodName := ⟨"TourFormsModel", "held", "(I)I"⟩
abbrev b_MD_bar : ByteArray := prog_7_method_5_code
def y_MD_bar : MethodName := ⟨"TourFormsModel", "bar", "(IIZ)Z"⟩
abbrev b_MD_isCell : ByteArray := prog_7_method_4_code
def y_MD_isCell : MethodName := ⟨"TourFormsModel", "isCell", "(II)Z"⟩
abbrev b_MD_start : ByteArray := prog_7_method_6_code
def y_MD_start : MethodName := ⟨"TourFormsModel", "start", "(II)Z"⟩
abbrev b_MD_tour : ByteArray := prog_7_method_13_code
def y_MD_tour : MethodName := ⟨"TourFormsModel", "tour", "(IZI)I"⟩
abbrev b_MD_search : ByteArray := prog_7_method_12_code
def y_MD_search : MethodName := ⟨"TourFormsModel", "search", "(IZI)I"⟩
abbrev b_MD_open : ByteArray := prog_7_method_11_code
def y_MD_open : MethodName := ⟨"TourFormsModel", "open", "()I"⟩
abbrev b_MD_goes : ByteArray := prog_7_method_8_code
def y_MD_goes : MethodName := ⟨"TourFormsModel", "goes", "(III)Z"⟩
abbrev b_MD_apart : ByteArray := prog_7_method_7_code
def y_MD_apart : MethodName := ⟨"TourFormsModel", "apart", "(II)I"⟩
abbrev b_MD_nextCell : ByteArray := prog_7_method_10_code
def y_MD_nextCell : MethodName := ⟨"TourFormsModel", "nextCell", "(III)I"⟩
abbrev b_MD_waysOn : ByteArray := prog_7_method_9_code
def y_MD_waysOn : MethodName := ⟨"TourFormsModel", "waysOn", "(II)I"⟩
abbrev b_MD_at : ByteArray := prog_7_method_14_code
def y_MD_at : MethodName := ⟨"TourFormsModel", "at", "(I)I"⟩
abbrev b_MD_steps : ByteArray := prog_7_method_15_code
def y_MD_steps : MethodName := ⟨"TourFormsModel", "steps", "()I"⟩
abbrev b_MD_ways : ByteArray := prog_7_method_16_code
def y_MD_ways : MethodName := ⟨"TourFormsModel", "ways", "(II)I"⟩
abbrev b_MD_queens : ByteArray := prog_7_method_19_code
def y_MD_queens : MethodName := ⟨"TourFormsModel", "queens", "()I"⟩
abbrev b_MD_goThrough : ByteArray := prog_7_method_18_code
def y_MD_goThrough : MethodName := ⟨"TourFormsModel", "goThrough", "(I)I"⟩
abbrev b_MD_stands : ByteArray := prog_7_method_17_code
def y_MD_stands : MethodName := ⟨"TourFormsModel", "stands", "(I)Z"⟩
abbrev b_MD_queen : ByteArray := prog_7_method_20_code
def y_MD_queen : MethodName := ⟨"TourFormsModel", "queen", "(II)I"⟩
abbrev b_MD_given : ByteArray := prog_7_method_21_code
def y_MD_given : MethodName := ⟨"TourFormsModel", "given", "(III)Z"⟩
abbrev b_MD_fill : ByteArray := prog_7_method_28_code
def y_MD_fill : MethodName := ⟨"TourFormsModel", "fill", "()Z"⟩
abbrev b_MD_fillThrough : ByteArray := prog_7_method_27_code
def y_MD_fillThrough : MethodName := ⟨"TourFormsModel", "fillThrough", "(IZ)I"⟩
abbrev b_MD_goesOn : ByteArray := prog_7_method_25_code
def y_MD_goesOn : MethodName := ⟨"TourFormsModel", "goesOn", "(I)Z"⟩
abbrev b_MD_free : ByteArray := prog_7_method_23_code
def y_MD_free : MethodName := ⟨"TourFormsModel", "free", "(II)I"⟩
abbrev b_MD_enough : ByteArray := prog_7_method_26_code
def y_MD_enough : MethodName := ⟨"TourFormsModel", "enough", "(IIII)Z"⟩
abbrev b_MD_bits : ByteArray := prog_7_method_24_code
def y_MD_bits : MethodName := ⟨"TourFormsModel", "bits", "(I)I"⟩
abbrev b_MD_fits : ByteArray := prog_7_method_22_code
def y_MD_fits : MethodName := ⟨"TourFormsModel", "fits", "(II)Z"⟩
abbrev b_MD_number : ByteArray := prog_7_method_29_code
def y_MD_number : MethodName := ⟨"TourFormsModel", "number", "(II)I"⟩
abbrev b_MD_fills : ByteArray := prog_7_method_30_code
def y_MD_fills : MethodName := ⟨"TourFormsModel", "fills", "(I)I"⟩
abbrev b_MD_magic : ByteArray := prog_7_method_31_code
def y_MD_magic : MethodName := ⟨"TourFormsModel", "magic", "(III)I"⟩
end
section
theorem d_TF_init_0 : decode b_TF_init 0 = .ok (.aload_n 0, 1) := by decide +kernel
theorem d_TF_init_1 : decode b_TF_init 1 = .ok (.invokespecial 1, 3) := by decide +kernel
theorem d_TF_init_4 : decode b_TF_init 4 = .ok (.iload_n 1, 1) := by decide +kernel
theorem d_TF_init_5 : decode b_TF_init 5 = .ok (.invokestatic 7, 3) := by decide +kernel
theorem d_TF_init_8 : decode b_TF_init 8 = .ok (.istore_n 3, 1) := by decide +kernel
theorem d_TF_init_9 : decode b_TF_init 9 = .ok (.iload_n 2, 1) := by decide +kernel
theorem d_TF_init_10 : decode b_TF_init 10 = .ok (.invokestatic 7, 3) := by decide +kernel
theorem d_TF_init_13 : decode b_TF_init 13 = .ok (.istore 4, 2) := by decide +kernel
theorem d_TF_init_15 : decode b_TF_init 15 = .ok (.aload_n 0, 1) := by decide +kernel
theorem d_TF_init_16 : decode b_TF_init 16 = .ok (.new 13, 3) := by decide +kernel
theorem d_TF_init_19 : decode b_TF_init 19 = .ok (.dup, 1) := by decide +kernel
theorem d_TF_init_20 : decode b_TF_init 20 = .ok (.iload_n 3, 1) := by decide +kernel
theorem d_TF_init_21 : decode b_TF_init 21 = .ok (.iload 4, 2) := by decide +kernel
theorem d_TF_init_23 : decode b_TF_init 23 = .ok (.invokespecial 15, 3) := by decide +kernel
theorem d_TF_init_26 : decode b_TF_init 26 = .ok (.putfield 18, 3) := by decide +kernel
theorem d_TF_init_29 : decode b_TF_init 29 = .ok (.aload_n 0, 1) := by decide +kernel
theorem d_TF_init_30 : decode b_TF_init 30 = .ok (.new 22, 3) := by decide +kernel
theorem d_TF_init_33 : decode b_TF_init 33 = .ok (.dup, 1) := by decide +kernel
theorem d_TF_init_34 : decode b_TF_init 34 = .ok (.iload_n 3, 1) := by decide +kernel
theorem d_TF_init_35 : decode b_TF_init 35 = .ok (.iload 4, 2) := by decide +kernel
theorem d_TF_init_37 : decode b_TF_init 37 = .ok (.invokespecial 24, 3) := by decide +kernel
theorem d_TF_init_40 : decode b_TF_init 40 = .ok (.putfield 25, 3) := by decide +kernel
theorem d_TF_init_43 : decode b_TF_init 43 = .ok (.aload_n 0, 1) := by decide +kernel
theorem d_TF_init_44 : decode b_TF_init 44 = .ok (.new 29, 3) := by decide +kernel
theorem d_TF_init_47 : decode b_TF_init 47 = .ok (.dup, 1) := by decide +kernel
theorem d_TF_init_48 : decode b_TF_init 48 = .ok (.iload_n 3, 1) := by decide +kernel
theorem d_TF_init_49 : decode b_TF_init 49 = .ok (.iload 4, 2) := by decide +kernel
theorem d_TF_init_51 : decode b_TF_init 51 = .ok (.invokespecial 31, 3) := by decide +kernel
theorem d_TF_init_54 : decode b_TF_init 54 = .ok (.putfield 32, 3) := by decide +kernel
theorem d_TF_init_57 : decode b_TF_init 57 = .ok (.aload_n 0, 1) := by decide +kernel
theorem d_TF_init_58 : decode b_TF_init 58 = .ok (.new 36, 3) := by decide +kernel
theorem d_TF_init_61 : decode b_TF_init 61 = .ok (.dup, 1) := by decide +kernel
theorem d_TF_init_62 : decode b_TF_init 62 = .ok (.iload_n 3, 1) := by decide +kernel
theorem d_TF_init_63 : decode b_TF_init 63 = .ok (.iload 4, 2) := by decide +kernel
theorem d_TF_init_65 : decode b_TF_init 65 = .ok (.invokespecial 38, 3) := by decide +kernel
theorem d_TF_init_68 : decode b_TF_init 68 = .ok (.putfield 39, 3) := by decide +kernel
theorem d_TF_init_71 : decode b_TF_init 71 = .ok (.aload_n 0, 1) := by decide +kernel
theorem d_TF_init_72 : decode b_TF_init 72 = .ok (.iconst 0, 1) := by decide +kernel
theorem d_TF_init_73 : decode b_TF_init 73 = .ok (.putfield 43, 3) := by decide +kernel
theorem d_TF_init_76 : decode b_TF_init 76 = .ok (.return_, 1) := by decide +kernel
theorem d_TF_heldToSide_0 : decode b_TF_heldToSide 0 = .ok (.iconst 1, 1) := by decide +kernel
theorem d_TF_heldToSide_1 : decode b_TF_heldToSide 1 = .ok (.bipush 6, 2) := by decide +kernel
theorem d_TF_heldToSide_3 : decode b_TF_heldToSide 3 = .ok (.iload_n 0, 1) := by decide +kernel
theorem d_TF_heldToSide_4 : decode b_TF_heldToSide 4 = .ok (.invokestatic 129, 3) := by decide +kernel
theorem d_TF_heldToSide_7 : decode b_TF_heldToSide 7 = .ok (.invokestatic 132, 3) := by decide +kernel
theorem d_TF_heldToSide_10 : decode b_TF_heldToSide 10 = .ok (.ireturn, 1) := by decide +kernel
theorem d_BD_init_0 : decode b_BD_init 0 = .ok (.aload_n 0, 1) := by decide +kernel
theorem d_BD_init_1 : decode b_BD_init 1 = .ok (.invokespecial 1, 3) := by decide +kernel
theorem d_BD_init_4 : decode b_BD_init 4 = .ok (.aload_n 0, 1) := by decide +kernel
theorem d_BD_init_5 : decode b_BD_init 5 = .ok (.iload_n 1, 1) := by decide +kernel
theorem d_BD_init_6 : decode b_BD_init 6 = .ok (.putfield 7, 3) := by decide +kernel
theorem d_BD_init_9 : decode b_BD_init 9 = .ok (.aload_n 0, 1) := by decide +kernel
theorem d_BD_init_10 : decode b_BD_init 10 = .ok (.iload_n 2, 1) := by decide +kernel
theorem d_BD_init_11 : decode b_BD_init 11 = .ok (.putfield 13, 3) := by decide +kernel
theorem d_BD_init_14 : decode b_BD_init 14 = .ok (.aload_n 0, 1) := by decide +kernel
theorem d_BD_init_15 : decode b_BD_init 15 = .ok (.iload_n 1, 1) := by decide +kernel
theorem d_BD_init_16 : decode b_BD_init 16 = .ok (.iload_n 2, 1) := by decide +kernel
theorem d_BD_init_17 : decode b_BD_init 17 = .ok (.imul, 1) := by decide +kernel
theorem d_BD_init_18 : decode b_BD_init 18 = .ok (.putfield 16, 3) := by decide +kernel
theorem d_BD_init_21 : decode b_BD_init 21 = .ok (.aload_n 0, 1) := by decide +kernel
theorem d_BD_init_22 : decode b_BD_init 22 = .ok (.lconst 1, 1) := by decide +kernel
theorem d_BD_init_23 : decode b_BD_init 23 = .ok (.aload_n 0, 1) := by decide +kernel
theorem d_BD_init_24 : decode b_BD_init 24 = .ok (.getfield 16, 3) := by decide +kernel
theorem d_BD_init_27 : decode b_BD_init 27 = .ok (.lshl, 1) := by decide +kernel
theorem d_BD_init_28 : decode b_BD_init 28 = .ok (.lconst 1, 1) := by decide +kernel
theorem d_BD_init_29 : decode b_BD_init 29 = .ok (.lsub, 1) := by decide +kernel
theorem d_BD_init_30 : decode b_BD_init 30 = .ok (.putfield 19, 3) := by decide +kernel
theorem d_BD_init_33 : decode b_BD_init 33 = .ok (.return_, 1) := by decide +kernel
theorem d_TS_init_0 : decode b_TS_init 0 = .ok (.aload_n 0, 1) := by decide +kernel
theorem d_TS_init_1 : decode b_TS_init 1 = .ok (.invokespecial 3, 3) := by decide +kernel
theorem d_TS_init_4 : decode b_TS_init 4 = .ok (.aload_n 0, 1) := by decide +kernel
theorem d_TS_init_5 : decode b_TS_init 5 = .ok (.bipush 36, 2) := by decide +kernel
theorem d_TS_init_7 : decode b_TS_init 7 = .ok (.newarray .int, 2) := by decide +kernel
theorem d_TS_init_9 : decode b_TS_init 9 = .ok (.putfield 9, 3) := by decide +kernel
theorem d_TS_init_12 : decode b_TS_init 12 = .ok (.aload_n 0, 1) := by decide +kernel
theorem d_TS_init_13 : decode b_TS_init 13 = .ok (.sipush 288, 3) := by decide +kernel
theorem d_TS_init_16 : decode b_TS_init 16 = .ok (.newarray .int, 2) := by decide +kernel
theorem d_TS_init_18 : decode b_TS_init 18 = .ok (.putfield 15, 3) := by decide +kernel
theorem d_TS_init_21 : decode b_TS_init 21 = .ok (.aload_n 0, 1) := by decide +kernel
theorem d_TS_init_22 : decode b_TS_init 22 = .ok (.bipush 36, 2) := by decide +kernel
theorem d_TS_init_24 : decode b_TS_init 24 = .ok (.newarray .int, 2) := by decide +kernel
theorem d_TS_init_26 : decode b_TS_init 26 = .ok (.putfield 18, 3) := by decide +kernel
theorem d_TS_init_29 : decode b_TS_init 29 = .ok (.aload_n 0, 1) := by decide +kernel
theorem d_TS_init_30 : decode b_TS_init 30 = .ok (.bipush 36, 2) := by decide +kernel
theorem d_TS_init_32 : decode b_TS_init 32 = .ok (.newarray .int, 2) := by decide +kernel
theorem d_TS_init_34 : decode b_TS_init 34 = .ok (.putfield 21, 3) := by decide +kernel
theorem d_TS_init_37 : decode b_TS_init 37 = .ok (.aload_n 0, 1) := by decide +kernel
theorem d_TS_init_38 : decode b_TS_init 38 = .ok (.iload_n 1, 1) := by decide +kernel
theorem d_TS_init_39 : decode b_TS_init 39 = .ok (.iload_n 2, 1) := by decide +kernel
theorem d_TS_init_40 : decode b_TS_init 40 = .ok (.invokestatic 24, 3) := by decide +kernel
theorem d_TS_init_43 : decode b_TS_init 43 = .ok (.putfield 28, 3) := by decide +kernel
theorem d_TS_init_46 : decode b_TS_init 46 = .ok (.return_, 1) := by decide +kernel
theorem d_TS_reachesOn_0 : decode b_TS_reachesOn 0 = .ok (.bipush 108, 2) := by decide +kernel
theorem d_TS_reachesOn_2 : decode b_TS_reachesOn 2 = .ok (.newarray .long, 2) := by decide +kernel
theorem d_TS_reachesOn_4 : decode b_TS_reachesOn 4 = .ok (.astore_n 2, 1) := by decide +kernel
theorem d_TS_reachesOn_5 : decode b_TS_reachesOn 5 = .ok (.iconst 0, 1) := by decide +kernel
theorem d_TS_reachesOn_6 : decode b_TS_reachesOn 6 = .ok (.istore_n 3, 1) := by decide +kernel
theorem d_TS_reachesOn_7 : decode b_TS_reachesOn 7 = .ok (.iload_n 3, 1) := by decide +kernel
theorem d_TS_reachesOn_8 : decode b_TS_reachesOn 8 = .ok (.iload_n 1, 1) := by decide +kernel
theorem d_TS_reachesOn_9 : decode b_TS_reachesOn 9 = .ok (.if_icmp .ge 76, 3) := by decide +kernel
theorem d_TS_reachesOn_12 : decode b_TS_reachesOn 12 = .ok (.iload_n 3, 1) := by decide +kernel
theorem d_TS_reachesOn_13 : decode b_TS_reachesOn 13 = .ok (.bipush 6, 2) := by decide +kernel
theorem d_TS_reachesOn_15 : decode b_TS_reachesOn 15 = .ok (.if_icmp .ge 70, 3) := by decide +kernel
theorem d_TS_reachesOn_18 : decode b_TS_reachesOn 18 = .ok (.iconst 0, 1) := by decide +kernel
theorem d_TS_reachesOn_19 : decode b_TS_reachesOn 19 = .ok (.istore 4, 2) := by decide +kernel
theorem d_TS_reachesOn_21 : decode b_TS_reachesOn 21 = .ok (.iload 4, 2) := by decide +kernel
theorem d_TS_reachesOn_23 : decode b_TS_reachesOn 23 = .ok (.iload_n 0, 1) := by decide +kernel
theorem d_TS_reachesOn_24 : decode b_TS_reachesOn 24 = .ok (.if_icmp .ge 55, 3) := by decide +kernel
theorem d_TS_reachesOn_27 : decode b_TS_reachesOn 27 = .ok (.iload 4, 2) := by decide +kernel
theorem d_TS_reachesOn_29 : decode b_TS_reachesOn 29 = .ok (.bipush 6, 2) := by decide +kernel
theorem d_TS_reachesOn_31 : decode b_TS_reachesOn 31 = .ok (.if_icmp .ge 48, 3) := by decide +kernel
theorem d_TS_reachesOn_34 : decode b_TS_reachesOn 34 = .ok (.iconst 0, 1) := by decide +kernel
theorem d_TS_reachesOn_35 : decode b_TS_reachesOn 35 = .ok (.istore 5, 2) := by decide +kernel
theorem d_TS_reachesOn_37 : decode b_TS_reachesOn 37 = .ok (.iload 5, 2) := by decide +kernel
theorem d_TS_reachesOn_39 : decode b_TS_reachesOn 39 = .ok (.iconst 3, 1) := by decide +kernel
theorem d_TS_reachesOn_40 : decode b_TS_reachesOn 40 = .ok (.if_icmp .ge 33, 3) := by decide +kernel
theorem d_TS_reachesOn_43 : decode b_TS_reachesOn 43 = .ok (.aload_n 2, 1) := by decide +kernel
theorem d_TS_reachesOn_44 : decode b_TS_reachesOn 44 = .ok (.iload 5, 2) := by decide +kernel
theorem d_TS_reachesOn_46 : decode b_TS_reachesOn 46 = .ok (.bipush 36, 2) := by decide +kernel
theorem d_TS_reachesOn_48 : decode b_TS_reachesOn 48 = .ok (.imul, 1) := by decide +kernel
theorem d_TS_reachesOn_49 : decode b_TS_reachesOn 49 = .ok (.iload 4, 2) := by decide +kernel
theorem d_TS_reachesOn_51 : decode b_TS_reachesOn 51 = .ok (.iadd, 1) := by decide +kernel
theorem d_TS_reachesOn_52 : decode b_TS_reachesOn 52 = .ok (.iload_n 0, 1) := by decide +kernel
theorem d_TS_reachesOn_53 : decode b_TS_reachesOn 53 = .ok (.iload_n 3, 1) := by decide +kernel
theorem d_TS_reachesOn_54 : decode b_TS_reachesOn 54 = .ok (.imul, 1) := by decide +kernel
theorem d_TS_reachesOn_55 : decode b_TS_reachesOn 55 = .ok (.iadd, 1) := by decide +kernel
theorem d_TS_reachesOn_56 : decode b_TS_reachesOn 56 = .ok (.iload 5, 2) := by decide +kernel
theorem d_TS_reachesOn_58 : decode b_TS_reachesOn 58 = .ok (.iload 4, 2) := by decide +kernel
theorem d_TS_reachesOn_60 : decode b_TS_reachesOn 60 = .ok (.iload_n 3, 1) := by decide +kernel
theorem d_TS_reachesOn_61 : decode b_TS_reachesOn 61 = .ok (.iload_n 0, 1) := by decide +kernel
theorem d_TS_reachesOn_62 : decode b_TS_reachesOn 62 = .ok (.iload_n 1, 1) := by decide +kernel
theorem d_TS_reachesOn_63 : decode b_TS_reachesOn 63 = .ok (.invokestatic 32, 3) := by decide +kernel
theorem d_TS_reachesOn_66 : decode b_TS_reachesOn 66 = .ok (.lastore, 1) := by decide +kernel
theorem d_TS_reachesOn_67 : decode b_TS_reachesOn 67 = .ok (.iinc 5 1, 3) := by decide +kernel
theorem d_TS_reachesOn_70 : decode b_TS_reachesOn 70 = .ok (.goto (-33), 3) := by decide +kernel
theorem d_TS_reachesOn_73 : decode b_TS_reachesOn 73 = .ok (.iinc 4 1, 3) := by decide +kernel
theorem d_TS_reachesOn_76 : decode b_TS_reachesOn 76 = .ok (.goto (-55), 3) := by decide +kernel
theorem d_TS_reachesOn_79 : decode b_TS_reachesOn 79 = .ok (.iinc 3 1, 3) := by decide +kernel
theorem d_TS_reachesOn_82 : decode b_TS_reachesOn 82 = .ok (.goto (-75), 3) := by decide +kernel
theorem d_TS_reachesOn_85 : decode b_TS_reachesOn 85 = .ok (.aload_n 2, 1) := by decide +kernel
theorem d_TS_reachesOn_86 : decode b_TS_reachesOn 86 = .ok (.areturn, 1) := by decide +kernel
theorem d_TS_reachFrom_0 : decode b_TS_reachFrom 0 = .ok (.lconst 0, 1) := by decide +kernel
theorem d_TS_reachFrom_1 : decode b_TS_reachFrom 1 = .ok (.lstore 5, 2) := by decide +kernel
theorem d_TS_reachFrom_3 : decode b_TS_reachFrom 3 = .ok (.iconst 0, 1) := by decide +kernel
theorem d_TS_reachFrom_4 : decode b_TS_reachFrom 4 = .ok (.iload_n 2, 1) := by decide +kernel
theorem d_TS_reachFrom_5 : decode b_TS_reachFrom 5 = .ok (.iconst 2, 1) := by decide +kernel
theorem d_TS_reachFrom_6 : decode b_TS_reachFrom 6 = .ok (.isub, 1) := by decide +kernel
theorem d_TS_reachFrom_7 : decode b_TS_reachFrom 7 = .ok (.invokestatic 36, 3) := by decide +kernel
theorem d_TS_reachFrom_10 : decode b_TS_reachFrom 10 = .ok (.istore 7, 2) := by decide +kernel
theorem d_TS_reachFrom_12 : decode b_TS_reachFrom 12 = .ok (.iload 7, 2) := by decide +kernel
theorem d_TS_reachFrom_14 : decode b_TS_reachFrom 14 = .ok (.iload_n 2, 1) := by decide +kernel
theorem d_TS_reachFrom_15 : decode b_TS_reachFrom 15 = .ok (.iconst 2, 1) := by decide +kernel
theorem d_TS_reachFrom_16 : decode b_TS_reachFrom 16 = .ok (.iadd, 1) := by decide +kernel
theorem d_TS_reachFrom_17 : decode b_TS_reachFrom 17 = .ok (.if_icmp .gt 85, 3) := by decide +kernel
theorem d_TS_reachFrom_20 : decode b_TS_reachFrom 20 = .ok (.iload 7, 2) := by decide +kernel
theorem d_TS_reachFrom_22 : decode b_TS_reachFrom 22 = .ok (.iload 4, 2) := by decide +kernel
theorem d_TS_reachFrom_24 : decode b_TS_reachFrom 24 = .ok (.if_icmp .ge 78, 3) := by decide +kernel
theorem d_TS_reachFrom_27 : decode b_TS_reachFrom 27 = .ok (.iconst 0, 1) := by decide +kernel
theorem d_TS_reachFrom_28 : decode b_TS_reachFrom 28 = .ok (.iload_n 1, 1) := by decide +kernel
theorem d_TS_reachFrom_29 : decode b_TS_reachFrom 29 = .ok (.iconst 2, 1) := by decide +kernel
theorem d_TS_reachFrom_30 : decode b_TS_reachFrom 30 = .ok (.isub, 1) := by decide +kernel
theorem d_TS_reachFrom_31 : decode b_TS_reachFrom 31 = .ok (.invokestatic 36, 3) := by decide +kernel
theorem d_TS_reachFrom_34 : decode b_TS_reachFrom 34 = .ok (.istore 8, 2) := by decide +kernel
theorem d_TS_reachFrom_36 : decode b_TS_reachFrom 36 = .ok (.iload 8, 2) := by decide +kernel
theorem d_TS_reachFrom_38 : decode b_TS_reachFrom 38 = .ok (.iload_n 1, 1) := by decide +kernel
theorem d_TS_reachFrom_39 : decode b_TS_reachFrom 39 = .ok (.iconst 2, 1) := by decide +kernel
theorem d_TS_reachFrom_40 : decode b_TS_reachFrom 40 = .ok (.iadd, 1) := by decide +kernel
theorem d_TS_reachFrom_41 : decode b_TS_reachFrom 41 = .ok (.if_icmp .gt 55, 3) := by decide +kernel
theorem d_TS_reachFrom_44 : decode b_TS_reachFrom 44 = .ok (.iload 8, 2) := by decide +kernel
theorem d_TS_reachFrom_46 : decode b_TS_reachFrom 46 = .ok (.iload_n 3, 1) := by decide +kernel
theorem d_TS_reachFrom_47 : decode b_TS_reachFrom 47 = .ok (.if_icmp .ge 49, 3) := by decide +kernel
theorem d_TS_reachFrom_50 : decode b_TS_reachFrom 50 = .ok (.iload_n 0, 1) := by decide +kernel
theorem d_TS_reachFrom_51 : decode b_TS_reachFrom 51 = .ok (.iload 8, 2) := by decide +kernel
theorem d_TS_reachFrom_53 : decode b_TS_reachFrom 53 = .ok (.iload_n 1, 1) := by decide +kernel
theorem d_TS_reachFrom_54 : decode b_TS_reachFrom 54 = .ok (.isub, 1) := by decide +kernel
theorem d_TS_reachFrom_55 : decode b_TS_reachFrom 55 = .ok (.iload 8, 2) := by decide +kernel
theorem d_TS_reachFrom_57 : decode b_TS_reachFrom 57 = .ok (.iload_n 1, 1) := by decide +kernel
theorem d_TS_reachFrom_58 : decode b_TS_reachFrom 58 = .ok (.isub, 1) := by decide +kernel
theorem d_TS_reachFrom_59 : decode b_TS_reachFrom 59 = .ok (.imul, 1) := by decide +kernel
theorem d_TS_reachFrom_60 : decode b_TS_reachFrom 60 = .ok (.iload 7, 2) := by decide +kernel
theorem d_TS_reachFrom_62 : decode b_TS_reachFrom 62 = .ok (.iload_n 2, 1) := by decide +kernel
theorem d_TS_reachFrom_63 : decode b_TS_reachFrom 63 = .ok (.isub, 1) := by decide +kernel
theorem d_TS_reachFrom_64 : decode b_TS_reachFrom 64 = .ok (.iload 7, 2) := by decide +kernel
theorem d_TS_reachFrom_66 : decode b_TS_reachFrom 66 = .ok (.iload_n 2, 1) := by decide +kernel
theorem d_TS_reachFrom_67 : decode b_TS_reachFrom 67 = .ok (.isub, 1) := by decide +kernel
theorem d_TS_reachFrom_68 : decode b_TS_reachFrom 68 = .ok (.imul, 1) := by decide +kernel
theorem d_TS_reachFrom_69 : decode b_TS_reachFrom 69 = .ok (.iadd, 1) := by decide +kernel
theorem d_TS_reachFrom_70 : decode b_TS_reachFrom 70 = .ok (.invokestatic 42, 3) := by decide +kernel
theorem d_TS_reachFrom_73 : decode b_TS_reachFrom 73 = .ok (.ifCond .eq 17, 3) := by decide +kernel
theorem d_TS_reachFrom_76 : decode b_TS_reachFrom 76 = .ok (.lload 5, 2) := by decide +kernel
theorem d_TS_reachFrom_78 : decode b_TS_reachFrom 78 = .ok (.lconst 1, 1) := by decide +kernel
theorem d_TS_reachFrom_79 : decode b_TS_reachFrom 79 = .ok (.iload 8, 2) := by decide +kernel
theorem d_TS_reachFrom_81 : decode b_TS_reachFrom 81 = .ok (.iload_n 3, 1) := by decide +kernel
theorem d_TS_reachFrom_82 : decode b_TS_reachFrom 82 = .ok (.iload 7, 2) := by decide +kernel
theorem d_TS_reachFrom_84 : decode b_TS_reachFrom 84 = .ok (.imul, 1) := by decide +kernel
theorem d_TS_reachFrom_85 : decode b_TS_reachFrom 85 = .ok (.iadd, 1) := by decide +kernel
theorem d_TS_reachFrom_86 : decode b_TS_reachFrom 86 = .ok (.lshl, 1) := by decide +kernel
theorem d_TS_reachFrom_87 : decode b_TS_reachFrom 87 = .ok (.lor, 1) := by decide +kernel
theorem d_TS_reachFrom_88 : decode b_TS_reachFrom 88 = .ok (.lstore 5, 2) := by decide +kernel
theorem d_TS_reachFrom_90 : decode b_TS_reachFrom 90 = .ok (.iinc 8 1, 3) := by decide +kernel
theorem d_TS_reachFrom_93 : decode b_TS_reachFrom 93 = .ok (.goto (-57), 3) := by decide +kernel
theorem d_TS_reachFrom_96 : decode b_TS_reachFrom 96 = .ok (.iinc 7 1, 3) := by decide +kernel
theorem d_TS_reachFrom_99 : decode b_TS_reachFrom 99 = .ok (.goto (-87), 3) := by decide +kernel
theorem d_TS_reachFrom_102 : decode b_TS_reachFrom 102 = .ok (.lload 5, 2) := by decide +kernel
theorem d_TS_reachFrom_104 : decode b_TS_reachFrom 104 = .ok (.lreturn, 1) := by decide +kernel
theorem d_TS_goes_0 : decode b_TS_goes 0 = .ok (.iload_n 0, 1) := by decide +kernel
theorem d_TS_goes_1 : decode b_TS_goes 1 = .ok (.ifCond .ne 14, 3) := by decide +kernel
theorem d_TS_goes_4 : decode b_TS_goes 4 = .ok (.iload_n 1, 1) := by decide +kernel
theorem d_TS_goes_5 : decode b_TS_goes 5 = .ok (.iconst 5, 1) := by decide +kernel
theorem d_TS_goes_6 : decode b_TS_goes 6 = .ok (.if_icmp .ne 7, 3) := by decide +kernel
theorem d_TS_goes_9 : decode b_TS_goes 9 = .ok (.iconst 1, 1) := by decide +kernel
theorem d_TS_goes_10 : decode b_TS_goes 10 = .ok (.goto 4, 3) := by decide +kernel
theorem d_TS_goes_13 : decode b_TS_goes 13 = .ok (.iconst 0, 1) := by decide +kernel
theorem d_TS_goes_14 : decode b_TS_goes 14 = .ok (.ireturn, 1) := by decide +kernel
theorem d_TS_goes_15 : decode b_TS_goes 15 = .ok (.iload_n 1, 1) := by decide +kernel
theorem d_TS_goes_16 : decode b_TS_goes 16 = .ok (.iconst 1, 1) := by decide +kernel
theorem d_TS_goes_17 : decode b_TS_goes 17 = .ok (.if_icmp .eq 13, 3) := by decide +kernel
theorem d_TS_goes_20 : decode b_TS_goes 20 = .ok (.iload_n 0, 1) := by decide +kernel
theorem d_TS_goes_21 : decode b_TS_goes 21 = .ok (.iconst 1, 1) := by decide +kernel
theorem d_TS_goes_22 : decode b_TS_goes 22 = .ok (.if_icmp .ne 12, 3) := by decide +kernel
theorem d_TS_goes_25 : decode b_TS_goes 25 = .ok (.iload_n 1, 1) := by decide +kernel
theorem d_TS_goes_26 : decode b_TS_goes 26 = .ok (.iconst 2, 1) := by decide +kernel
theorem d_TS_goes_27 : decode b_TS_goes 27 = .ok (.if_icmp .ne 7, 3) := by decide +kernel
theorem d_TS_goes_30 : decode b_TS_goes 30 = .ok (.iconst 1, 1) := by decide +kernel
theorem d_TS_goes_31 : decode b_TS_goes 31 = .ok (.goto 4, 3) := by decide +kernel
theorem d_TS_goes_34 : decode b_TS_goes 34 = .ok (.iconst 0, 1) := by decide +kernel
theorem d_TS_goes_35 : decode b_TS_goes 35 = .ok (.ireturn, 1) := by decide +kernel
theorem d_QS_init_0 : decode b_QS_init 0 = .ok (.aload_n 0, 1) := by decide +kernel
theorem d_QS_init_1 : decode b_QS_init 1 = .ok (.invokespecial 3, 3) := by decide +kernel
theorem d_QS_init_4 : decode b_QS_init 4 = .ok (.aload_n 0, 1) := by decide +kernel
theorem d_QS_init_5 : decode b_QS_init 5 = .ok (.bipush 6, 2) := by decide +kernel
theorem d_QS_init_7 : decode b_QS_init 7 = .ok (.newarray .int, 2) := by decide +kernel
theorem d_QS_init_9 : decode b_QS_init 9 = .ok (.putfield 9, 3) := by decide +kernel
theorem d_QS_init_12 : decode b_QS_init 12 = .ok (.aload_n 0, 1) := by decide +kernel
theorem d_QS_init_13 : decode b_QS_init 13 = .ok (.bipush 6, 2) := by decide +kernel
theorem d_QS_init_15 : decode b_QS_init 15 = .ok (.iload_n 1, 1) := by decide +kernel
theorem d_QS_init_16 : decode b_QS_init 16 = .ok (.invokestatic 15, 3) := by decide +kernel
theorem d_QS_init_19 : decode b_QS_init 19 = .ok (.putfield 21, 3) := by decide +kernel
theorem d_QS_init_22 : decode b_QS_init 22 = .ok (.aload_n 0, 1) := by decide +kernel
theorem d_QS_init_23 : decode b_QS_init 23 = .ok (.bipush 6, 2) := by decide +kernel
theorem d_QS_init_25 : decode b_QS_init 25 = .ok (.iload_n 2, 1) := by decide +kernel
theorem d_QS_init_26 : decode b_QS_init 26 = .ok (.invokestatic 15, 3) := by decide +kernel
theorem d_QS_init_29 : decode b_QS_init 29 = .ok (.putfield 25, 3) := by decide +kernel
theorem d_QS_init_32 : decode b_QS_init 32 = .ok (.return_, 1) := by decide +kernel
theorem d_RC_init_0 : decode b_RC_init 0 = .ok (.aload_n 0, 1) := by decide +kernel
theorem d_RC_init_1 : decode b_RC_init 1 = .ok (.invokespecial 3, 3) := by decide +kernel
theorem d_RC_init_4 : decode b_RC_init 4 = .ok (.aload_n 0, 1) := by decide +kernel
theorem d_RC_init_5 : decode b_RC_init 5 = .ok (.bipush 36, 2) := by decide +kernel
theorem d_RC_init_7 : decode b_RC_init 7 = .ok (.newarray .int, 2) := by decide +kernel
theorem d_RC_init_9 : decode b_RC_init 9 = .ok (.putfield 9, 3) := by decide +kernel
theorem d_RC_init_12 : decode b_RC_init 12 = .ok (.aload_n 0, 1) := by decide +kernel
theorem d_RC_init_13 : decode b_RC_init 13 = .ok (.bipush 36, 2) := by decide +kernel
theorem d_RC_init_15 : decode b_RC_init 15 = .ok (.newarray .int, 2) := by decide +kernel
theorem d_RC_init_17 : decode b_RC_init 17 = .ok (.putfield 15, 3) := by decide +kernel
theorem d_RC_init_20 : decode b_RC_init 20 = .ok (.aload_n 0, 1) := by decide +kernel
theorem d_RC_init_21 : decode b_RC_init 21 = .ok (.bipush 36, 2) := by decide +kernel
theorem d_RC_init_23 : decode b_RC_init 23 = .ok (.newarray .int, 2) := by decide +kernel
theorem d_RC_init_25 : decode b_RC_init 25 = .ok (.putfield 18, 3) := by decide +kernel
theorem d_RC_init_28 : decode b_RC_init 28 = .ok (.aload_n 0, 1) := by decide +kernel
theorem d_RC_init_29 : decode b_RC_init 29 = .ok (.bipush 36, 2) := by decide +kernel
theorem d_RC_init_31 : decode b_RC_init 31 = .ok (.newarray .int, 2) := by decide +kernel
theorem d_RC_init_33 : decode b_RC_init 33 = .ok (.putfield 21, 3) := by decide +kernel
theorem d_RC_init_36 : decode b_RC_init 36 = .ok (.aload_n 0, 1) := by decide +kernel
theorem d_RC_init_37 : decode b_RC_init 37 = .ok (.bipush 36, 2) := by decide +kernel
theorem d_RC_init_39 : decode b_RC_init 39 = .ok (.newarray .int, 2) := by decide +kernel
theorem d_RC_init_41 : decode b_RC_init 41 = .ok (.putfield 24, 3) := by decide +kernel
theorem d_RC_init_44 : decode b_RC_init 44 = .ok (.aload_n 0, 1) := by decide +kernel
theorem d_RC_init_45 : decode b_RC_init 45 = .ok (.bipush 36, 2) := by decide +kernel
theorem d_RC_init_47 : decode b_RC_init 47 = .ok (.newarray .int, 2) := by decide +kernel
theorem d_RC_init_49 : decode b_RC_init 49 = .ok (.putfield 27, 3) := by decide +kernel
theorem d_RC_init_52 : decode b_RC_init 52 = .ok (.aload_n 0, 1) := by decide +kernel
theorem d_RC_init_53 : decode b_RC_init 53 = .ok (.bipush 6, 2) := by decide +kernel
theorem d_RC_init_55 : decode b_RC_init 55 = .ok (.newarray .int, 2) := by decide +kernel
theorem d_RC_init_57 : decode b_RC_init 57 = .ok (.putfield 30, 3) := by decide +kernel
theorem d_RC_init_60 : decode b_RC_init 60 = .ok (.aload_n 0, 1) := by decide +kernel
theorem d_RC_init_61 : decode b_RC_init 61 = .ok (.bipush 6, 2) := by decide +kernel
theorem d_RC_init_63 : decode b_RC_init 63 = .ok (.newarray .int, 2) := by decide +kernel
theorem d_RC_init_65 : decode b_RC_init 65 = .ok (.putfield 33, 3) := by decide +kernel
theorem d_RC_init_68 : decode b_RC_init 68 = .ok (.aload_n 0, 1) := by decide +kernel
theorem d_RC_init_69 : decode b_RC_init 69 = .ok (.bipush 6, 2) := by decide +kernel
theorem d_RC_init_71 : decode b_RC_init 71 = .ok (.newarray .int, 2) := by decide +kernel
theorem d_RC_init_73 : decode b_RC_init 73 = .ok (.putfield 36, 3) := by decide +kernel
theorem d_RC_init_76 : decode b_RC_init 76 = .ok (.aload_n 0, 1) := by decide +kernel
theorem d_RC_init_77 : decode b_RC_init 77 = .ok (.bipush 6, 2) := by decide +kernel
theorem d_RC_init_79 : decode b_RC_init 79 = .ok (.newarray .int, 2) := by decide +kernel
theorem d_RC_init_81 : decode b_RC_init 81 = .ok (.putfield 39, 3) := by decide +kernel
theorem d_RC_init_84 : decode b_RC_init 84 = .ok (.aload_n 0, 1) := by decide +kernel
theorem d_RC_init_85 : decode b_RC_init 85 = .ok (.bipush 36, 2) := by decide +kernel
theorem d_RC_init_87 : decode b_RC_init 87 = .ok (.iload_n 1, 1) := by decide +kernel
theorem d_RC_init_88 : decode b_RC_init 88 = .ok (.iload_n 2, 1) := by decide +kernel
theorem d_RC_init_89 : decode b_RC_init 89 = .ok (.imul, 1) := by decide +kernel
theorem d_RC_init_90 : decode b_RC_init 90 = .ok (.invokestatic 42, 3) := by decide +kernel
theorem d_RC_init_93 : decode b_RC_init 93 = .ok (.putfield 48, 3) := by decide +kernel
theorem d_RC_init_96 : decode b_RC_init 96 = .ok (.aload_n 0, 1) := by decide +kernel
theorem d_RC_init_97 : decode b_RC_init 97 = .ok (.iload_n 1, 1) := by decide +kernel
theorem d_RC_init_98 : decode b_RC_init 98 = .ok (.iload_n 2, 1) := by decide +kernel
theorem d_RC_init_99 : decode b_RC_init 99 = .ok (.invokestatic 52, 3) := by decide +kernel
theorem d_RC_init_102 : decode b_RC_init 102 = .ok (.putfield 55, 3) := by decide +kernel
theorem d_RC_init_105 : decode b_RC_init 105 = .ok (.aload_n 0, 1) := by decide +kernel
theorem d_RC_init_106 : decode b_RC_init 106 = .ok (.iload_n 1, 1) := by decide +kernel
theorem d_RC_init_107 : decode b_RC_init 107 = .ok (.iload_n 2, 1) := by decide +kernel
theorem d_RC_init_108 : decode b_RC_init 108 = .ok (.invokestatic 42, 3) := by decide +kernel
theorem d_RC_init_111 : decode b_RC_init 111 = .ok (.putfield 58, 3) := by decide +kernel
theorem d_RC_init_114 : decode b_RC_init 114 = .ok (.aload_n 0, 1) := by decide +kernel
theorem d_RC_init_115 : decode b_RC_init 115 = .ok (.iconst 2, 1) := by decide +kernel
theorem d_RC_init_116 : decode b_RC_init 116 = .ok (.aload_n 0, 1) := by decide +kernel
theorem d_RC_init_117 : decode b_RC_init 117 = .ok (.getfield 55, 3) := by decide +kernel
theorem d_RC_init_120 : decode b_RC_init 120 = .ok (.ishl, 1) := by decide +kernel
theorem d_RC_init_121 : decode b_RC_init 121 = .ok (.iconst 2, 1) := by decide +kernel
theorem d_RC_init_122 : decode b_RC_init 122 = .ok (.isub, 1) := by decide +kernel
theorem d_RC_init_123 : decode b_RC_init 123 = .ok (.putfield 61, 3) := by decide +kernel
theorem d_RC_init_126 : decode b_RC_init 126 = .ok (.iconst 0, 1) := by decide +kernel
theorem d_RC_init_127 : decode b_RC_init 127 = .ok (.istore_n 3, 1) := by decide +kernel
theorem d_RC_init_128 : decode b_RC_init 128 = .ok (.iload_n 3, 1) := by decide +kernel
theorem d_RC_init_129 : decode b_RC_init 129 = .ok (.iload_n 2, 1) := by decide +kernel
theorem d_RC_init_130 : decode b_RC_init 130 = .ok (.if_icmp .ge 62, 3) := by decide +kernel
theorem d_RC_init_133 : decode b_RC_init 133 = .ok (.iload_n 3, 1) := by decide +kernel
theorem d_RC_init_134 : decode b_RC_init 134 = .ok (.bipush 6, 2) := by decide +kernel
theorem d_RC_init_136 : decode b_RC_init 136 = .ok (.if_icmp .ge 56, 3) := by decide +kernel
theorem d_RC_init_139 : decode b_RC_init 139 = .ok (.iconst 0, 1) := by decide +kernel
theorem d_RC_init_140 : decode b_RC_init 140 = .ok (.istore 4, 2) := by decide +kernel
theorem d_RC_init_142 : decode b_RC_init 142 = .ok (.iload 4, 2) := by decide +kernel
theorem d_RC_init_144 : decode b_RC_init 144 = .ok (.iload_n 1, 1) := by decide +kernel
theorem d_RC_init_145 : decode b_RC_init 145 = .ok (.if_icmp .ge 41, 3) := by decide +kernel
theorem d_RC_init_148 : decode b_RC_init 148 = .ok (.iload 4, 2) := by decide +kernel
theorem d_RC_init_150 : decode b_RC_init 150 = .ok (.bipush 6, 2) := by decide +kernel
theorem d_RC_init_152 : decode b_RC_init 152 = .ok (.if_icmp .ge 34, 3) := by decide +kernel
theorem d_RC_init_155 : decode b_RC_init 155 = .ok (.aload_n 0, 1) := by decide +kernel
theorem d_RC_init_156 : decode b_RC_init 156 = .ok (.getfield 24, 3) := by decide +kernel
theorem d_RC_init_159 : decode b_RC_init 159 = .ok (.iload 4, 2) := by decide +kernel
theorem d_RC_init_161 : decode b_RC_init 161 = .ok (.iload_n 1, 1) := by decide +kernel
theorem d_RC_init_162 : decode b_RC_init 162 = .ok (.iload_n 3, 1) := by decide +kernel
theorem d_RC_init_163 : decode b_RC_init 163 = .ok (.imul, 1) := by decide +kernel
theorem d_RC_init_164 : decode b_RC_init 164 = .ok (.iadd, 1) := by decide +kernel
theorem d_RC_init_165 : decode b_RC_init 165 = .ok (.iload 4, 2) := by decide +kernel
theorem d_RC_init_167 : decode b_RC_init 167 = .ok (.iastore, 1) := by decide +kernel
theorem d_RC_init_168 : decode b_RC_init 168 = .ok (.aload_n 0, 1) := by decide +kernel
theorem d_RC_init_169 : decode b_RC_init 169 = .ok (.getfield 27, 3) := by decide +kernel
theorem d_RC_init_172 : decode b_RC_init 172 = .ok (.iload 4, 2) := by decide +kernel
theorem d_RC_init_174 : decode b_RC_init 174 = .ok (.iload_n 1, 1) := by decide +kernel
theorem d_RC_init_175 : decode b_RC_init 175 = .ok (.iload_n 3, 1) := by decide +kernel
theorem d_RC_init_176 : decode b_RC_init 176 = .ok (.imul, 1) := by decide +kernel
theorem d_RC_init_177 : decode b_RC_init 177 = .ok (.iadd, 1) := by decide +kernel
theorem d_RC_init_178 : decode b_RC_init 178 = .ok (.iload_n 3, 1) := by decide +kernel
theorem d_RC_init_179 : decode b_RC_init 179 = .ok (.iastore, 1) := by decide +kernel
theorem d_RC_init_180 : decode b_RC_init 180 = .ok (.iinc 4 1, 3) := by decide +kernel
theorem d_RC_init_183 : decode b_RC_init 183 = .ok (.goto (-41), 3) := by decide +kernel
theorem d_RC_init_186 : decode b_RC_init 186 = .ok (.iinc 3 1, 3) := by decide +kernel
theorem d_RC_init_189 : decode b_RC_init 189 = .ok (.goto (-61), 3) := by decide +kernel
theorem d_RC_init_192 : decode b_RC_init 192 = .ok (.return_, 1) := by decide +kernel
theorem d_TF_bar_0 : decode b_TF_bar 0 = .ok (.aload_n 0, 1) := by decide +kernel
theorem d_TF_bar_1 : decode b_TF_bar 1 = .ok (.getfield 18, 3) := by decide +kernel
theorem d_TF_bar_4 : decode b_TF_bar 4 = .ok (.iload_n 1, 1) := by decide +kernel
theorem d_TF_bar_5 : decode b_TF_bar 5 = .ok (.iload_n 2, 1) := by decide +kernel
theorem d_TF_bar_6 : decode b_TF_bar 6 = .ok (.invokevirtual 47, 3) := by decide +kernel
theorem d_TF_bar_9 : decode b_TF_bar 9 = .ok (.istore 4, 2) := by decide +kernel
theorem d_TF_bar_11 : decode b_TF_bar 11 = .ok (.iload 4, 2) := by decide +kernel
theorem d_TF_bar_13 : decode b_TF_bar 13 = .ok (.ifCond .lt 16, 3) := by decide +kernel
theorem d_TF_bar_16 : decode b_TF_bar 16 = .ok (.aload_n 0, 1) := by decide +kernel
theorem d_TF_bar_17 : decode b_TF_bar 17 = .ok (.getfield 18, 3) := by decide +kernel
theorem d_TF_bar_20 : decode b_TF_bar 20 = .ok (.iload 4, 2) := by decide +kernel
theorem d_TF_bar_22 : decode b_TF_bar 22 = .ok (.invokevirtual 51, 3) := by decide +kernel
theorem d_TF_bar_25 : decode b_TF_bar 25 = .ok (.iload_n 3, 1) := by decide +kernel
theorem d_TF_bar_26 : decode b_TF_bar 26 = .ok (.if_icmp .eq 5, 3) := by decide +kernel
theorem d_TF_bar_29 : decode b_TF_bar 29 = .ok (.iconst 0, 1) := by decide +kernel
theorem d_TF_bar_30 : decode b_TF_bar 30 = .ok (.ireturn, 1) := by decide +kernel
theorem d_TF_bar_31 : decode b_TF_bar 31 = .ok (.aload_n 0, 1) := by decide +kernel
theorem d_TF_bar_32 : decode b_TF_bar 32 = .ok (.getfield 18, 3) := by decide +kernel
theorem d_TF_bar_35 : decode b_TF_bar 35 = .ok (.iload 4, 2) := by decide +kernel
theorem d_TF_bar_37 : decode b_TF_bar 37 = .ok (.invokevirtual 55, 3) := by decide +kernel
theorem d_TF_bar_40 : decode b_TF_bar 40 = .ok (.aload_n 0, 1) := by decide +kernel
theorem d_TF_bar_41 : decode b_TF_bar 41 = .ok (.getfield 25, 3) := by decide +kernel
theorem d_TF_bar_44 : decode b_TF_bar 44 = .ok (.invokevirtual 59, 3) := by decide +kernel
theorem d_TF_bar_47 : decode b_TF_bar 47 = .ok (.iconst 1, 1) := by decide +kernel
theorem d_TF_bar_48 : decode b_TF_bar 48 = .ok (.ireturn, 1) := by decide +kernel
theorem d_BD_cellAt_0 : decode b_BD_cellAt 0 = .ok (.iload_n 1, 1) := by decide +kernel
theorem d_BD_cellAt_1 : decode b_BD_cellAt 1 = .ok (.ifCond .lt 23, 3) := by decide +kernel
theorem d_BD_cellAt_4 : decode b_BD_cellAt 4 = .ok (.iload_n 1, 1) := by decide +kernel
theorem d_BD_cellAt_5 : decode b_BD_cellAt 5 = .ok (.aload_n 0, 1) := by decide +kernel
theorem d_BD_cellAt_6 : decode b_BD_cellAt 6 = .ok (.getfield 7, 3) := by decide +kernel
theorem d_BD_cellAt_9 : decode b_BD_cellAt 9 = .ok (.if_icmp .ge 15, 3) := by decide +kernel
theorem d_BD_cellAt_12 : decode b_BD_cellAt 12 = .ok (.iload_n 2, 1) := by decide +kernel
theorem d_BD_cellAt_13 : decode b_BD_cellAt 13 = .ok (.ifCond .lt 11, 3) := by decide +kernel
theorem d_BD_cellAt_16 : decode b_BD_cellAt 16 = .ok (.iload_n 2, 1) := by decide +kernel
theorem d_BD_cellAt_17 : decode b_BD_cellAt 17 = .ok (.aload_n 0, 1) := by decide +kernel
theorem d_BD_cellAt_18 : decode b_BD_cellAt 18 = .ok (.getfield 13, 3) := by decide +kernel
theorem d_BD_cellAt_21 : decode b_BD_cellAt 21 = .ok (.if_icmp .lt 7, 3) := by decide +kernel
theorem d_BD_cellAt_24 : decode b_BD_cellAt 24 = .ok (.iconst (-1), 1) := by decide +kernel
theorem d_BD_cellAt_25 : decode b_BD_cellAt 25 = .ok (.goto 11, 3) := by decide +kernel
theorem d_BD_cellAt_28 : decode b_BD_cellAt 28 = .ok (.iload_n 1, 1) := by decide +kernel
theorem d_BD_cellAt_29 : decode b_BD_cellAt 29 = .ok (.aload_n 0, 1) := by decide +kernel
theorem d_BD_cellAt_30 : decode b_BD_cellAt 30 = .ok (.getfield 7, 3) := by decide +kernel
theorem d_BD_cellAt_33 : decode b_BD_cellAt 33 = .ok (.iload_n 2, 1) := by decide +kernel
theorem d_BD_cellAt_34 : decode b_BD_cellAt 34 = .ok (.imul, 1) := by decide +kernel
theorem d_BD_cellAt_35 : decode b_BD_cellAt 35 = .ok (.iadd, 1) := by decide +kernel
theorem d_BD_cellAt_36 : decode b_BD_cellAt 36 = .ok (.ireturn, 1) := by decide +kernel
theorem d_BD_isFree_0 : decode b_BD_isFree 0 = .ok (.aload_n 0, 1) := by decide +kernel
theorem d_BD_isFree_1 : decode b_BD_isFree 1 = .ok (.iload_n 1, 1) := by decide +kernel
theorem d_BD_isFree_2 : decode b_BD_isFree 2 = .ok (.invokevirtual 23, 3) := by decide +kernel
theorem d_BD_isFree_5 : decode b_BD_isFree 5 = .ok (.ifCond .eq 20, 3) := by decide +kernel
theorem d_BD_isFree_8 : decode b_BD_isFree 8 = .ok (.aload_n 0, 1) := by decide +kernel
theorem d_BD_isFree_9 : decode b_BD_isFree 9 = .ok (.getfield 19, 3) := by decide +kernel
theorem d_BD_isFree_12 : decode b_BD_isFree 12 = .ok (.iload_n 1, 1) := by decide +kernel
theorem d_BD_isFree_13 : decode b_BD_isFree 13 = .ok (.lushr, 1) := by decide +kernel
theorem d_BD_isFree_14 : decode b_BD_isFree 14 = .ok (.lconst 1, 1) := by decide +kernel
theorem d_BD_isFree_15 : decode b_BD_isFree 15 = .ok (.land, 1) := by decide +kernel
theorem d_BD_isFree_16 : decode b_BD_isFree 16 = .ok (.lconst 0, 1) := by decide +kernel
theorem d_BD_isFree_17 : decode b_BD_isFree 17 = .ok (.lcmp, 1) := by decide +kernel
theorem d_BD_isFree_18 : decode b_BD_isFree 18 = .ok (.ifCond .eq 7, 3) := by decide +kernel
theorem d_BD_isFree_21 : decode b_BD_isFree 21 = .ok (.iconst 1, 1) := by decide +kernel
theorem d_BD_isFree_22 : decode b_BD_isFree 22 = .ok (.goto 4, 3) := by decide +kernel
theorem d_BD_isFree_25 : decode b_BD_isFree 25 = .ok (.iconst 0, 1) := by decide +kernel
theorem d_BD_isFree_26 : decode b_BD_isFree 26 = .ok (.ireturn, 1) := by decide +kernel
theorem d_BD_hasCell_0 : decode b_BD_hasCell 0 = .ok (.iload_n 1, 1) := by decide +kernel
theorem d_BD_hasCell_1 : decode b_BD_hasCell 1 = .ok (.ifCond .lt 15, 3) := by decide +kernel
theorem d_BD_hasCell_4 : decode b_BD_hasCell 4 = .ok (.iload_n 1, 1) := by decide +kernel
theorem d_BD_hasCell_5 : decode b_BD_hasCell 5 = .ok (.aload_n 0, 1) := by decide +kernel
theorem d_BD_hasCell_6 : decode b_BD_hasCell 6 = .ok (.getfield 16, 3) := by decide +kernel
theorem d_BD_hasCell_9 : decode b_BD_hasCell 9 = .ok (.if_icmp .ge 7, 3) := by decide +kernel
theorem d_BD_hasCell_12 : decode b_BD_hasCell 12 = .ok (.iconst 1, 1) := by decide +kernel
theorem d_BD_hasCell_13 : decode b_BD_hasCell 13 = .ok (.goto 4, 3) := by decide +kernel
theorem d_BD_hasCell_16 : decode b_BD_hasCell 16 = .ok (.iconst 0, 1) := by decide +kernel
theorem d_BD_hasCell_17 : decode b_BD_hasCell 17 = .ok (.ireturn, 1) := by decide +kernel
theorem d_BD_turnBar_0 : decode b_BD_turnBar 0 = .ok (.aload_n 0, 1) := by decide +kernel
theorem d_BD_turnBar_1 : decode b_BD_turnBar 1 = .ok (.iload_n 1, 1) := by decide +kernel
theorem d_BD_turnBar_2 : decode b_BD_turnBar 2 = .ok (.invokevirtual 23, 3) := by decide +kernel
theorem d_BD_turnBar_5 : decode b_BD_turnBar 5 = .ok (.ifCond .eq 15, 3) := by decide +kernel
theorem d_BD_turnBar_8 : decode b_BD_turnBar 8 = .ok (.aload_n 0, 1) := by decide +kernel
theorem d_BD_turnBar_9 : decode b_BD_turnBar 9 = .ok (.dup, 1) := by decide +kernel
theorem d_BD_turnBar_10 : decode b_BD_turnBar 10 = .ok (.getfield 19, 3) := by decide +kernel
theorem d_BD_turnBar_13 : decode b_BD_turnBar 13 = .ok (.lconst 1, 1) := by decide +kernel
theorem d_BD_turnBar_14 : decode b_BD_turnBar 14 = .ok (.iload_n 1, 1) := by decide +kernel
theorem d_BD_turnBar_15 : decode b_BD_turnBar 15 = .ok (.lshl, 1) := by decide +kernel
theorem d_BD_turnBar_16 : decode b_BD_turnBar 16 = .ok (.lxor, 1) := by decide +kernel
theorem d_BD_turnBar_17 : decode b_BD_turnBar 17 = .ok (.putfield 19, 3) := by decide +kernel
theorem d_BD_turnBar_20 : decode b_BD_turnBar 20 = .ok (.return_, 1) := by decide +kernel
theorem d_TS_forget_0 : decode b_TS_forget 0 = .ok (.aload_n 0, 1) := by decide +kernel
theorem d_TS_forget_1 : decode b_TS_forget 1 = .ok (.iconst 0, 1) := by decide +kernel
theorem d_TS_forget_2 : decode b_TS_forget 2 = .ok (.putfield 50, 3) := by decide +kernel
theorem d_TS_forget_5 : decode b_TS_forget 5 = .ok (.return_, 1) := by decide +kernel
theorem d_TF_start_0 : decode b_TF_start 0 = .ok (.aload_n 0, 1) := by decide +kernel
theorem d_TF_start_1 : decode b_TF_start 1 = .ok (.getfield 18, 3) := by decide +kernel
theorem d_TF_start_4 : decode b_TF_start 4 = .ok (.iload_n 1, 1) := by decide +kernel
theorem d_TF_start_5 : decode b_TF_start 5 = .ok (.iload_n 2, 1) := by decide +kernel
theorem d_TF_start_6 : decode b_TF_start 6 = .ok (.invokevirtual 47, 3) := by decide +kernel
theorem d_TF_start_9 : decode b_TF_start 9 = .ok (.istore_n 3, 1) := by decide +kernel
theorem d_TF_start_10 : decode b_TF_start 10 = .ok (.iload_n 3, 1) := by decide +kernel
theorem d_TF_start_11 : decode b_TF_start 11 = .ok (.ifCond .ge 5, 3) := by decide +kernel
theorem d_TF_start_14 : decode b_TF_start 14 = .ok (.iconst 0, 1) := by decide +kernel
theorem d_TF_start_15 : decode b_TF_start 15 = .ok (.ireturn, 1) := by decide +kernel
theorem d_TF_start_16 : decode b_TF_start 16 = .ok (.aload_n 0, 1) := by decide +kernel
theorem d_TF_start_17 : decode b_TF_start 17 = .ok (.iload_n 3, 1) := by decide +kernel
theorem d_TF_start_18 : decode b_TF_start 18 = .ok (.putfield 43, 3) := by decide +kernel
theorem d_TF_start_21 : decode b_TF_start 21 = .ok (.aload_n 0, 1) := by decide +kernel
theorem d_TF_start_22 : decode b_TF_start 22 = .ok (.getfield 25, 3) := by decide +kernel
theorem d_TF_start_25 : decode b_TF_start 25 = .ok (.invokevirtual 59, 3) := by decide +kernel
theorem d_TF_start_28 : decode b_TF_start 28 = .ok (.iconst 1, 1) := by decide +kernel
theorem d_TF_start_29 : decode b_TF_start 29 = .ok (.ireturn, 1) := by decide +kernel
theorem d_TF_tour_0 : decode b_TF_tour 0 = .ok (.iload_n 1, 1) := by decide +kernel
theorem d_TF_tour_1 : decode b_TF_tour 1 = .ok (.invokestatic 62, 3) := by decide +kernel
theorem d_TF_tour_4 : decode b_TF_tour 4 = .ok (.ifCond .eq 13, 3) := by decide +kernel
theorem d_TF_tour_7 : decode b_TF_tour 7 = .ok (.iload_n 3, 1) := by decide +kernel
theorem d_TF_tour_8 : decode b_TF_tour 8 = .ok (.ifCond .lt 9, 3) := by decide +kernel
theorem d_TF_tour_11 : decode b_TF_tour 11 = .ok (.iload_n 3, 1) := by decide +kernel
theorem d_TF_tour_12 : decode b_TF_tour 12 = .ok (.ldc 65, 2) := by decide +kernel
theorem d_TF_tour_14 : decode b_TF_tour 14 = .ok (.if_icmp .le 5, 3) := by decide +kernel
theorem d_TF_tour_17 : decode b_TF_tour 17 = .ok (.iconst (-1), 1) := by decide +kernel
theorem d_TF_tour_18 : decode b_TF_tour 18 = .ok (.ireturn, 1) := by decide +kernel
theorem d_TF_tour_19 : decode b_TF_tour 19 = .ok (.aload_n 0, 1) := by decide +kernel
theorem d_TF_tour_20 : decode b_TF_tour 20 = .ok (.getfield 18, 3) := by decide +kernel
theorem d_TF_tour_23 : decode b_TF_tour 23 = .ok (.aload_n 0, 1) := by decide +kernel
theorem d_TF_tour_24 : decode b_TF_tour 24 = .ok (.getfield 43, 3) := by decide +kernel
theorem d_TF_tour_27 : decode b_TF_tour 27 = .ok (.invokevirtual 51, 3) := by decide +kernel
theorem d_TF_tour_30 : decode b_TF_tour 30 = .ok (.ifCond .ne 12, 3) := by decide +kernel
theorem d_TF_tour_33 : decode b_TF_tour 33 = .ok (.aload_n 0, 1) := by decide +kernel
theorem d_TF_tour_34 : decode b_TF_tour 34 = .ok (.getfield 25, 3) := by decide +kernel
theorem d_TF_tour_37 : decode b_TF_tour 37 = .ok (.invokevirtual 66, 3) := by decide +kernel
theorem d_TF_tour_40 : decode b_TF_tour 40 = .ok (.iconst 1, 1) := by decide +kernel
theorem d_TF_tour_41 : decode b_TF_tour 41 = .ok (.ireturn, 1) := by decide +kernel
theorem d_TF_tour_42 : decode b_TF_tour 42 = .ok (.aload_n 0, 1) := by decide +kernel
theorem d_TF_tour_43 : decode b_TF_tour 43 = .ok (.getfield 25, 3) := by decide +kernel
theorem d_TF_tour_46 : decode b_TF_tour 46 = .ok (.iload_n 1, 1) := by decide +kernel
theorem d_TF_tour_47 : decode b_TF_tour 47 = .ok (.aload_n 0, 1) := by decide +kernel
theorem d_TF_tour_48 : decode b_TF_tour 48 = .ok (.getfield 43, 3) := by decide +kernel
theorem d_TF_tour_51 : decode b_TF_tour 51 = .ok (.aload_n 0, 1) := by decide +kernel
theorem d_TF_tour_52 : decode b_TF_tour 52 = .ok (.getfield 18, 3) := by decide +kernel
theorem d_TF_tour_55 : decode b_TF_tour 55 = .ok (.invokevirtual 69, 3) := by decide +kernel
theorem d_TF_tour_58 : decode b_TF_tour 58 = .ok (.invokevirtual 73, 3) := by decide +kernel
theorem d_TF_tour_61 : decode b_TF_tour 61 = .ok (.aload_n 0, 1) := by decide +kernel
theorem d_TF_tour_62 : decode b_TF_tour 62 = .ok (.getfield 25, 3) := by decide +kernel
theorem d_TF_tour_65 : decode b_TF_tour 65 = .ok (.iload_n 2, 1) := by decide +kernel
theorem d_TF_tour_66 : decode b_TF_tour 66 = .ok (.iload_n 3, 1) := by decide +kernel
theorem d_TF_tour_67 : decode b_TF_tour 67 = .ok (.invokevirtual 77, 3) := by decide +kernel
theorem d_TF_tour_70 : decode b_TF_tour 70 = .ok (.ireturn, 1) := by decide +kernel
theorem d_TF_isPiece_0 : decode b_TF_isPiece 0 = .ok (.iload_n 0, 1) := by decide +kernel
theorem d_TF_isPiece_1 : decode b_TF_isPiece 1 = .ok (.ifCond .lt 12, 3) := by decide +kernel
theorem d_TF_isPiece_4 : decode b_TF_isPiece 4 = .ok (.iload_n 0, 1) := by decide +kernel
theorem d_TF_isPiece_5 : decode b_TF_isPiece 5 = .ok (.iconst 3, 1) := by decide +kernel
theorem d_TF_isPiece_6 : decode b_TF_isPiece 6 = .ok (.if_icmp .ge 7, 3) := by decide +kernel
theorem d_TF_isPiece_9 : decode b_TF_isPiece 9 = .ok (.iconst 1, 1) := by decide +kernel
theorem d_TF_isPiece_10 : decode b_TF_isPiece 10 = .ok (.goto 4, 3) := by decide +kernel
theorem d_TF_isPiece_13 : decode b_TF_isPiece 13 = .ok (.iconst 0, 1) := by decide +kernel
theorem d_TF_isPiece_14 : decode b_TF_isPiece 14 = .ok (.ireturn, 1) := by decide +kernel
theorem d_TS_giveUp_0 : decode b_TS_giveUp 0 = .ok (.aload_n 0, 1) := by decide +kernel
theorem d_TS_giveUp_1 : decode b_TS_giveUp 1 = .ok (.iconst 0, 1) := by decide +kernel
theorem d_TS_giveUp_2 : decode b_TS_giveUp 2 = .ok (.putfield 50, 3) := by decide +kernel
theorem d_TS_giveUp_5 : decode b_TS_giveUp 5 = .ok (.aload_n 0, 1) := by decide +kernel
theorem d_TS_giveUp_6 : decode b_TS_giveUp 6 = .ok (.iconst 0, 1) := by decide +kernel
theorem d_TS_giveUp_7 : decode b_TS_giveUp 7 = .ok (.putfield 54, 3) := by decide +kernel
theorem d_TS_giveUp_10 : decode b_TS_giveUp 10 = .ok (.return_, 1) := by decide +kernel
theorem d_BD_freeCells_0 : decode b_BD_freeCells 0 = .ok (.aload_n 0, 1) := by decide +kernel
theorem d_BD_freeCells_1 : decode b_BD_freeCells 1 = .ok (.getfield 19, 3) := by decide +kernel
theorem d_BD_freeCells_4 : decode b_BD_freeCells 4 = .ok (.lreturn, 1) := by decide +kernel
theorem d_TS_begin_0 : decode b_TS_begin 0 = .ok (.aload_n 0, 1) := by decide +kernel
theorem d_TS_begin_1 : decode b_TS_begin 1 = .ok (.invokevirtual 58, 3) := by decide +kernel
theorem d_TS_begin_4 : decode b_TS_begin 4 = .ok (.aload_n 0, 1) := by decide +kernel
theorem d_TS_begin_5 : decode b_TS_begin 5 = .ok (.iload_n 1, 1) := by decide +kernel
theorem d_TS_begin_6 : decode b_TS_begin 6 = .ok (.putfield 61, 3) := by decide +kernel
theorem d_TS_begin_9 : decode b_TS_begin 9 = .ok (.aload_n 0, 1) := by decide +kernel
theorem d_TS_begin_10 : decode b_TS_begin 10 = .ok (.lload_n 3, 1) := by decide +kernel
theorem d_TS_begin_11 : decode b_TS_begin 11 = .ok (.putfield 64, 3) := by decide +kernel
theorem d_TS_begin_14 : decode b_TS_begin 14 = .ok (.aload_n 0, 1) := by decide +kernel
theorem d_TS_begin_15 : decode b_TS_begin 15 = .ok (.iconst 0, 1) := by decide +kernel
theorem d_TS_begin_16 : decode b_TS_begin 16 = .ok (.putfield 68, 3) := by decide +kernel
theorem d_TS_begin_19 : decode b_TS_begin 19 = .ok (.aload_n 0, 1) := by decide +kernel
theorem d_TS_begin_20 : decode b_TS_begin 20 = .ok (.iload_n 2, 1) := by decide +kernel
theorem d_TS_begin_21 : decode b_TS_begin 21 = .ok (.invokevirtual 71, 3) := by decide +kernel
theorem d_TS_begin_24 : decode b_TS_begin 24 = .ok (.return_, 1) := by decide +kernel
theorem d_TS_enter_0 : decode b_TS_enter 0 = .ok (.aload_n 0, 1) := by decide +kernel
theorem d_TS_enter_1 : decode b_TS_enter 1 = .ok (.getfield 68, 3) := by decide +kernel
theorem d_TS_enter_4 : decode b_TS_enter 4 = .ok (.ifCond .lt 12, 3) := by decide +kernel
theorem d_TS_enter_7 : decode b_TS_enter 7 = .ok (.aload_n 0, 1) := by decide +kernel
theorem d_TS_enter_8 : decode b_TS_enter 8 = .ok (.getfield 68, 3) := by decide +kernel
theorem d_TS_enter_11 : decode b_TS_enter 11 = .ok (.bipush 36, 2) := by decide +kernel
theorem d_TS_enter_13 : decode b_TS_enter 13 = .ok (.if_icmp .lt 4, 3) := by decide +kernel
theorem d_TS_enter_16 : decode b_TS_enter 16 = .ok (.return_, 1) := by decide +kernel
theorem d_TS_enter_17 : decode b_TS_enter 17 = .ok (.aload_n 0, 1) := by decide +kernel
theorem d_TS_enter_18 : decode b_TS_enter 18 = .ok (.dup, 1) := by decide +kernel
theorem d_TS_enter_19 : decode b_TS_enter 19 = .ok (.getfield 64, 3) := by decide +kernel
theorem d_TS_enter_22 : decode b_TS_enter 22 = .ok (.lconst 1, 1) := by decide +kernel
theorem d_TS_enter_23 : decode b_TS_enter 23 = .ok (.iload_n 1, 1) := by decide +kernel
theorem d_TS_enter_24 : decode b_TS_enter 24 = .ok (.lshl, 1) := by decide +kernel
theorem d_TS_enter_25 : decode b_TS_enter 25 = .ok (.ldc2_w 90, 3) := by decide +kernel
theorem d_TS_enter_28 : decode b_TS_enter 28 = .ok (.lxor, 1) := by decide +kernel
theorem d_TS_enter_29 : decode b_TS_enter 29 = .ok (.land, 1) := by decide +kernel
theorem d_TS_enter_30 : decode b_TS_enter 30 = .ok (.putfield 64, 3) := by decide +kernel
theorem d_TS_enter_33 : decode b_TS_enter 33 = .ok (.aload_n 0, 1) := by decide +kernel
theorem d_TS_enter_34 : decode b_TS_enter 34 = .ok (.getfield 9, 3) := by decide +kernel
theorem d_TS_enter_37 : decode b_TS_enter 37 = .ok (.aload_n 0, 1) := by decide +kernel
theorem d_TS_enter_38 : decode b_TS_enter 38 = .ok (.getfield 68, 3) := by decide +kernel
theorem d_TS_enter_41 : decode b_TS_enter 41 = .ok (.iload_n 1, 1) := by decide +kernel
theorem d_TS_enter_42 : decode b_TS_enter 42 = .ok (.iastore, 1) := by decide +kernel
theorem d_TS_enter_43 : decode b_TS_enter 43 = .ok (.aload_n 0, 1) := by decide +kernel
theorem d_TS_enter_44 : decode b_TS_enter 44 = .ok (.getfield 21, 3) := by decide +kernel
theorem d_TS_enter_47 : decode b_TS_enter 47 = .ok (.aload_n 0, 1) := by decide +kernel
theorem d_TS_enter_48 : decode b_TS_enter 48 = .ok (.getfield 68, 3) := by decide +kernel
theorem d_TS_enter_51 : decode b_TS_enter 51 = .ok (.iconst 0, 1) := by decide +kernel
theorem d_TS_enter_52 : decode b_TS_enter 52 = .ok (.iastore, 1) := by decide +kernel
theorem d_TS_enter_53 : decode b_TS_enter 53 = .ok (.aload_n 0, 1) := by decide +kernel
theorem d_TS_enter_54 : decode b_TS_enter 54 = .ok (.getfield 18, 3) := by decide +kernel
theorem d_TS_enter_57 : decode b_TS_enter 57 = .ok (.aload_n 0, 1) := by decide +kernel
theorem d_TS_enter_58 : decode b_TS_enter 58 = .ok (.getfield 68, 3) := by decide +kernel
theorem d_TS_enter_61 : decode b_TS_enter 61 = .ok (.aload_n 0, 1) := by decide +kernel
theorem d_TS_enter_62 : decode b_TS_enter 62 = .ok (.iload_n 1, 1) := by decide +kernel
theorem d_TS_enter_63 : decode b_TS_enter 63 = .ok (.aload_n 0, 1) := by decide +kernel
theorem d_TS_enter_64 : decode b_TS_enter 64 = .ok (.getfield 68, 3) := by decide +kernel
theorem d_TS_enter_67 : decode b_TS_enter 67 = .ok (.bipush 8, 2) := by decide +kernel
theorem d_TS_enter_69 : decode b_TS_enter 69 = .ok (.imul, 1) := by decide +kernel
theorem d_TS_enter_70 : decode b_TS_enter 70 = .ok (.invokevirtual 92, 3) := by decide +kernel
theorem d_TS_enter_73 : decode b_TS_enter 73 = .ok (.iastore, 1) := by decide +kernel
theorem d_TS_enter_74 : decode b_TS_enter 74 = .ok (.aload_n 0, 1) := by decide +kernel
theorem d_TS_enter_75 : decode b_TS_enter 75 = .ok (.dup, 1) := by decide +kernel
theorem d_TS_enter_76 : decode b_TS_enter 76 = .ok (.getfield 68, 3) := by decide +kernel
theorem d_TS_enter_79 : decode b_TS_enter 79 = .ok (.iconst 1, 1) := by decide +kernel
theorem d_TS_enter_80 : decode b_TS_enter 80 = .ok (.iadd, 1) := by decide +kernel
theorem d_TS_enter_81 : decode b_TS_enter 81 = .ok (.putfield 68, 3) := by decide +kernel
theorem d_TS_enter_84 : decode b_TS_enter 84 = .ok (.return_, 1) := by decide +kernel
theorem d_TS_listWaysOn_0 : decode b_TS_listWaysOn 0 = .ok (.aload_n 0, 1) := by decide +kernel
theorem d_TS_listWaysOn_1 : decode b_TS_listWaysOn 1 = .ok (.aload_n 0, 1) := by decide +kernel
theorem d_TS_listWaysOn_2 : decode b_TS_listWaysOn 2 = .ok (.getfield 61, 3) := by decide +kernel
theorem d_TS_listWaysOn_5 : decode b_TS_listWaysOn 5 = .ok (.iload_n 1, 1) := by decide +kernel
theorem d_TS_listWaysOn_6 : decode b_TS_listWaysOn 6 = .ok (.invokevirtual 86, 3) := by decide +kernel
theorem d_TS_listWaysOn_9 : decode b_TS_listWaysOn 9 = .ok (.aload_n 0, 1) := by decide +kernel
theorem d_TS_listWaysOn_10 : decode b_TS_listWaysOn 10 = .ok (.getfield 64, 3) := by decide +kernel
theorem d_TS_listWaysOn_13 : decode b_TS_listWaysOn 13 = .ok (.land, 1) := by decide +kernel
theorem d_TS_listWaysOn_14 : decode b_TS_listWaysOn 14 = .ok (.lstore_n 3, 1) := by decide +kernel
theorem d_TS_listWaysOn_15 : decode b_TS_listWaysOn 15 = .ok (.bipush 8, 2) := by decide +kernel
theorem d_TS_listWaysOn_17 : decode b_TS_listWaysOn 17 = .ok (.lload_n 3, 1) := by decide +kernel
theorem d_TS_listWaysOn_18 : decode b_TS_listWaysOn 18 = .ok (.invokestatic 95, 3) := by decide +kernel
theorem d_TS_listWaysOn_21 : decode b_TS_listWaysOn 21 = .ok (.invokestatic 101, 3) := by decide +kernel
theorem d_TS_listWaysOn_24 : decode b_TS_listWaysOn 24 = .ok (.istore 5, 2) := by decide +kernel
theorem d_TS_listWaysOn_26 : decode b_TS_listWaysOn 26 = .ok (.iconst 0, 1) := by decide +kernel
theorem d_TS_listWaysOn_27 : decode b_TS_listWaysOn 27 = .ok (.istore 6, 2) := by decide +kernel
theorem d_TS_listWaysOn_29 : decode b_TS_listWaysOn 29 = .ok (.iload 6, 2) := by decide +kernel
theorem d_TS_listWaysOn_31 : decode b_TS_listWaysOn 31 = .ok (.iload 5, 2) := by decide +kernel
theorem d_TS_listWaysOn_33 : decode b_TS_listWaysOn 33 = .ok (.if_icmp .ge 64, 3) := by decide +kernel
theorem d_TS_listWaysOn_36 : decode b_TS_listWaysOn 36 = .ok (.lload_n 3, 1) := by decide +kernel
theorem d_TS_listWaysOn_37 : decode b_TS_listWaysOn 37 = .ok (.lload_n 3, 1) := by decide +kernel
theorem d_TS_listWaysOn_38 : decode b_TS_listWaysOn 38 = .ok (.lneg, 1) := by decide +kernel
theorem d_TS_listWaysOn_39 : decode b_TS_listWaysOn 39 = .ok (.land, 1) := by decide +kernel
theorem d_TS_listWaysOn_40 : decode b_TS_listWaysOn 40 = .ok (.lstore 7, 2) := by decide +kernel
theorem d_TS_listWaysOn_42 : decode b_TS_listWaysOn 42 = .ok (.lload_n 3, 1) := by decide +kernel
theorem d_TS_listWaysOn_43 : decode b_TS_listWaysOn 43 = .ok (.lload 7, 2) := by decide +kernel
theorem d_TS_listWaysOn_45 : decode b_TS_listWaysOn 45 = .ok (.lxor, 1) := by decide +kernel
theorem d_TS_listWaysOn_46 : decode b_TS_listWaysOn 46 = .ok (.lstore_n 3, 1) := by decide +kernel
theorem d_TS_listWaysOn_47 : decode b_TS_listWaysOn 47 = .ok (.lload 7, 2) := by decide +kernel
theorem d_TS_listWaysOn_49 : decode b_TS_listWaysOn 49 = .ok (.lconst 1, 1) := by decide +kernel
theorem d_TS_listWaysOn_50 : decode b_TS_listWaysOn 50 = .ok (.lsub, 1) := by decide +kernel
theorem d_TS_listWaysOn_51 : decode b_TS_listWaysOn 51 = .ok (.invokestatic 95, 3) := by decide +kernel
theorem d_TS_listWaysOn_54 : decode b_TS_listWaysOn 54 = .ok (.istore 9, 2) := by decide +kernel
theorem d_TS_listWaysOn_56 : decode b_TS_listWaysOn 56 = .ok (.aload_n 0, 1) := by decide +kernel
theorem d_TS_listWaysOn_57 : decode b_TS_listWaysOn 57 = .ok (.aload_n 0, 1) := by decide +kernel
theorem d_TS_listWaysOn_58 : decode b_TS_listWaysOn 58 = .ok (.getfield 61, 3) := by decide +kernel
theorem d_TS_listWaysOn_61 : decode b_TS_listWaysOn 61 = .ok (.iload 9, 2) := by decide +kernel
theorem d_TS_listWaysOn_63 : decode b_TS_listWaysOn 63 = .ok (.invokevirtual 86, 3) := by decide +kernel
theorem d_TS_listWaysOn_66 : decode b_TS_listWaysOn 66 = .ok (.aload_n 0, 1) := by decide +kernel
theorem d_TS_listWaysOn_67 : decode b_TS_listWaysOn 67 = .ok (.getfield 64, 3) := by decide +kernel
theorem d_TS_listWaysOn_70 : decode b_TS_listWaysOn 70 = .ok (.land, 1) := by decide +kernel
theorem d_TS_listWaysOn_71 : decode b_TS_listWaysOn 71 = .ok (.invokestatic 95, 3) := by decide +kernel
theorem d_TS_listWaysOn_74 : decode b_TS_listWaysOn 74 = .ok (.bipush 36, 2) := by decide +kernel
theorem d_TS_listWaysOn_76 : decode b_TS_listWaysOn 76 = .ok (.imul, 1) := by decide +kernel
theorem d_TS_listWaysOn_77 : decode b_TS_listWaysOn 77 = .ok (.iload 9, 2) := by decide +kernel
theorem d_TS_listWaysOn_79 : decode b_TS_listWaysOn 79 = .ok (.iadd, 1) := by decide +kernel
theorem d_TS_listWaysOn_80 : decode b_TS_listWaysOn 80 = .ok (.istore 10, 2) := by decide +kernel
theorem d_TS_listWaysOn_82 : decode b_TS_listWaysOn 82 = .ok (.aload_n 0, 1) := by decide +kernel
theorem d_TS_listWaysOn_83 : decode b_TS_listWaysOn 83 = .ok (.iload 10, 2) := by decide +kernel
theorem d_TS_listWaysOn_85 : decode b_TS_listWaysOn 85 = .ok (.iload_n 2, 1) := by decide +kernel
theorem d_TS_listWaysOn_86 : decode b_TS_listWaysOn 86 = .ok (.iload 6, 2) := by decide +kernel
theorem d_TS_listWaysOn_88 : decode b_TS_listWaysOn 88 = .ok (.invokevirtual 104, 3) := by decide +kernel
theorem d_TS_listWaysOn_91 : decode b_TS_listWaysOn 91 = .ok (.iinc 6 1, 3) := by decide +kernel
theorem d_TS_listWaysOn_94 : decode b_TS_listWaysOn 94 = .ok (.goto (-65), 3) := by decide +kernel
theorem d_TS_listWaysOn_97 : decode b_TS_listWaysOn 97 = .ok (.iload 5, 2) := by decide +kernel
theorem d_TS_listWaysOn_99 : decode b_TS_listWaysOn 99 = .ok (.ireturn, 1) := by decide +kernel
theorem d_TS_reach_0 : decode b_TS_reach 0 = .ok (.iload_n 1, 1) := by decide +kernel
theorem d_TS_reach_1 : decode b_TS_reach 1 = .ok (.invokestatic 46, 3) := by decide +kernel
theorem d_TS_reach_4 : decode b_TS_reach 4 = .ok (.ifCond .eq 27, 3) := by decide +kernel
theorem d_TS_reach_7 : decode b_TS_reach 7 = .ok (.iload_n 2, 1) := by decide +kernel
theorem d_TS_reach_8 : decode b_TS_reach 8 = .ok (.ifCond .lt 23, 3) := by decide +kernel
theorem d_TS_reach_11 : decode b_TS_reach 11 = .ok (.iload_n 2, 1) := by decide +kernel
theorem d_TS_reach_12 : decode b_TS_reach 12 = .ok (.bipush 36, 2) := by decide +kernel
theorem d_TS_reach_14 : decode b_TS_reach 14 = .ok (.if_icmp .ge 17, 3) := by decide +kernel
theorem d_TS_reach_17 : decode b_TS_reach 17 = .ok (.aload_n 0, 1) := by decide +kernel
theorem d_TS_reach_18 : decode b_TS_reach 18 = .ok (.getfield 28, 3) := by decide +kernel
theorem d_TS_reach_21 : decode b_TS_reach 21 = .ok (.iload_n 1, 1) := by decide +kernel
theorem d_TS_reach_22 : decode b_TS_reach 22 = .ok (.bipush 36, 2) := by decide +kernel
theorem d_TS_reach_24 : decode b_TS_reach 24 = .ok (.imul, 1) := by decide +kernel
theorem d_TS_reach_25 : decode b_TS_reach 25 = .ok (.iload_n 2, 1) := by decide +kernel
theorem d_TS_reach_26 : decode b_TS_reach 26 = .ok (.iadd, 1) := by decide +kernel
theorem d_TS_reach_27 : decode b_TS_reach 27 = .ok (.laload, 1) := by decide +kernel
theorem d_TS_reach_28 : decode b_TS_reach 28 = .ok (.goto 4, 3) := by decide +kernel
theorem d_TS_reach_31 : decode b_TS_reach 31 = .ok (.lconst 0, 1) := by decide +kernel
theorem d_TS_reach_32 : decode b_TS_reach 32 = .ok (.lreturn, 1) := by decide +kernel
theorem d_LG_bitCount_0 : decode b_LG_bitCount 0 = .ok (.lload_n 0, 1) := by decide +kernel
theorem d_LG_bitCount_1 : decode b_LG_bitCount 1 = .ok (.lload_n 0, 1) := by decide +kernel
theorem d_LG_bitCount_2 : decode b_LG_bitCount 2 = .ok (.iconst 1, 1) := by decide +kernel
theorem d_LG_bitCount_3 : decode b_LG_bitCount 3 = .ok (.lushr, 1) := by decide +kernel
theorem d_LG_bitCount_4 : decode b_LG_bitCount 4 = .ok (.ldc2_w 314, 3) := by decide +kernel
theorem d_LG_bitCount_7 : decode b_LG_bitCount 7 = .ok (.land, 1) := by decide +kernel
theorem d_LG_bitCount_8 : decode b_LG_bitCount 8 = .ok (.lsub, 1) := by decide +kernel
theorem d_LG_bitCount_9 : decode b_LG_bitCount 9 = .ok (.lstore_n 0, 1) := by decide +kernel
theorem d_LG_bitCount_10 : decode b_LG_bitCount 10 = .ok (.lload_n 0, 1) := by decide +kernel
theorem d_LG_bitCount_11 : decode b_LG_bitCount 11 = .ok (.ldc2_w 316, 3) := by decide +kernel
theorem d_LG_bitCount_14 : decode b_LG_bitCount 14 = .ok (.land, 1) := by decide +kernel
theorem d_LG_bitCount_15 : decode b_LG_bitCount 15 = .ok (.lload_n 0, 1) := by decide +kernel
theorem d_LG_bitCount_16 : decode b_LG_bitCount 16 = .ok (.iconst 2, 1) := by decide +kernel
theorem d_LG_bitCount_17 : decode b_LG_bitCount 17 = .ok (.lushr, 1) := by decide +kernel
theorem d_LG_bitCount_18 : decode b_LG_bitCount 18 = .ok (.ldc2_w 316, 3) := by decide +kernel
theorem d_LG_bitCount_21 : decode b_LG_bitCount 21 = .ok (.land, 1) := by decide +kernel
theorem d_LG_bitCount_22 : decode b_LG_bitCount 22 = .ok (.ladd, 1) := by decide +kernel
theorem d_LG_bitCount_23 : decode b_LG_bitCount 23 = .ok (.lstore_n 0, 1) := by decide +kernel
theorem d_LG_bitCount_24 : decode b_LG_bitCount 24 = .ok (.lload_n 0, 1) := by decide +kernel
theorem d_LG_bitCount_25 : decode b_LG_bitCount 25 = .ok (.lload_n 0, 1) := by decide +kernel
theorem d_LG_bitCount_26 : decode b_LG_bitCount 26 = .ok (.iconst 4, 1) := by decide +kernel
theorem d_LG_bitCount_27 : decode b_LG_bitCount 27 = .ok (.lushr, 1) := by decide +kernel
theorem d_LG_bitCount_28 : decode b_LG_bitCount 28 = .ok (.ladd, 1) := by decide +kernel
theorem d_LG_bitCount_29 : decode b_LG_bitCount 29 = .ok (.ldc2_w 318, 3) := by decide +kernel
theorem d_LG_bitCount_32 : decode b_LG_bitCount 32 = .ok (.land, 1) := by decide +kernel
theorem d_LG_bitCount_33 : decode b_LG_bitCount 33 = .ok (.lstore_n 0, 1) := by decide +kernel
theorem d_LG_bitCount_34 : decode b_LG_bitCount 34 = .ok (.lload_n 0, 1) := by decide +kernel
theorem d_LG_bitCount_35 : decode b_LG_bitCount 35 = .ok (.lload_n 0, 1) := by decide +kernel
theorem d_LG_bitCount_36 : decode b_LG_bitCount 36 = .ok (.bipush 8, 2) := by decide +kernel
theorem d_LG_bitCount_38 : decode b_LG_bitCount 38 = .ok (.lushr, 1) := by decide +kernel
theorem d_LG_bitCount_39 : decode b_LG_bitCount 39 = .ok (.ladd, 1) := by decide +kernel
theorem d_LG_bitCount_40 : decode b_LG_bitCount 40 = .ok (.lstore_n 0, 1) := by decide +kernel
theorem d_LG_bitCount_41 : decode b_LG_bitCount 41 = .ok (.lload_n 0, 1) := by decide +kernel
theorem d_LG_bitCount_42 : decode b_LG_bitCount 42 = .ok (.lload_n 0, 1) := by decide +kernel
theorem d_LG_bitCount_43 : decode b_LG_bitCount 43 = .ok (.bipush 16, 2) := by decide +kernel
theorem d_LG_bitCount_45 : decode b_LG_bitCount 45 = .ok (.lushr, 1) := by decide +kernel
theorem d_LG_bitCount_46 : decode b_LG_bitCount 46 = .ok (.ladd, 1) := by decide +kernel
theorem d_LG_bitCount_47 : decode b_LG_bitCount 47 = .ok (.lstore_n 0, 1) := by decide +kernel
theorem d_LG_bitCount_48 : decode b_LG_bitCount 48 = .ok (.lload_n 0, 1) := by decide +kernel
theorem d_LG_bitCount_49 : decode b_LG_bitCount 49 = .ok (.lload_n 0, 1) := by decide +kernel
theorem d_LG_bitCount_50 : decode b_LG_bitCount 50 = .ok (.bipush 32, 2) := by decide +kernel
theorem d_LG_bitCount_52 : decode b_LG_bitCount 52 = .ok (.lushr, 1) := by decide +kernel
theorem d_LG_bitCount_53 : decode b_LG_bitCount 53 = .ok (.ladd, 1) := by decide +kernel
theorem d_LG_bitCount_54 : decode b_LG_bitCount 54 = .ok (.lstore_n 0, 1) := by decide +kernel
theorem d_LG_bitCount_55 : decode b_LG_bitCount 55 = .ok (.lload_n 0, 1) := by decide +kernel
theorem d_LG_bitCount_56 : decode b_LG_bitCount 56 = .ok (.l2i, 1) := by decide +kernel
theorem d_LG_bitCount_57 : decode b_LG_bitCount 57 = .ok (.bipush 127, 2) := by decide +kernel
theorem d_LG_bitCount_59 : decode b_LG_bitCount 59 = .ok (.iand, 1) := by decide +kernel
theorem d_LG_bitCount_60 : decode b_LG_bitCount 60 = .ok (.ireturn, 1) := by decide +kernel
theorem d_TS_insertWayOn_0 : decode b_TS_insertWayOn 0 = .ok (.iload_n 2, 1) := by decide +kernel
theorem d_TS_insertWayOn_1 : decode b_TS_insertWayOn 1 = .ok (.ifCond .lt 18, 3) := by decide +kernel
theorem d_TS_insertWayOn_4 : decode b_TS_insertWayOn 4 = .ok (.iload_n 3, 1) := by decide +kernel
theorem d_TS_insertWayOn_5 : decode b_TS_insertWayOn 5 = .ok (.ifCond .lt 14, 3) := by decide +kernel
theorem d_TS_insertWayOn_8 : decode b_TS_insertWayOn 8 = .ok (.iload_n 2, 1) := by decide +kernel
theorem d_TS_insertWayOn_9 : decode b_TS_insertWayOn 9 = .ok (.iload_n 3, 1) := by decide +kernel
theorem d_TS_insertWayOn_10 : decode b_TS_insertWayOn 10 = .ok (.iadd, 1) := by decide +kernel
theorem d_TS_insertWayOn_11 : decode b_TS_insertWayOn 11 = .ok (.aload_n 0, 1) := by decide +kernel
theorem d_TS_insertWayOn_12 : decode b_TS_insertWayOn 12 = .ok (.getfield 15, 3) := by decide +kernel
theorem d_TS_insertWayOn_15 : decode b_TS_insertWayOn 15 = .ok (.arraylength, 1) := by decide +kernel
theorem d_TS_insertWayOn_16 : decode b_TS_insertWayOn 16 = .ok (.if_icmp .lt 4, 3) := by decide +kernel
theorem d_TS_insertWayOn_19 : decode b_TS_insertWayOn 19 = .ok (.return_, 1) := by decide +kernel
theorem d_TS_insertWayOn_20 : decode b_TS_insertWayOn 20 = .ok (.iload_n 2, 1) := by decide +kernel
theorem d_TS_insertWayOn_21 : decode b_TS_insertWayOn 21 = .ok (.iload_n 3, 1) := by decide +kernel
theorem d_TS_insertWayOn_22 : decode b_TS_insertWayOn 22 = .ok (.iadd, 1) := by decide +kernel
theorem d_TS_insertWayOn_23 : decode b_TS_insertWayOn 23 = .ok (.istore 4, 2) := by decide +kernel
theorem d_TS_insertWayOn_25 : decode b_TS_insertWayOn 25 = .ok (.iload 4, 2) := by decide +kernel
theorem d_TS_insertWayOn_27 : decode b_TS_insertWayOn 27 = .ok (.iload_n 2, 1) := by decide +kernel
theorem d_TS_insertWayOn_28 : decode b_TS_insertWayOn 28 = .ok (.if_icmp .le 38, 3) := by decide +kernel
theorem d_TS_insertWayOn_31 : decode b_TS_insertWayOn 31 = .ok (.aload_n 0, 1) := by decide +kernel
theorem d_TS_insertWayOn_32 : decode b_TS_insertWayOn 32 = .ok (.getfield 15, 3) := by decide +kernel
theorem d_TS_insertWayOn_35 : decode b_TS_insertWayOn 35 = .ok (.iload 4, 2) := by decide +kernel
theorem d_TS_insertWayOn_37 : decode b_TS_insertWayOn 37 = .ok (.iconst 1, 1) := by decide +kernel
theorem d_TS_insertWayOn_38 : decode b_TS_insertWayOn 38 = .ok (.isub, 1) := by decide +kernel
theorem d_TS_insertWayOn_39 : decode b_TS_insertWayOn 39 = .ok (.iaload, 1) := by decide +kernel
theorem d_TS_insertWayOn_40 : decode b_TS_insertWayOn 40 = .ok (.iload_n 1, 1) := by decide +kernel
theorem d_TS_insertWayOn_41 : decode b_TS_insertWayOn 41 = .ok (.if_icmp .le 25, 3) := by decide +kernel
theorem d_TS_insertWayOn_44 : decode b_TS_insertWayOn 44 = .ok (.aload_n 0, 1) := by decide +kernel
theorem d_TS_insertWayOn_45 : decode b_TS_insertWayOn 45 = .ok (.getfield 15, 3) := by decide +kernel
theorem d_TS_insertWayOn_48 : decode b_TS_insertWayOn 48 = .ok (.iload 4, 2) := by decide +kernel
theorem d_TS_insertWayOn_50 : decode b_TS_insertWayOn 50 = .ok (.aload_n 0, 1) := by decide +kernel
theorem d_TS_insertWayOn_51 : decode b_TS_insertWayOn 51 = .ok (.getfield 15, 3) := by decide +kernel
theorem d_TS_insertWayOn_54 : decode b_TS_insertWayOn 54 = .ok (.iload 4, 2) := by decide +kernel
theorem d_TS_insertWayOn_56 : decode b_TS_insertWayOn 56 = .ok (.iconst 1, 1) := by decide +kernel
theorem d_TS_insertWayOn_57 : decode b_TS_insertWayOn 57 = .ok (.isub, 1) := by decide +kernel
theorem d_TS_insertWayOn_58 : decode b_TS_insertWayOn 58 = .ok (.iaload, 1) := by decide +kernel
theorem d_TS_insertWayOn_59 : decode b_TS_insertWayOn 59 = .ok (.iastore, 1) := by decide +kernel
theorem d_TS_insertWayOn_60 : decode b_TS_insertWayOn 60 = .ok (.iinc 4 (-1), 3) := by decide +kernel
theorem d_TS_insertWayOn_63 : decode b_TS_insertWayOn 63 = .ok (.goto (-38), 3) := by decide +kernel
theorem d_TS_insertWayOn_66 : decode b_TS_insertWayOn 66 = .ok (.aload_n 0, 1) := by decide +kernel
theorem d_TS_insertWayOn_67 : decode b_TS_insertWayOn 67 = .ok (.getfield 15, 3) := by decide +kernel
theorem d_TS_insertWayOn_70 : decode b_TS_insertWayOn 70 = .ok (.iload 4, 2) := by decide +kernel
theorem d_TS_insertWayOn_72 : decode b_TS_insertWayOn 72 = .ok (.iload_n 1, 1) := by decide +kernel
theorem d_TS_insertWayOn_73 : decode b_TS_insertWayOn 73 = .ok (.iastore, 1) := by decide +kernel
theorem d_TS_insertWayOn_74 : decode b_TS_insertWayOn 74 = .ok (.return_, 1) := by decide +kernel
theorem d_TS_run_0 : decode b_TS_run 0 = .ok (.iconst 2, 1) := by decide +kernel
theorem d_TS_run_1 : decode b_TS_run 1 = .ok (.iload_n 2, 1) := by decide +kernel
theorem d_TS_run_2 : decode b_TS_run 2 = .ok (.imul, 1) := by decide +kernel
theorem d_TS_run_3 : decode b_TS_run 3 = .ok (.iconst 2, 1) := by decide +kernel
theorem d_TS_run_4 : decode b_TS_run 4 = .ok (.iadd, 1) := by decide +kernel
theorem d_TS_run_5 : decode b_TS_run 5 = .ok (.istore_n 3, 1) := by decide +kernel
theorem d_TS_run_6 : decode b_TS_run 6 = .ok (.iconst 0, 1) := by decide +kernel
theorem d_TS_run_7 : decode b_TS_run 7 = .ok (.istore 4, 2) := by decide +kernel
theorem d_TS_run_9 : decode b_TS_run 9 = .ok (.iload 4, 2) := by decide +kernel
theorem d_TS_run_11 : decode b_TS_run 11 = .ok (.iload_n 3, 1) := by decide +kernel
theorem d_TS_run_12 : decode b_TS_run 12 = .ok (.if_icmp .ge 87, 3) := by decide +kernel
theorem d_TS_run_15 : decode b_TS_run 15 = .ok (.aload_n 0, 1) := by decide +kernel
theorem d_TS_run_16 : decode b_TS_run 16 = .ok (.getfield 68, 3) := by decide +kernel
theorem d_TS_run_19 : decode b_TS_run 19 = .ok (.ifCond .le 80, 3) := by decide +kernel
theorem d_TS_run_22 : decode b_TS_run 22 = .ok (.aload_n 0, 1) := by decide +kernel
theorem d_TS_run_23 : decode b_TS_run 23 = .ok (.getfield 64, 3) := by decide +kernel
theorem d_TS_run_26 : decode b_TS_run 26 = .ok (.lconst 0, 1) := by decide +kernel
theorem d_TS_run_27 : decode b_TS_run 27 = .ok (.lcmp, 1) := by decide +kernel
theorem d_TS_run_28 : decode b_TS_run 28 = .ok (.ifCond .ne 21, 3) := by decide +kernel
theorem d_TS_run_31 : decode b_TS_run 31 = .ok (.iload_n 1, 1) := by decide +kernel
theorem d_TS_run_32 : decode b_TS_run 32 = .ok (.ifCond .eq 10, 3) := by decide +kernel
theorem d_TS_run_35 : decode b_TS_run 35 = .ok (.aload_n 0, 1) := by decide +kernel
theorem d_TS_run_36 : decode b_TS_run 36 = .ok (.invokevirtual 75, 3) := by decide +kernel
theorem d_TS_run_39 : decode b_TS_run 39 = .ok (.ifCond .eq 10, 3) := by decide +kernel
theorem d_TS_run_42 : decode b_TS_run 42 = .ok (.aload_n 0, 1) := by decide +kernel
theorem d_TS_run_43 : decode b_TS_run 43 = .ok (.iconst 1, 1) := by decide +kernel
theorem d_TS_run_44 : decode b_TS_run 44 = .ok (.putfield 50, 3) := by decide +kernel
theorem d_TS_run_47 : decode b_TS_run 47 = .ok (.iconst 0, 1) := by decide +kernel
theorem d_TS_run_48 : decode b_TS_run 48 = .ok (.ireturn, 1) := by decide +kernel
theorem d_TS_run_49 : decode b_TS_run 49 = .ok (.aload_n 0, 1) := by decide +kernel
theorem d_TS_run_50 : decode b_TS_run 50 = .ok (.invokevirtual 79, 3) := by decide +kernel
theorem d_TS_run_53 : decode b_TS_run 53 = .ok (.istore 5, 2) := by decide +kernel
theorem d_TS_run_55 : decode b_TS_run 55 = .ok (.iload 5, 2) := by decide +kernel
theorem d_TS_run_57 : decode b_TS_run 57 = .ok (.ifCond .ge 10, 3) := by decide +kernel
theorem d_TS_run_60 : decode b_TS_run 60 = .ok (.aload_n 0, 1) := by decide +kernel
theorem d_TS_run_61 : decode b_TS_run 61 = .ok (.invokevirtual 83, 3) := by decide +kernel
theorem d_TS_run_64 : decode b_TS_run 64 = .ok (.goto 29, 3) := by decide +kernel
theorem d_TS_run_67 : decode b_TS_run 67 = .ok (.aload_n 0, 1) := by decide +kernel
theorem d_TS_run_68 : decode b_TS_run 68 = .ok (.getfield 54, 3) := by decide +kernel
theorem d_TS_run_71 : decode b_TS_run 71 = .ok (.iload_n 2, 1) := by decide +kernel
theorem d_TS_run_72 : decode b_TS_run 72 = .ok (.if_icmp .lt 5, 3) := by decide +kernel
theorem d_TS_run_75 : decode b_TS_run 75 = .ok (.iconst 2, 1) := by decide +kernel
theorem d_TS_run_76 : decode b_TS_run 76 = .ok (.ireturn, 1) := by decide +kernel
theorem d_TS_run_77 : decode b_TS_run 77 = .ok (.aload_n 0, 1) := by decide +kernel
theorem d_TS_run_78 : decode b_TS_run 78 = .ok (.dup, 1) := by decide +kernel
theorem d_TS_run_79 : decode b_TS_run 79 = .ok (.getfield 54, 3) := by decide +kernel
theorem d_TS_run_82 : decode b_TS_run 82 = .ok (.iconst 1, 1) := by decide +kernel
theorem d_TS_run_83 : decode b_TS_run 83 = .ok (.iadd, 1) := by decide +kernel
theorem d_TS_run_84 : decode b_TS_run 84 = .ok (.putfield 54, 3) := by decide +kernel
theorem d_TS_run_87 : decode b_TS_run 87 = .ok (.aload_n 0, 1) := by decide +kernel
theorem d_TS_run_88 : decode b_TS_run 88 = .ok (.iload 5, 2) := by decide +kernel
theorem d_TS_run_90 : decode b_TS_run 90 = .ok (.invokevirtual 71, 3) := by decide +kernel
theorem d_TS_run_93 : decode b_TS_run 93 = .ok (.iinc 4 1, 3) := by decide +kernel
theorem d_TS_run_96 : decode b_TS_run 96 = .ok (.goto (-87), 3) := by decide +kernel
theorem d_TS_run_99 : decode b_TS_run 99 = .ok (.iconst 1, 1) := by decide +kernel
theorem d_TS_run_100 : decode b_TS_run 100 = .ok (.ireturn, 1) := by decide +kernel
theorem d_TS_closes_0 : decode b_TS_closes 0 = .ok (.aload_n 0, 1) := by decide +kernel
theorem d_TS_closes_1 : decode b_TS_closes 1 = .ok (.getfield 68, 3) := by decide +kernel
theorem d_TS_closes_4 : decode b_TS_closes 4 = .ok (.iconst 1, 1) := by decide +kernel
theorem d_TS_closes_5 : decode b_TS_closes 5 = .ok (.if_icmp .lt 12, 3) := by decide +kernel
theorem d_TS_closes_8 : decode b_TS_closes 8 = .ok (.aload_n 0, 1) := by decide +kernel
theorem d_TS_closes_9 : decode b_TS_closes 9 = .ok (.getfield 68, 3) := by decide +kernel
theorem d_TS_closes_12 : decode b_TS_closes 12 = .ok (.bipush 36, 2) := by decide +kernel
theorem d_TS_closes_14 : decode b_TS_closes 14 = .ok (.if_icmp .le 5, 3) := by decide +kernel
theorem d_TS_closes_17 : decode b_TS_closes 17 = .ok (.iconst 0, 1) := by decide +kernel
theorem d_TS_closes_18 : decode b_TS_closes 18 = .ok (.ireturn, 1) := by decide +kernel
theorem d_TS_closes_19 : decode b_TS_closes 19 = .ok (.aload_n 0, 1) := by decide +kernel
theorem d_TS_closes_20 : decode b_TS_closes 20 = .ok (.aload_n 0, 1) := by decide +kernel
theorem d_TS_closes_21 : decode b_TS_closes 21 = .ok (.getfield 61, 3) := by decide +kernel
theorem d_TS_closes_24 : decode b_TS_closes 24 = .ok (.aload_n 0, 1) := by decide +kernel
theorem d_TS_closes_25 : decode b_TS_closes 25 = .ok (.getfield 9, 3) := by decide +kernel
theorem d_TS_closes_28 : decode b_TS_closes 28 = .ok (.aload_n 0, 1) := by decide +kernel
theorem d_TS_closes_29 : decode b_TS_closes 29 = .ok (.getfield 68, 3) := by decide +kernel
theorem d_TS_closes_32 : decode b_TS_closes 32 = .ok (.iconst 1, 1) := by decide +kernel
theorem d_TS_closes_33 : decode b_TS_closes 33 = .ok (.isub, 1) := by decide +kernel
theorem d_TS_closes_34 : decode b_TS_closes 34 = .ok (.iaload, 1) := by decide +kernel
theorem d_TS_closes_35 : decode b_TS_closes 35 = .ok (.invokevirtual 86, 3) := by decide +kernel
theorem d_TS_closes_38 : decode b_TS_closes 38 = .ok (.aload_n 0, 1) := by decide +kernel
theorem d_TS_closes_39 : decode b_TS_closes 39 = .ok (.getfield 9, 3) := by decide +kernel
theorem d_TS_closes_42 : decode b_TS_closes 42 = .ok (.iconst 0, 1) := by decide +kernel
theorem d_TS_closes_43 : decode b_TS_closes 43 = .ok (.iaload, 1) := by decide +kernel
theorem d_TS_closes_44 : decode b_TS_closes 44 = .ok (.lushr, 1) := by decide +kernel
theorem d_TS_closes_45 : decode b_TS_closes 45 = .ok (.lconst 1, 1) := by decide +kernel
theorem d_TS_closes_46 : decode b_TS_closes 46 = .ok (.land, 1) := by decide +kernel
theorem d_TS_closes_47 : decode b_TS_closes 47 = .ok (.lconst 0, 1) := by decide +kernel
theorem d_TS_closes_48 : decode b_TS_closes 48 = .ok (.lcmp, 1) := by decide +kernel
theorem d_TS_closes_49 : decode b_TS_closes 49 = .ok (.ifCond .eq 7, 3) := by decide +kernel
theorem d_TS_closes_52 : decode b_TS_closes 52 = .ok (.iconst 1, 1) := by decide +kernel
theorem d_TS_closes_53 : decode b_TS_closes 53 = .ok (.goto 4, 3) := by decide +kernel
theorem d_TS_closes_56 : decode b_TS_closes 56 = .ok (.iconst 0, 1) := by decide +kernel
theorem d_TS_closes_57 : decode b_TS_closes 57 = .ok (.ireturn, 1) := by decide +kernel
theorem d_TS_nextCell_0 : decode b_TS_nextCell 0 = .ok (.aload_n 0, 1) := by decide +kernel
theorem d_TS_nextCell_1 : decode b_TS_nextCell 1 = .ok (.getfield 68, 3) := by decide +kernel
theorem d_TS_nextCell_4 : decode b_TS_nextCell 4 = .ok (.iconst 1, 1) := by decide +kernel
theorem d_TS_nextCell_5 : decode b_TS_nextCell 5 = .ok (.isub, 1) := by decide +kernel
theorem d_TS_nextCell_6 : decode b_TS_nextCell 6 = .ok (.istore_n 1, 1) := by decide +kernel
theorem d_TS_nextCell_7 : decode b_TS_nextCell 7 = .ok (.iload_n 1, 1) := by decide +kernel
theorem d_TS_nextCell_8 : decode b_TS_nextCell 8 = .ok (.ifCond .lt 9, 3) := by decide +kernel
theorem d_TS_nextCell_11 : decode b_TS_nextCell 11 = .ok (.iload_n 1, 1) := by decide +kernel
theorem d_TS_nextCell_12 : decode b_TS_nextCell 12 = .ok (.bipush 36, 2) := by decide +kernel
theorem d_TS_nextCell_14 : decode b_TS_nextCell 14 = .ok (.if_icmp .lt 5, 3) := by decide +kernel
theorem d_TS_nextCell_17 : decode b_TS_nextCell 17 = .ok (.iconst (-1), 1) := by decide +kernel
theorem d_TS_nextCell_18 : decode b_TS_nextCell 18 = .ok (.ireturn, 1) := by decide +kernel
theorem d_TS_nextCell_19 : decode b_TS_nextCell 19 = .ok (.aload_n 0, 1) := by decide +kernel
theorem d_TS_nextCell_20 : decode b_TS_nextCell 20 = .ok (.getfield 21, 3) := by decide +kernel
theorem d_TS_nextCell_23 : decode b_TS_nextCell 23 = .ok (.iload_n 1, 1) := by decide +kernel
theorem d_TS_nextCell_24 : decode b_TS_nextCell 24 = .ok (.iaload, 1) := by decide +kernel
theorem d_TS_nextCell_25 : decode b_TS_nextCell 25 = .ok (.istore_n 2, 1) := by decide +kernel
theorem d_TS_nextCell_26 : decode b_TS_nextCell 26 = .ok (.iload_n 2, 1) := by decide +kernel
theorem d_TS_nextCell_27 : decode b_TS_nextCell 27 = .ok (.ifCond .lt 19, 3) := by decide +kernel
theorem d_TS_nextCell_30 : decode b_TS_nextCell 30 = .ok (.iload_n 2, 1) := by decide +kernel
theorem d_TS_nextCell_31 : decode b_TS_nextCell 31 = .ok (.bipush 8, 2) := by decide +kernel
theorem d_TS_nextCell_33 : decode b_TS_nextCell 33 = .ok (.if_icmp .ge 13, 3) := by decide +kernel
theorem d_TS_nextCell_36 : decode b_TS_nextCell 36 = .ok (.iload_n 2, 1) := by decide +kernel
theorem d_TS_nextCell_37 : decode b_TS_nextCell 37 = .ok (.aload_n 0, 1) := by decide +kernel
theorem d_TS_nextCell_38 : decode b_TS_nextCell 38 = .ok (.getfield 18, 3) := by decide +kernel
theorem d_TS_nextCell_41 : decode b_TS_nextCell 41 = .ok (.iload_n 1, 1) := by decide +kernel
theorem d_TS_nextCell_42 : decode b_TS_nextCell 42 = .ok (.iaload, 1) := by decide +kernel
theorem d_TS_nextCell_43 : decode b_TS_nextCell 43 = .ok (.if_icmp .lt 5, 3) := by decide +kernel
theorem d_TS_nextCell_46 : decode b_TS_nextCell 46 = .ok (.iconst (-1), 1) := by decide +kernel
theorem d_TS_nextCell_47 : decode b_TS_nextCell 47 = .ok (.ireturn, 1) := by decide +kernel
theorem d_TS_nextCell_48 : decode b_TS_nextCell 48 = .ok (.aload_n 0, 1) := by decide +kernel
theorem d_TS_nextCell_49 : decode b_TS_nextCell 49 = .ok (.getfield 21, 3) := by decide +kernel
theorem d_TS_nextCell_52 : decode b_TS_nextCell 52 = .ok (.iload_n 1, 1) := by decide +kernel
theorem d_TS_nextCell_53 : decode b_TS_nextCell 53 = .ok (.iload_n 2, 1) := by decide +kernel
theorem d_TS_nextCell_54 : decode b_TS_nextCell 54 = .ok (.iconst 1, 1) := by decide +kernel
theorem d_TS_nextCell_55 : decode b_TS_nextCell 55 = .ok (.iadd, 1) := by decide +kernel
theorem d_TS_nextCell_56 : decode b_TS_nextCell 56 = .ok (.iastore, 1) := by decide +kernel
theorem d_TS_nextCell_57 : decode b_TS_nextCell 57 = .ok (.aload_n 0, 1) := by decide +kernel
theorem d_TS_nextCell_58 : decode b_TS_nextCell 58 = .ok (.getfield 15, 3) := by decide +kernel
theorem d_TS_nextCell_61 : decode b_TS_nextCell 61 = .ok (.iload_n 1, 1) := by decide +kernel
theorem d_TS_nextCell_62 : decode b_TS_nextCell 62 = .ok (.bipush 8, 2) := by decide +kernel
theorem d_TS_nextCell_64 : decode b_TS_nextCell 64 = .ok (.imul, 1) := by decide +kernel
theorem d_TS_nextCell_65 : decode b_TS_nextCell 65 = .ok (.iload_n 2, 1) := by decide +kernel
theorem d_TS_nextCell_66 : decode b_TS_nextCell 66 = .ok (.iadd, 1) := by decide +kernel
theorem d_TS_nextCell_67 : decode b_TS_nextCell 67 = .ok (.iaload, 1) := by decide +kernel
theorem d_TS_nextCell_68 : decode b_TS_nextCell 68 = .ok (.bipush 36, 2) := by decide +kernel
theorem d_TS_nextCell_70 : decode b_TS_nextCell 70 = .ok (.irem, 1) := by decide +kernel
theorem d_TS_nextCell_71 : decode b_TS_nextCell 71 = .ok (.ireturn, 1) := by decide +kernel
theorem d_TS_goBack_0 : decode b_TS_goBack 0 = .ok (.aload_n 0, 1) := by decide +kernel
theorem d_TS_goBack_1 : decode b_TS_goBack 1 = .ok (.getfield 68, 3) := by decide +kernel
theorem d_TS_goBack_4 : decode b_TS_goBack 4 = .ok (.iconst 1, 1) := by decide +kernel
theorem d_TS_goBack_5 : decode b_TS_goBack 5 = .ok (.if_icmp .lt 12, 3) := by decide +kernel
theorem d_TS_goBack_8 : decode b_TS_goBack 8 = .ok (.aload_n 0, 1) := by decide +kernel
theorem d_TS_goBack_9 : decode b_TS_goBack 9 = .ok (.getfield 68, 3) := by decide +kernel
theorem d_TS_goBack_12 : decode b_TS_goBack 12 = .ok (.bipush 36, 2) := by decide +kernel
theorem d_TS_goBack_14 : decode b_TS_goBack 14 = .ok (.if_icmp .le 4, 3) := by decide +kernel
theorem d_TS_goBack_17 : decode b_TS_goBack 17 = .ok (.return_, 1) := by decide +kernel
theorem d_TS_goBack_18 : decode b_TS_goBack 18 = .ok (.aload_n 0, 1) := by decide +kernel
theorem d_TS_goBack_19 : decode b_TS_goBack 19 = .ok (.dup, 1) := by decide +kernel
theorem d_TS_goBack_20 : decode b_TS_goBack 20 = .ok (.getfield 68, 3) := by decide +kernel
theorem d_TS_goBack_23 : decode b_TS_goBack 23 = .ok (.iconst 1, 1) := by decide +kernel
theorem d_TS_goBack_24 : decode b_TS_goBack 24 = .ok (.isub, 1) := by decide +kernel
theorem d_TS_goBack_25 : decode b_TS_goBack 25 = .ok (.putfield 68, 3) := by decide +kernel
theorem d_TS_goBack_28 : decode b_TS_goBack 28 = .ok (.aload_n 0, 1) := by decide +kernel
theorem d_TS_goBack_29 : decode b_TS_goBack 29 = .ok (.dup, 1) := by decide +kernel
theorem d_TS_goBack_30 : decode b_TS_goBack 30 = .ok (.getfield 64, 3) := by decide +kernel
theorem d_TS_goBack_33 : decode b_TS_goBack 33 = .ok (.lconst 1, 1) := by decide +kernel
theorem d_TS_goBack_34 : decode b_TS_goBack 34 = .ok (.aload_n 0, 1) := by decide +kernel
theorem d_TS_goBack_35 : decode b_TS_goBack 35 = .ok (.getfield 9, 3) := by decide +kernel
theorem d_TS_goBack_38 : decode b_TS_goBack 38 = .ok (.aload_n 0, 1) := by decide +kernel
theorem d_TS_goBack_39 : decode b_TS_goBack 39 = .ok (.getfield 68, 3) := by decide +kernel
theorem d_TS_goBack_42 : decode b_TS_goBack 42 = .ok (.iaload, 1) := by decide +kernel
theorem d_TS_goBack_43 : decode b_TS_goBack 43 = .ok (.lshl, 1) := by decide +kernel
theorem d_TS_goBack_44 : decode b_TS_goBack 44 = .ok (.lor, 1) := by decide +kernel
theorem d_TS_goBack_45 : decode b_TS_goBack 45 = .ok (.putfield 64, 3) := by decide +kernel
theorem d_TS_goBack_48 : decode b_TS_goBack 48 = .ok (.return_, 1) := by decide +kernel
theorem d_TF_at_0 : decode b_TF_at 0 = .ok (.aload_n 0, 1) := by decide +kernel
theorem d_TF_at_1 : decode b_TF_at 1 = .ok (.getfield 25, 3) := by decide +kernel
theorem d_TF_at_4 : decode b_TF_at 4 = .ok (.iload_n 1, 1) := by decide +kernel
theorem d_TF_at_5 : decode b_TF_at 5 = .ok (.invokevirtual 81, 3) := by decide +kernel
theorem d_TF_at_8 : decode b_TF_at 8 = .ok (.ireturn, 1) := by decide +kernel
theorem d_TS_cellOfTour_0 : decode b_TS_cellOfTour 0 = .ok (.aload_n 0, 1) := by decide +kernel
theorem d_TS_cellOfTour_1 : decode b_TS_cellOfTour 1 = .ok (.getfield 50, 3) := by decide +kernel
theorem d_TS_cellOfTour_4 : decode b_TS_cellOfTour 4 = .ok (.ifCond .eq 30, 3) := by decide +kernel
theorem d_TS_cellOfTour_7 : decode b_TS_cellOfTour 7 = .ok (.iload_n 1, 1) := by decide +kernel
theorem d_TS_cellOfTour_8 : decode b_TS_cellOfTour 8 = .ok (.ifCond .lt 26, 3) := by decide +kernel
theorem d_TS_cellOfTour_11 : decode b_TS_cellOfTour 11 = .ok (.iload_n 1, 1) := by decide +kernel
theorem d_TS_cellOfTour_12 : decode b_TS_cellOfTour 12 = .ok (.aload_n 0, 1) := by decide +kernel
theorem d_TS_cellOfTour_13 : decode b_TS_cellOfTour 13 = .ok (.getfield 68, 3) := by decide +kernel
theorem d_TS_cellOfTour_16 : decode b_TS_cellOfTour 16 = .ok (.if_icmp .ge 18, 3) := by decide +kernel
theorem d_TS_cellOfTour_19 : decode b_TS_cellOfTour 19 = .ok (.iload_n 1, 1) := by decide +kernel
theorem d_TS_cellOfTour_20 : decode b_TS_cellOfTour 20 = .ok (.bipush 36, 2) := by decide +kernel
theorem d_TS_cellOfTour_22 : decode b_TS_cellOfTour 22 = .ok (.if_icmp .ge 12, 3) := by decide +kernel
theorem d_TS_cellOfTour_25 : decode b_TS_cellOfTour 25 = .ok (.aload_n 0, 1) := by decide +kernel
theorem d_TS_cellOfTour_26 : decode b_TS_cellOfTour 26 = .ok (.getfield 9, 3) := by decide +kernel
theorem d_TS_cellOfTour_29 : decode b_TS_cellOfTour 29 = .ok (.iload_n 1, 1) := by decide +kernel
theorem d_TS_cellOfTour_30 : decode b_TS_cellOfTour 30 = .ok (.iaload, 1) := by decide +kernel
theorem d_TS_cellOfTour_31 : decode b_TS_cellOfTour 31 = .ok (.goto 4, 3) := by decide +kernel
theorem d_TS_cellOfTour_34 : decode b_TS_cellOfTour 34 = .ok (.iconst (-1), 1) := by decide +kernel
theorem d_TS_cellOfTour_35 : decode b_TS_cellOfTour 35 = .ok (.ireturn, 1) := by decide +kernel
theorem d_TF_steps_0 : decode b_TF_steps 0 = .ok (.aload_n 0, 1) := by decide +kernel
theorem d_TF_steps_1 : decode b_TF_steps 1 = .ok (.getfield 25, 3) := by decide +kernel
theorem d_TF_steps_4 : decode b_TF_steps 4 = .ok (.invokevirtual 84, 3) := by decide +kernel
theorem d_TF_steps_7 : decode b_TF_steps 7 = .ok (.ireturn, 1) := by decide +kernel
theorem d_TS_stepsMade_0 : decode b_TS_stepsMade 0 = .ok (.aload_n 0, 1) := by decide +kernel
theorem d_TS_stepsMade_1 : decode b_TS_stepsMade 1 = .ok (.getfield 54, 3) := by decide +kernel
theorem d_TS_stepsMade_4 : decode b_TS_stepsMade 4 = .ok (.ireturn, 1) := by decide +kernel
theorem d_TF_ways_0 : decode b_TF_ways 0 = .ok (.iload_n 1, 1) := by decide +kernel
theorem d_TF_ways_1 : decode b_TF_ways 1 = .ok (.invokestatic 62, 3) := by decide +kernel
theorem d_TF_ways_4 : decode b_TF_ways 4 = .ok (.ifCond .eq 14, 3) := by decide +kernel
theorem d_TF_ways_7 : decode b_TF_ways 7 = .ok (.aload_n 0, 1) := by decide +kernel
theorem d_TF_ways_8 : decode b_TF_ways 8 = .ok (.getfield 18, 3) := by decide +kernel
theorem d_TF_ways_11 : decode b_TF_ways 11 = .ok (.iload_n 2, 1) := by decide +kernel
theorem d_TF_ways_12 : decode b_TF_ways 12 = .ok (.invokevirtual 88, 3) := by decide +kernel
theorem d_TF_ways_15 : decode b_TF_ways 15 = .ok (.ifCond .ne 5, 3) := by decide +kernel
theorem d_TF_ways_18 : decode b_TF_ways 18 = .ok (.iconst (-1), 1) := by decide +kernel
theorem d_TF_ways_19 : decode b_TF_ways 19 = .ok (.ireturn, 1) := by decide +kernel
theorem d_TF_ways_20 : decode b_TF_ways 20 = .ok (.aload_n 0, 1) := by decide +kernel
theorem d_TF_ways_21 : decode b_TF_ways 21 = .ok (.getfield 25, 3) := by decide +kernel
theorem d_TF_ways_24 : decode b_TF_ways 24 = .ok (.iload_n 1, 1) := by decide +kernel
theorem d_TF_ways_25 : decode b_TF_ways 25 = .ok (.iload_n 2, 1) := by decide +kernel
theorem d_TF_ways_26 : decode b_TF_ways 26 = .ok (.invokevirtual 91, 3) := by decide +kernel
theorem d_TF_ways_29 : decode b_TF_ways 29 = .ok (.aload_n 0, 1) := by decide +kernel
theorem d_TF_ways_30 : decode b_TF_ways 30 = .ok (.getfield 18, 3) := by decide +kernel
theorem d_TF_ways_33 : decode b_TF_ways 33 = .ok (.invokevirtual 69, 3) := by decide +kernel
theorem d_TF_ways_36 : decode b_TF_ways 36 = .ok (.land, 1) := by decide +kernel
theorem d_TF_ways_37 : decode b_TF_ways 37 = .ok (.invokestatic 95, 3) := by decide +kernel
theorem d_TF_ways_40 : decode b_TF_ways 40 = .ok (.ireturn, 1) := by decide +kernel
theorem d_TF_queens_0 : decode b_TF_queens 0 = .ok (.aload_n 0, 1) := by decide +kernel
theorem d_TF_queens_1 : decode b_TF_queens 1 = .ok (.getfield 32, 3) := by decide +kernel
theorem d_TF_queens_4 : decode b_TF_queens 4 = .ok (.aload_n 0, 1) := by decide +kernel
theorem d_TF_queens_5 : decode b_TF_queens 5 = .ok (.getfield 18, 3) := by decide +kernel
theorem d_TF_queens_8 : decode b_TF_queens 8 = .ok (.invokevirtual 69, 3) := by decide +kernel
theorem d_TF_queens_11 : decode b_TF_queens 11 = .ok (.invokevirtual 101, 3) := by decide +kernel
theorem d_TF_queens_14 : decode b_TF_queens 14 = .ok (.ireturn, 1) := by decide +kernel
theorem d_QS_countWays_0 : decode b_QS_countWays 0 = .ok (.aload_n 0, 1) := by decide +kernel
theorem d_QS_countWays_1 : decode b_QS_countWays 1 = .ok (.lload_n 1, 1) := by decide +kernel
theorem d_QS_countWays_2 : decode b_QS_countWays 2 = .ok (.putfield 28, 3) := by decide +kernel
theorem d_QS_countWays_5 : decode b_QS_countWays 5 = .ok (.aload_n 0, 1) := by decide +kernel
theorem d_QS_countWays_6 : decode b_QS_countWays 6 = .ok (.iconst 0, 1) := by decide +kernel
theorem d_QS_countWays_7 : decode b_QS_countWays 7 = .ok (.putfield 32, 3) := by decide +kernel
theorem d_QS_countWays_10 : decode b_QS_countWays 10 = .ok (.aload_n 0, 1) := by decide +kernel
theorem d_QS_countWays_11 : decode b_QS_countWays 11 = .ok (.iconst 0, 1) := by decide +kernel
theorem d_QS_countWays_12 : decode b_QS_countWays 12 = .ok (.iconst (-1), 1) := by decide +kernel
theorem d_QS_countWays_13 : decode b_QS_countWays 13 = .ok (.invokevirtual 35, 3) := by decide +kernel
theorem d_QS_countWays_16 : decode b_QS_countWays 16 = .ok (.pop, 1) := by decide +kernel
theorem d_QS_countWays_17 : decode b_QS_countWays 17 = .ok (.aload_n 0, 1) := by decide +kernel
theorem d_QS_countWays_18 : decode b_QS_countWays 18 = .ok (.getfield 32, 3) := by decide +kernel
theorem d_QS_countWays_21 : decode b_QS_countWays 21 = .ok (.ireturn, 1) := by decide +kernel
theorem d_QS_placeFrom_0 : decode b_QS_placeFrom 0 = .ok (.iload_n 1, 1) := by decide +kernel
theorem d_QS_placeFrom_1 : decode b_QS_placeFrom 1 = .ok (.aload_n 0, 1) := by decide +kernel
theorem d_QS_placeFrom_2 : decode b_QS_placeFrom 2 = .ok (.getfield 21, 3) := by decide +kernel
theorem d_QS_placeFrom_5 : decode b_QS_placeFrom 5 = .ok (.if_icmp .ge 10, 3) := by decide +kernel
theorem d_QS_placeFrom_8 : decode b_QS_placeFrom 8 = .ok (.aload_n 0, 1) := by decide +kernel
theorem d_QS_placeFrom_9 : decode b_QS_placeFrom 9 = .ok (.iload_n 1, 1) := by decide +kernel
theorem d_QS_placeFrom_10 : decode b_QS_placeFrom 10 = .ok (.iload_n 2, 1) := by decide +kernel
theorem d_QS_placeFrom_11 : decode b_QS_placeFrom 11 = .ok (.invokevirtual 39, 3) := by decide +kernel
theorem d_QS_placeFrom_14 : decode b_QS_placeFrom 14 = .ok (.ireturn, 1) := by decide +kernel
theorem d_QS_placeFrom_15 : decode b_QS_placeFrom 15 = .ok (.aload_n 0, 1) := by decide +kernel
theorem d_QS_placeFrom_16 : decode b_QS_placeFrom 16 = .ok (.dup, 1) := by decide +kernel
theorem d_QS_placeFrom_17 : decode b_QS_placeFrom 17 = .ok (.getfield 32, 3) := by decide +kernel
theorem d_QS_placeFrom_20 : decode b_QS_placeFrom 20 = .ok (.iconst 1, 1) := by decide +kernel
theorem d_QS_placeFrom_21 : decode b_QS_placeFrom 21 = .ok (.iadd, 1) := by decide +kernel
theorem d_QS_placeFrom_22 : decode b_QS_placeFrom 22 = .ok (.putfield 32, 3) := by decide +kernel
theorem d_QS_placeFrom_25 : decode b_QS_placeFrom 25 = .ok (.aload_n 0, 1) := by decide +kernel
theorem d_QS_placeFrom_26 : decode b_QS_placeFrom 26 = .ok (.getfield 32, 3) := by decide +kernel
theorem d_QS_placeFrom_29 : decode b_QS_placeFrom 29 = .ok (.iconst 1, 1) := by decide +kernel
theorem d_QS_placeFrom_30 : decode b_QS_placeFrom 30 = .ok (.isub, 1) := by decide +kernel
theorem d_QS_placeFrom_31 : decode b_QS_placeFrom 31 = .ok (.iload_n 2, 1) := by decide +kernel
theorem d_QS_placeFrom_32 : decode b_QS_placeFrom 32 = .ok (.if_icmp .ne 7, 3) := by decide +kernel
theorem d_QS_placeFrom_35 : decode b_QS_placeFrom 35 = .ok (.iconst 1, 1) := by decide +kernel
theorem d_QS_placeFrom_36 : decode b_QS_placeFrom 36 = .ok (.goto 4, 3) := by decide +kernel
theorem d_QS_placeFrom_39 : decode b_QS_placeFrom 39 = .ok (.iconst 0, 1) := by decide +kernel
theorem d_QS_placeFrom_40 : decode b_QS_placeFrom 40 = .ok (.ireturn, 1) := by decide +kernel
theorem d_QS_placeIn_0 : decode b_QS_placeIn 0 = .ok (.iload_n 1, 1) := by decide +kernel
theorem d_QS_placeIn_1 : decode b_QS_placeIn 1 = .ok (.ifCond .lt 11, 3) := by decide +kernel
theorem d_QS_placeIn_4 : decode b_QS_placeIn 4 = .ok (.iload_n 1, 1) := by decide +kernel
theorem d_QS_placeIn_5 : decode b_QS_placeIn 5 = .ok (.aload_n 0, 1) := by decide +kernel
theorem d_QS_placeIn_6 : decode b_QS_placeIn 6 = .ok (.getfield 21, 3) := by decide +kernel
theorem d_QS_placeIn_9 : decode b_QS_placeIn 9 = .ok (.if_icmp .lt 5, 3) := by decide +kernel
theorem d_QS_placeIn_12 : decode b_QS_placeIn 12 = .ok (.iconst 0, 1) := by decide +kernel
theorem d_QS_placeIn_13 : decode b_QS_placeIn 13 = .ok (.ireturn, 1) := by decide +kernel
theorem d_QS_placeIn_14 : decode b_QS_placeIn 14 = .ok (.iconst 0, 1) := by decide +kernel
theorem d_QS_placeIn_15 : decode b_QS_placeIn 15 = .ok (.istore_n 3, 1) := by decide +kernel
theorem d_QS_placeIn_16 : decode b_QS_placeIn 16 = .ok (.iload_n 3, 1) := by decide +kernel
theorem d_QS_placeIn_17 : decode b_QS_placeIn 17 = .ok (.aload_n 0, 1) := by decide +kernel
theorem d_QS_placeIn_18 : decode b_QS_placeIn 18 = .ok (.getfield 25, 3) := by decide +kernel
theorem d_QS_placeIn_21 : decode b_QS_placeIn 21 = .ok (.if_icmp .ge 38, 3) := by decide +kernel
theorem d_QS_placeIn_24 : decode b_QS_placeIn 24 = .ok (.aload_n 0, 1) := by decide +kernel
theorem d_QS_placeIn_25 : decode b_QS_placeIn 25 = .ok (.iload_n 1, 1) := by decide +kernel
theorem d_QS_placeIn_26 : decode b_QS_placeIn 26 = .ok (.iload_n 3, 1) := by decide +kernel
theorem d_QS_placeIn_27 : decode b_QS_placeIn 27 = .ok (.invokevirtual 42, 3) := by decide +kernel
theorem d_QS_placeIn_30 : decode b_QS_placeIn 30 = .ok (.ifCond .eq 23, 3) := by decide +kernel
theorem d_QS_placeIn_33 : decode b_QS_placeIn 33 = .ok (.aload_n 0, 1) := by decide +kernel
theorem d_QS_placeIn_34 : decode b_QS_placeIn 34 = .ok (.getfield 9, 3) := by decide +kernel
theorem d_QS_placeIn_37 : decode b_QS_placeIn 37 = .ok (.iload_n 1, 1) := by decide +kernel
theorem d_QS_placeIn_38 : decode b_QS_placeIn 38 = .ok (.iload_n 3, 1) := by decide +kernel
theorem d_QS_placeIn_39 : decode b_QS_placeIn 39 = .ok (.iastore, 1) := by decide +kernel
theorem d_QS_placeIn_40 : decode b_QS_placeIn 40 = .ok (.aload_n 0, 1) := by decide +kernel
theorem d_QS_placeIn_41 : decode b_QS_placeIn 41 = .ok (.iload_n 1, 1) := by decide +kernel
theorem d_QS_placeIn_42 : decode b_QS_placeIn 42 = .ok (.iconst 1, 1) := by decide +kernel
theorem d_QS_placeIn_43 : decode b_QS_placeIn 43 = .ok (.iadd, 1) := by decide +kernel
theorem d_QS_placeIn_44 : decode b_QS_placeIn 44 = .ok (.iload_n 2, 1) := by decide +kernel
theorem d_QS_placeIn_45 : decode b_QS_placeIn 45 = .ok (.invokevirtual 35, 3) := by decide +kernel
theorem d_QS_placeIn_48 : decode b_QS_placeIn 48 = .ok (.ifCond .eq 5, 3) := by decide +kernel
theorem d_QS_placeIn_51 : decode b_QS_placeIn 51 = .ok (.iconst 1, 1) := by decide +kernel
theorem d_QS_placeIn_52 : decode b_QS_placeIn 52 = .ok (.ireturn, 1) := by decide +kernel
theorem d_QS_placeIn_53 : decode b_QS_placeIn 53 = .ok (.iinc 3 1, 3) := by decide +kernel
theorem d_QS_placeIn_56 : decode b_QS_placeIn 56 = .ok (.goto (-40), 3) := by decide +kernel
theorem d_QS_placeIn_59 : decode b_QS_placeIn 59 = .ok (.iconst 0, 1) := by decide +kernel
theorem d_QS_placeIn_60 : decode b_QS_placeIn 60 = .ok (.ireturn, 1) := by decide +kernel
theorem d_QS_canStand_0 : decode b_QS_canStand 0 = .ok (.aload_n 0, 1) := by decide +kernel
theorem d_QS_canStand_1 : decode b_QS_canStand 1 = .ok (.getfield 28, 3) := by decide +kernel
theorem d_QS_canStand_4 : decode b_QS_canStand 4 = .ok (.iload_n 1, 1) := by decide +kernel
theorem d_QS_canStand_5 : decode b_QS_canStand 5 = .ok (.aload_n 0, 1) := by decide +kernel
theorem d_QS_canStand_6 : decode b_QS_canStand 6 = .ok (.getfield 21, 3) := by decide +kernel
theorem d_QS_canStand_9 : decode b_QS_canStand 9 = .ok (.iload_n 2, 1) := by decide +kernel
theorem d_QS_canStand_10 : decode b_QS_canStand 10 = .ok (.imul, 1) := by decide +kernel
theorem d_QS_canStand_11 : decode b_QS_canStand 11 = .ok (.iadd, 1) := by decide +kernel
theorem d_QS_canStand_12 : decode b_QS_canStand 12 = .ok (.lushr, 1) := by decide +kernel
theorem d_QS_canStand_13 : decode b_QS_canStand 13 = .ok (.lconst 1, 1) := by decide +kernel
theorem d_QS_canStand_14 : decode b_QS_canStand 14 = .ok (.land, 1) := by decide +kernel
theorem d_QS_canStand_15 : decode b_QS_canStand 15 = .ok (.lconst 0, 1) := by decide +kernel
theorem d_QS_canStand_16 : decode b_QS_canStand 16 = .ok (.lcmp, 1) := by decide +kernel
theorem d_QS_canStand_17 : decode b_QS_canStand 17 = .ok (.ifCond .ne 5, 3) := by decide +kernel
theorem d_QS_canStand_20 : decode b_QS_canStand 20 = .ok (.iconst 0, 1) := by decide +kernel
theorem d_QS_canStand_21 : decode b_QS_canStand 21 = .ok (.ireturn, 1) := by decide +kernel
theorem d_QS_canStand_22 : decode b_QS_canStand 22 = .ok (.iconst 0, 1) := by decide +kernel
theorem d_QS_canStand_23 : decode b_QS_canStand 23 = .ok (.istore_n 3, 1) := by decide +kernel
theorem d_QS_canStand_24 : decode b_QS_canStand 24 = .ok (.iload_n 3, 1) := by decide +kernel
theorem d_QS_canStand_25 : decode b_QS_canStand 25 = .ok (.iload_n 1, 1) := by decide +kernel
theorem d_QS_canStand_26 : decode b_QS_canStand 26 = .ok (.if_icmp .ge 43, 3) := by decide +kernel
theorem d_QS_canStand_29 : decode b_QS_canStand 29 = .ok (.iload_n 3, 1) := by decide +kernel
theorem d_QS_canStand_30 : decode b_QS_canStand 30 = .ok (.bipush 6, 2) := by decide +kernel
theorem d_QS_canStand_32 : decode b_QS_canStand 32 = .ok (.if_icmp .ge 37, 3) := by decide +kernel
theorem d_QS_canStand_35 : decode b_QS_canStand 35 = .ok (.aload_n 0, 1) := by decide +kernel
theorem d_QS_canStand_36 : decode b_QS_canStand 36 = .ok (.getfield 9, 3) := by decide +kernel
theorem d_QS_canStand_39 : decode b_QS_canStand 39 = .ok (.iload_n 3, 1) := by decide +kernel
theorem d_QS_canStand_40 : decode b_QS_canStand 40 = .ok (.iaload, 1) := by decide +kernel
theorem d_QS_canStand_41 : decode b_QS_canStand 41 = .ok (.iload_n 2, 1) := by decide +kernel
theorem d_QS_canStand_42 : decode b_QS_canStand 42 = .ok (.isub, 1) := by decide +kernel
theorem d_QS_canStand_43 : decode b_QS_canStand 43 = .ok (.invokestatic 45, 3) := by decide +kernel
theorem d_QS_canStand_46 : decode b_QS_canStand 46 = .ok (.istore 4, 2) := by decide +kernel
theorem d_QS_canStand_48 : decode b_QS_canStand 48 = .ok (.iload 4, 2) := by decide +kernel
theorem d_QS_canStand_50 : decode b_QS_canStand 50 = .ok (.ifCond .eq 11, 3) := by decide +kernel
theorem d_QS_canStand_53 : decode b_QS_canStand 53 = .ok (.iload 4, 2) := by decide +kernel
theorem d_QS_canStand_55 : decode b_QS_canStand 55 = .ok (.iload_n 1, 1) := by decide +kernel
theorem d_QS_canStand_56 : decode b_QS_canStand 56 = .ok (.iload_n 3, 1) := by decide +kernel
theorem d_QS_canStand_57 : decode b_QS_canStand 57 = .ok (.isub, 1) := by decide +kernel
theorem d_QS_canStand_58 : decode b_QS_canStand 58 = .ok (.if_icmp .ne 5, 3) := by decide +kernel
theorem d_QS_canStand_61 : decode b_QS_canStand 61 = .ok (.iconst 0, 1) := by decide +kernel
theorem d_QS_canStand_62 : decode b_QS_canStand 62 = .ok (.ireturn, 1) := by decide +kernel
theorem d_QS_canStand_63 : decode b_QS_canStand 63 = .ok (.iinc 3 1, 3) := by decide +kernel
theorem d_QS_canStand_66 : decode b_QS_canStand 66 = .ok (.goto (-42), 3) := by decide +kernel
theorem d_QS_canStand_69 : decode b_QS_canStand 69 = .ok (.iconst 1, 1) := by decide +kernel
theorem d_QS_canStand_70 : decode b_QS_canStand 70 = .ok (.ireturn, 1) := by decide +kernel
theorem d_TF_queen_0 : decode b_TF_queen 0 = .ok (.aload_n 0, 1) := by decide +kernel
theorem d_TF_queen_1 : decode b_TF_queen 1 = .ok (.getfield 32, 3) := by decide +kernel
theorem d_TF_queen_4 : decode b_TF_queen 4 = .ok (.aload_n 0, 1) := by decide +kernel
theorem d_TF_queen_5 : decode b_TF_queen 5 = .ok (.getfield 18, 3) := by decide +kernel
theorem d_TF_queen_8 : decode b_TF_queen 8 = .ok (.invokevirtual 69, 3) := by decide +kernel
theorem d_TF_queen_11 : decode b_TF_queen 11 = .ok (.iload_n 1, 1) := by decide +kernel
theorem d_TF_queen_12 : decode b_TF_queen 12 = .ok (.iload_n 2, 1) := by decide +kernel
theorem d_TF_queen_13 : decode b_TF_queen 13 = .ok (.invokevirtual 104, 3) := by decide +kernel
theorem d_TF_queen_16 : decode b_TF_queen 16 = .ok (.ireturn, 1) := by decide +kernel
theorem d_QS_rowInWay_0 : decode b_QS_rowInWay 0 = .ok (.iload_n 3, 1) := by decide +kernel
theorem d_QS_rowInWay_1 : decode b_QS_rowInWay 1 = .ok (.ifCond .lt 17, 3) := by decide +kernel
theorem d_QS_rowInWay_4 : decode b_QS_rowInWay 4 = .ok (.iload 4, 2) := by decide +kernel
theorem d_QS_rowInWay_6 : decode b_QS_rowInWay 6 = .ok (.ifCond .lt 12, 3) := by decide +kernel
theorem d_QS_rowInWay_9 : decode b_QS_rowInWay 9 = .ok (.iload 4, 2) := by decide +kernel
theorem d_QS_rowInWay_11 : decode b_QS_rowInWay 11 = .ok (.aload_n 0, 1) := by decide +kernel
theorem d_QS_rowInWay_12 : decode b_QS_rowInWay 12 = .ok (.getfield 21, 3) := by decide +kernel
theorem d_QS_rowInWay_15 : decode b_QS_rowInWay 15 = .ok (.if_icmp .lt 5, 3) := by decide +kernel
theorem d_QS_rowInWay_18 : decode b_QS_rowInWay 18 = .ok (.iconst (-1), 1) := by decide +kernel
theorem d_QS_rowInWay_19 : decode b_QS_rowInWay 19 = .ok (.ireturn, 1) := by decide +kernel
theorem d_QS_rowInWay_20 : decode b_QS_rowInWay 20 = .ok (.aload_n 0, 1) := by decide +kernel
theorem d_QS_rowInWay_21 : decode b_QS_rowInWay 21 = .ok (.lload_n 1, 1) := by decide +kernel
theorem d_QS_rowInWay_22 : decode b_QS_rowInWay 22 = .ok (.putfield 28, 3) := by decide +kernel
theorem d_QS_rowInWay_25 : decode b_QS_rowInWay 25 = .ok (.aload_n 0, 1) := by decide +kernel
theorem d_QS_rowInWay_26 : decode b_QS_rowInWay 26 = .ok (.iconst 0, 1) := by decide +kernel
theorem d_QS_rowInWay_27 : decode b_QS_rowInWay 27 = .ok (.putfield 32, 3) := by decide +kernel
theorem d_QS_rowInWay_30 : decode b_QS_rowInWay 30 = .ok (.aload_n 0, 1) := by decide +kernel
theorem d_QS_rowInWay_31 : decode b_QS_rowInWay 31 = .ok (.iconst 0, 1) := by decide +kernel
theorem d_QS_rowInWay_32 : decode b_QS_rowInWay 32 = .ok (.iload_n 3, 1) := by decide +kernel
theorem d_QS_rowInWay_33 : decode b_QS_rowInWay 33 = .ok (.invokevirtual 35, 3) := by decide +kernel
theorem d_QS_rowInWay_36 : decode b_QS_rowInWay 36 = .ok (.ifCond .eq 13, 3) := by decide +kernel
theorem d_QS_rowInWay_39 : decode b_QS_rowInWay 39 = .ok (.aload_n 0, 1) := by decide +kernel
theorem d_QS_rowInWay_40 : decode b_QS_rowInWay 40 = .ok (.getfield 9, 3) := by decide +kernel
theorem d_QS_rowInWay_43 : decode b_QS_rowInWay 43 = .ok (.iload 4, 2) := by decide +kernel
theorem d_QS_rowInWay_45 : decode b_QS_rowInWay 45 = .ok (.iaload, 1) := by decide +kernel
theorem d_QS_rowInWay_46 : decode b_QS_rowInWay 46 = .ok (.goto 4, 3) := by decide +kernel
theorem d_QS_rowInWay_49 : decode b_QS_rowInWay 49 = .ok (.iconst (-1), 1) := by decide +kernel
theorem d_QS_rowInWay_50 : decode b_QS_rowInWay 50 = .ok (.ireturn, 1) := by decide +kernel
theorem d_TF_given_0 : decode b_TF_given 0 = .ok (.aload_n 0, 1) := by decide +kernel
theorem d_TF_given_1 : decode b_TF_given 1 = .ok (.getfield 18, 3) := by decide +kernel
theorem d_TF_given_4 : decode b_TF_given 4 = .ok (.iload_n 1, 1) := by decide +kernel
theorem d_TF_given_5 : decode b_TF_given 5 = .ok (.iload_n 2, 1) := by decide +kernel
theorem d_TF_given_6 : decode b_TF_given 6 = .ok (.invokevirtual 47, 3) := by decide +kernel
theorem d_TF_given_9 : decode b_TF_given 9 = .ok (.istore 4, 2) := by decide +kernel
theorem d_TF_given_11 : decode b_TF_given 11 = .ok (.iload 4, 2) := by decide +kernel
theorem d_TF_given_13 : decode b_TF_given 13 = .ok (.ifCond .lt 14, 3) := by decide +kernel
theorem d_TF_given_16 : decode b_TF_given 16 = .ok (.aload_n 0, 1) := by decide +kernel
theorem d_TF_given_17 : decode b_TF_given 17 = .ok (.getfield 39, 3) := by decide +kernel
theorem d_TF_given_20 : decode b_TF_given 20 = .ok (.iload_n 3, 1) := by decide +kernel
theorem d_TF_given_21 : decode b_TF_given 21 = .ok (.invokevirtual 108, 3) := by decide +kernel
theorem d_TF_given_24 : decode b_TF_given 24 = .ok (.ifCond .ne 5, 3) := by decide +kernel
theorem d_TF_given_27 : decode b_TF_given 27 = .ok (.iconst 0, 1) := by decide +kernel
theorem d_TF_given_28 : decode b_TF_given 28 = .ok (.ireturn, 1) := by decide +kernel
theorem d_TF_given_29 : decode b_TF_given 29 = .ok (.aload_n 0, 1) := by decide +kernel
theorem d_TF_given_30 : decode b_TF_given 30 = .ok (.getfield 39, 3) := by decide +kernel
theorem d_TF_given_33 : decode b_TF_given 33 = .ok (.iload 4, 2) := by decide +kernel
theorem d_TF_given_35 : decode b_TF_given 35 = .ok (.iload_n 3, 1) := by decide +kernel
theorem d_TF_given_36 : decode b_TF_given 36 = .ok (.invokevirtual 111, 3) := by decide +kernel
theorem d_TF_given_39 : decode b_TF_given 39 = .ok (.iconst 1, 1) := by decide +kernel
theorem d_TF_given_40 : decode b_TF_given 40 = .ok (.ireturn, 1) := by decide +kernel
theorem d_RC_allows_0 : decode b_RC_allows 0 = .ok (.iload_n 1, 1) := by decide +kernel
theorem d_RC_allows_1 : decode b_RC_allows 1 = .ok (.ifCond .lt 15, 3) := by decide +kernel
theorem d_RC_allows_4 : decode b_RC_allows 4 = .ok (.iload_n 1, 1) := by decide +kernel
theorem d_RC_allows_5 : decode b_RC_allows 5 = .ok (.aload_n 0, 1) := by decide +kernel
theorem d_RC_allows_6 : decode b_RC_allows 6 = .ok (.getfield 55, 3) := by decide +kernel
theorem d_RC_allows_9 : decode b_RC_allows 9 = .ok (.if_icmp .gt 7, 3) := by decide +kernel
theorem d_RC_allows_12 : decode b_RC_allows 12 = .ok (.iconst 1, 1) := by decide +kernel
theorem d_RC_allows_13 : decode b_RC_allows 13 = .ok (.goto 4, 3) := by decide +kernel
theorem d_RC_allows_16 : decode b_RC_allows 16 = .ok (.iconst 0, 1) := by decide +kernel
theorem d_RC_allows_17 : decode b_RC_allows 17 = .ok (.ireturn, 1) := by decide +kernel
theorem d_RC_give_0 : decode b_RC_give 0 = .ok (.iload_n 1, 1) := by decide +kernel
theorem d_RC_give_1 : decode b_RC_give 1 = .ok (.ifCond .lt 21, 3) := by decide +kernel
theorem d_RC_give_4 : decode b_RC_give 4 = .ok (.iload_n 1, 1) := by decide +kernel
theorem d_RC_give_5 : decode b_RC_give 5 = .ok (.bipush 36, 2) := by decide +kernel
theorem d_RC_give_7 : decode b_RC_give 7 = .ok (.if_icmp .ge 15, 3) := by decide +kernel
theorem d_RC_give_10 : decode b_RC_give 10 = .ok (.aload_n 0, 1) := by decide +kernel
theorem d_RC_give_11 : decode b_RC_give 11 = .ok (.getfield 9, 3) := by decide +kernel
theorem d_RC_give_14 : decode b_RC_give 14 = .ok (.iload_n 1, 1) := by decide +kernel
theorem d_RC_give_15 : decode b_RC_give 15 = .ok (.iload_n 2, 1) := by decide +kernel
theorem d_RC_give_16 : decode b_RC_give 16 = .ok (.iastore, 1) := by decide +kernel
theorem d_RC_give_17 : decode b_RC_give 17 = .ok (.aload_n 0, 1) := by decide +kernel
theorem d_RC_give_18 : decode b_RC_give 18 = .ok (.iconst 0, 1) := by decide +kernel
theorem d_RC_give_19 : decode b_RC_give 19 = .ok (.putfield 64, 3) := by decide +kernel
theorem d_RC_give_22 : decode b_RC_give 22 = .ok (.return_, 1) := by decide +kernel
theorem d_TF_fill_0 : decode b_TF_fill 0 = .ok (.aload_n 0, 1) := by decide +kernel
theorem d_TF_fill_1 : decode b_TF_fill 1 = .ok (.getfield 39, 3) := by decide +kernel
theorem d_TF_fill_4 : decode b_TF_fill 4 = .ok (.invokevirtual 114, 3) := by decide +kernel
theorem d_TF_fill_7 : decode b_TF_fill 7 = .ok (.ireturn, 1) := by decide +kernel
theorem d_RC_findLeast_0 : decode b_RC_findLeast 0 = .ok (.aload_n 0, 1) := by decide +kernel
theorem d_RC_findLeast_1 : decode b_RC_findLeast 1 = .ok (.aload_n 0, 1) := by decide +kernel
theorem d_RC_findLeast_2 : decode b_RC_findLeast 2 = .ok (.invokevirtual 68, 3) := by decide +kernel
theorem d_RC_findLeast_5 : decode b_RC_findLeast 5 = .ok (.ifCond .eq 16, 3) := by decide +kernel
theorem d_RC_findLeast_8 : decode b_RC_findLeast 8 = .ok (.aload_n 0, 1) := by decide +kernel
theorem d_RC_findLeast_9 : decode b_RC_findLeast 9 = .ok (.iconst 0, 1) := by decide +kernel
theorem d_RC_findLeast_10 : decode b_RC_findLeast 10 = .ok (.iconst 1, 1) := by decide +kernel
theorem d_RC_findLeast_11 : decode b_RC_findLeast 11 = .ok (.invokevirtual 72, 3) := by decide +kernel
theorem d_RC_findLeast_14 : decode b_RC_findLeast 14 = .ok (.ifCond .le 7, 3) := by decide +kernel
theorem d_RC_findLeast_17 : decode b_RC_findLeast 17 = .ok (.iconst 1, 1) := by decide +kernel
theorem d_RC_findLeast_18 : decode b_RC_findLeast 18 = .ok (.goto 4, 3) := by decide +kernel
theorem d_RC_findLeast_21 : decode b_RC_findLeast 21 = .ok (.iconst 0, 1) := by decide +kernel
theorem d_RC_findLeast_22 : decode b_RC_findLeast 22 = .ok (.putfield 64, 3) := by decide +kernel
theorem d_RC_findLeast_25 : decode b_RC_findLeast 25 = .ok (.iconst 0, 1) := by decide +kernel
theorem d_RC_findLeast_26 : decode b_RC_findLeast 26 = .ok (.istore_n 1, 1) := by decide +kernel
theorem d_RC_findLeast_27 : decode b_RC_findLeast 27 = .ok (.aload_n 0, 1) := by decide +kernel
theorem d_RC_findLeast_28 : decode b_RC_findLeast 28 = .ok (.getfield 64, 3) := by decide +kernel
theorem d_RC_findLeast_31 : decode b_RC_findLeast 31 = .ok (.ifCond .eq 31, 3) := by decide +kernel
theorem d_RC_findLeast_34 : decode b_RC_findLeast 34 = .ok (.iload_n 1, 1) := by decide +kernel
theorem d_RC_findLeast_35 : decode b_RC_findLeast 35 = .ok (.aload_n 0, 1) := by decide +kernel
end
section
theorem d_RC_findLeast_36 : decode b_RC_findLeast 36 = .ok (.getfield 48, 3) := by decide +kernel
theorem d_RC_findLeast_39 : decode b_RC_findLeast 39 = .ok (.if_icmp .ge 23, 3) := by decide +kernel
theorem d_RC_findLeast_42 : decode b_RC_findLeast 42 = .ok (.aload_n 0, 1) := by decide +kernel
theorem d_RC_findLeast_43 : decode b_RC_findLeast 43 = .ok (.getfield 18, 3) := by decide +kernel
theorem d_RC_findLeast_46 : decode b_RC_findLeast 46 = .ok (.iload_n 1, 1) := by decide +kernel
theorem d_RC_findLeast_47 : decode b_RC_findLeast 47 = .ok (.iaload, 1) := by decide +kernel
theorem d_RC_findLeast_48 : decode b_RC_findLeast 48 = .ok (.ifCond .ne 8, 3) := by decide +kernel
theorem d_RC_findLeast_51 : decode b_RC_findLeast 51 = .ok (.aload_n 0, 1) := by decide +kernel
theorem d_RC_findLeast_52 : decode b_RC_findLeast 52 = .ok (.iload_n 1, 1) := by decide +kernel
theorem d_RC_findLeast_53 : decode b_RC_findLeast 53 = .ok (.invokevirtual 75, 3) := by decide +kernel
theorem d_RC_findLeast_56 : decode b_RC_findLeast 56 = .ok (.iinc 1 1, 3) := by decide +kernel
theorem d_RC_findLeast_59 : decode b_RC_findLeast 59 = .ok (.goto (-32), 3) := by decide +kernel
theorem d_RC_findLeast_62 : decode b_RC_findLeast 62 = .ok (.aload_n 0, 1) := by decide +kernel
theorem d_RC_findLeast_63 : decode b_RC_findLeast 63 = .ok (.getfield 64, 3) := by decide +kernel
theorem d_RC_findLeast_66 : decode b_RC_findLeast 66 = .ok (.ifCond .eq 18, 3) := by decide +kernel
theorem d_RC_findLeast_69 : decode b_RC_findLeast 69 = .ok (.aload_n 0, 1) := by decide +kernel
theorem d_RC_findLeast_70 : decode b_RC_findLeast 70 = .ok (.getfield 18, 3) := by decide +kernel
theorem d_RC_findLeast_73 : decode b_RC_findLeast 73 = .ok (.iconst 0, 1) := by decide +kernel
theorem d_RC_findLeast_74 : decode b_RC_findLeast 74 = .ok (.aload_n 0, 1) := by decide +kernel
theorem d_RC_findLeast_75 : decode b_RC_findLeast 75 = .ok (.getfield 15, 3) := by decide +kernel
theorem d_RC_findLeast_78 : decode b_RC_findLeast 78 = .ok (.iconst 0, 1) := by decide +kernel
theorem d_RC_findLeast_79 : decode b_RC_findLeast 79 = .ok (.bipush 36, 2) := by decide +kernel
theorem d_RC_findLeast_81 : decode b_RC_findLeast 81 = .ok (.invokestatic 79, 3) := by decide +kernel
theorem d_RC_findLeast_84 : decode b_RC_findLeast 84 = .ok (.aload_n 0, 1) := by decide +kernel
theorem d_RC_findLeast_85 : decode b_RC_findLeast 85 = .ok (.getfield 64, 3) := by decide +kernel
theorem d_RC_findLeast_88 : decode b_RC_findLeast 88 = .ok (.ireturn, 1) := by decide +kernel
theorem d_RC_layGiven_0 : decode b_RC_layGiven 0 = .ok (.iconst 0, 1) := by decide +kernel
theorem d_RC_layGiven_1 : decode b_RC_layGiven 1 = .ok (.istore_n 1, 1) := by decide +kernel
theorem d_RC_layGiven_2 : decode b_RC_layGiven 2 = .ok (.iload_n 1, 1) := by decide +kernel
theorem d_RC_layGiven_3 : decode b_RC_layGiven 3 = .ok (.bipush 6, 2) := by decide +kernel
theorem d_RC_layGiven_5 : decode b_RC_layGiven 5 = .ok (.if_icmp .ge 23, 3) := by decide +kernel
theorem d_RC_layGiven_8 : decode b_RC_layGiven 8 = .ok (.aload_n 0, 1) := by decide +kernel
theorem d_RC_layGiven_9 : decode b_RC_layGiven 9 = .ok (.getfield 30, 3) := by decide +kernel
theorem d_RC_layGiven_12 : decode b_RC_layGiven 12 = .ok (.iload_n 1, 1) := by decide +kernel
theorem d_RC_layGiven_13 : decode b_RC_layGiven 13 = .ok (.iconst 0, 1) := by decide +kernel
theorem d_RC_layGiven_14 : decode b_RC_layGiven 14 = .ok (.iastore, 1) := by decide +kernel
theorem d_RC_layGiven_15 : decode b_RC_layGiven 15 = .ok (.aload_n 0, 1) := by decide +kernel
theorem d_RC_layGiven_16 : decode b_RC_layGiven 16 = .ok (.getfield 33, 3) := by decide +kernel
theorem d_RC_layGiven_19 : decode b_RC_layGiven 19 = .ok (.iload_n 1, 1) := by decide +kernel
theorem d_RC_layGiven_20 : decode b_RC_layGiven 20 = .ok (.iconst 0, 1) := by decide +kernel
theorem d_RC_layGiven_21 : decode b_RC_layGiven 21 = .ok (.iastore, 1) := by decide +kernel
theorem d_RC_layGiven_22 : decode b_RC_layGiven 22 = .ok (.iinc 1 1, 3) := by decide +kernel
theorem d_RC_layGiven_25 : decode b_RC_layGiven 25 = .ok (.goto (-23), 3) := by decide +kernel
theorem d_RC_layGiven_28 : decode b_RC_layGiven 28 = .ok (.iconst 0, 1) := by decide +kernel
theorem d_RC_layGiven_29 : decode b_RC_layGiven 29 = .ok (.istore_n 1, 1) := by decide +kernel
theorem d_RC_layGiven_30 : decode b_RC_layGiven 30 = .ok (.iload_n 1, 1) := by decide +kernel
theorem d_RC_layGiven_31 : decode b_RC_layGiven 31 = .ok (.aload_n 0, 1) := by decide +kernel
theorem d_RC_layGiven_32 : decode b_RC_layGiven 32 = .ok (.getfield 48, 3) := by decide +kernel
theorem d_RC_layGiven_35 : decode b_RC_layGiven 35 = .ok (.if_icmp .ge 16, 3) := by decide +kernel
theorem d_RC_layGiven_38 : decode b_RC_layGiven 38 = .ok (.aload_n 0, 1) := by decide +kernel
theorem d_RC_layGiven_39 : decode b_RC_layGiven 39 = .ok (.getfield 18, 3) := by decide +kernel
theorem d_RC_layGiven_42 : decode b_RC_layGiven 42 = .ok (.iload_n 1, 1) := by decide +kernel
theorem d_RC_layGiven_43 : decode b_RC_layGiven 43 = .ok (.iconst 0, 1) := by decide +kernel
theorem d_RC_layGiven_44 : decode b_RC_layGiven 44 = .ok (.iastore, 1) := by decide +kernel
theorem d_RC_layGiven_45 : decode b_RC_layGiven 45 = .ok (.iinc 1 1, 3) := by decide +kernel
theorem d_RC_layGiven_48 : decode b_RC_layGiven 48 = .ok (.goto (-18), 3) := by decide +kernel
theorem d_RC_layGiven_51 : decode b_RC_layGiven 51 = .ok (.iconst 0, 1) := by decide +kernel
theorem d_RC_layGiven_52 : decode b_RC_layGiven 52 = .ok (.istore_n 1, 1) := by decide +kernel
theorem d_RC_layGiven_53 : decode b_RC_layGiven 53 = .ok (.iload_n 1, 1) := by decide +kernel
theorem d_RC_layGiven_54 : decode b_RC_layGiven 54 = .ok (.aload_n 0, 1) := by decide +kernel
theorem d_RC_layGiven_55 : decode b_RC_layGiven 55 = .ok (.getfield 48, 3) := by decide +kernel
theorem d_RC_layGiven_58 : decode b_RC_layGiven 58 = .ok (.if_icmp .ge 40, 3) := by decide +kernel
theorem d_RC_layGiven_61 : decode b_RC_layGiven 61 = .ok (.aload_n 0, 1) := by decide +kernel
theorem d_RC_layGiven_62 : decode b_RC_layGiven 62 = .ok (.getfield 9, 3) := by decide +kernel
theorem d_RC_layGiven_65 : decode b_RC_layGiven 65 = .ok (.iload_n 1, 1) := by decide +kernel
theorem d_RC_layGiven_66 : decode b_RC_layGiven 66 = .ok (.iaload, 1) := by decide +kernel
theorem d_RC_layGiven_67 : decode b_RC_layGiven 67 = .ok (.istore_n 2, 1) := by decide +kernel
theorem d_RC_layGiven_68 : decode b_RC_layGiven 68 = .ok (.iload_n 2, 1) := by decide +kernel
theorem d_RC_layGiven_69 : decode b_RC_layGiven 69 = .ok (.ifCond .eq 23, 3) := by decide +kernel
theorem d_RC_layGiven_72 : decode b_RC_layGiven 72 = .ok (.aload_n 0, 1) := by decide +kernel
theorem d_RC_layGiven_73 : decode b_RC_layGiven 73 = .ok (.iload_n 1, 1) := by decide +kernel
theorem d_RC_layGiven_74 : decode b_RC_layGiven 74 = .ok (.invokevirtual 85, 3) := by decide +kernel
theorem d_RC_layGiven_77 : decode b_RC_layGiven 77 = .ok (.iload_n 2, 1) := by decide +kernel
theorem d_RC_layGiven_78 : decode b_RC_layGiven 78 = .ok (.iushr, 1) := by decide +kernel
theorem d_RC_layGiven_79 : decode b_RC_layGiven 79 = .ok (.iconst 1, 1) := by decide +kernel
theorem d_RC_layGiven_80 : decode b_RC_layGiven 80 = .ok (.iand, 1) := by decide +kernel
theorem d_RC_layGiven_81 : decode b_RC_layGiven 81 = .ok (.ifCond .ne 5, 3) := by decide +kernel
theorem d_RC_layGiven_84 : decode b_RC_layGiven 84 = .ok (.iconst 0, 1) := by decide +kernel
theorem d_RC_layGiven_85 : decode b_RC_layGiven 85 = .ok (.ireturn, 1) := by decide +kernel
theorem d_RC_layGiven_86 : decode b_RC_layGiven 86 = .ok (.aload_n 0, 1) := by decide +kernel
theorem d_RC_layGiven_87 : decode b_RC_layGiven 87 = .ok (.iload_n 1, 1) := by decide +kernel
theorem d_RC_layGiven_88 : decode b_RC_layGiven 88 = .ok (.iload_n 2, 1) := by decide +kernel
theorem d_RC_layGiven_89 : decode b_RC_layGiven 89 = .ok (.invokevirtual 89, 3) := by decide +kernel
theorem d_RC_layGiven_92 : decode b_RC_layGiven 92 = .ok (.iinc 1 1, 3) := by decide +kernel
theorem d_RC_layGiven_95 : decode b_RC_layGiven 95 = .ok (.goto (-42), 3) := by decide +kernel
theorem d_RC_layGiven_98 : decode b_RC_layGiven 98 = .ok (.iconst 1, 1) := by decide +kernel
theorem d_RC_layGiven_99 : decode b_RC_layGiven 99 = .ok (.ireturn, 1) := by decide +kernel
theorem d_RC_choicesAt_0 : decode b_RC_choicesAt 0 = .ok (.iload_n 1, 1) := by decide +kernel
theorem d_RC_choicesAt_1 : decode b_RC_choicesAt 1 = .ok (.ifCond .lt 9, 3) := by decide +kernel
theorem d_RC_choicesAt_4 : decode b_RC_choicesAt 4 = .ok (.iload_n 1, 1) := by decide +kernel
theorem d_RC_choicesAt_5 : decode b_RC_choicesAt 5 = .ok (.bipush 36, 2) := by decide +kernel
theorem d_RC_choicesAt_7 : decode b_RC_choicesAt 7 = .ok (.if_icmp .lt 5, 3) := by decide +kernel
theorem d_RC_choicesAt_10 : decode b_RC_choicesAt 10 = .ok (.iconst 0, 1) := by decide +kernel
theorem d_RC_choicesAt_11 : decode b_RC_choicesAt 11 = .ok (.ireturn, 1) := by decide +kernel
theorem d_RC_choicesAt_12 : decode b_RC_choicesAt 12 = .ok (.aload_n 0, 1) := by decide +kernel
theorem d_RC_choicesAt_13 : decode b_RC_choicesAt 13 = .ok (.getfield 61, 3) := by decide +kernel
theorem d_RC_choicesAt_16 : decode b_RC_choicesAt 16 = .ok (.aload_n 0, 1) := by decide +kernel
theorem d_RC_choicesAt_17 : decode b_RC_choicesAt 17 = .ok (.getfield 30, 3) := by decide +kernel
theorem d_RC_choicesAt_20 : decode b_RC_choicesAt 20 = .ok (.aload_n 0, 1) := by decide +kernel
theorem d_RC_choicesAt_21 : decode b_RC_choicesAt 21 = .ok (.getfield 24, 3) := by decide +kernel
theorem d_RC_choicesAt_24 : decode b_RC_choicesAt 24 = .ok (.iload_n 1, 1) := by decide +kernel
theorem d_RC_choicesAt_25 : decode b_RC_choicesAt 25 = .ok (.iaload, 1) := by decide +kernel
theorem d_RC_choicesAt_26 : decode b_RC_choicesAt 26 = .ok (.iaload, 1) := by decide +kernel
theorem d_RC_choicesAt_27 : decode b_RC_choicesAt 27 = .ok (.aload_n 0, 1) := by decide +kernel
theorem d_RC_choicesAt_28 : decode b_RC_choicesAt 28 = .ok (.getfield 33, 3) := by decide +kernel
theorem d_RC_choicesAt_31 : decode b_RC_choicesAt 31 = .ok (.aload_n 0, 1) := by decide +kernel
theorem d_RC_choicesAt_32 : decode b_RC_choicesAt 32 = .ok (.getfield 27, 3) := by decide +kernel
theorem d_RC_choicesAt_35 : decode b_RC_choicesAt 35 = .ok (.iload_n 1, 1) := by decide +kernel
theorem d_RC_choicesAt_36 : decode b_RC_choicesAt 36 = .ok (.iaload, 1) := by decide +kernel
theorem d_RC_choicesAt_37 : decode b_RC_choicesAt 37 = .ok (.iaload, 1) := by decide +kernel
theorem d_RC_choicesAt_38 : decode b_RC_choicesAt 38 = .ok (.ior, 1) := by decide +kernel
theorem d_RC_choicesAt_39 : decode b_RC_choicesAt 39 = .ok (.iconst (-1), 1) := by decide +kernel
theorem d_RC_choicesAt_40 : decode b_RC_choicesAt 40 = .ok (.ixor, 1) := by decide +kernel
theorem d_RC_choicesAt_41 : decode b_RC_choicesAt 41 = .ok (.iand, 1) := by decide +kernel
theorem d_RC_choicesAt_42 : decode b_RC_choicesAt 42 = .ok (.ireturn, 1) := by decide +kernel
theorem d_RC_put_0 : decode b_RC_put 0 = .ok (.iload_n 1, 1) := by decide +kernel
theorem d_RC_put_1 : decode b_RC_put 1 = .ok (.ifCond .lt 9, 3) := by decide +kernel
theorem d_RC_put_4 : decode b_RC_put 4 = .ok (.iload_n 1, 1) := by decide +kernel
theorem d_RC_put_5 : decode b_RC_put 5 = .ok (.bipush 36, 2) := by decide +kernel
theorem d_RC_put_7 : decode b_RC_put 7 = .ok (.if_icmp .lt 4, 3) := by decide +kernel
theorem d_RC_put_10 : decode b_RC_put 10 = .ok (.return_, 1) := by decide +kernel
theorem d_RC_put_11 : decode b_RC_put 11 = .ok (.aload_n 0, 1) := by decide +kernel
theorem d_RC_put_12 : decode b_RC_put 12 = .ok (.getfield 18, 3) := by decide +kernel
theorem d_RC_put_15 : decode b_RC_put 15 = .ok (.iload_n 1, 1) := by decide +kernel
theorem d_RC_put_16 : decode b_RC_put 16 = .ok (.iload_n 2, 1) := by decide +kernel
theorem d_RC_put_17 : decode b_RC_put 17 = .ok (.iastore, 1) := by decide +kernel
theorem d_RC_put_18 : decode b_RC_put 18 = .ok (.aload_n 0, 1) := by decide +kernel
theorem d_RC_put_19 : decode b_RC_put 19 = .ok (.getfield 30, 3) := by decide +kernel
theorem d_RC_put_22 : decode b_RC_put 22 = .ok (.aload_n 0, 1) := by decide +kernel
theorem d_RC_put_23 : decode b_RC_put 23 = .ok (.getfield 24, 3) := by decide +kernel
theorem d_RC_put_26 : decode b_RC_put 26 = .ok (.iload_n 1, 1) := by decide +kernel
theorem d_RC_put_27 : decode b_RC_put 27 = .ok (.iaload, 1) := by decide +kernel
theorem d_RC_put_28 : decode b_RC_put 28 = .ok (.dup2, 1) := by decide +kernel
theorem d_RC_put_29 : decode b_RC_put 29 = .ok (.iaload, 1) := by decide +kernel
theorem d_RC_put_30 : decode b_RC_put 30 = .ok (.iconst 1, 1) := by decide +kernel
theorem d_RC_put_31 : decode b_RC_put 31 = .ok (.iload_n 2, 1) := by decide +kernel
theorem d_RC_put_32 : decode b_RC_put 32 = .ok (.ishl, 1) := by decide +kernel
theorem d_RC_put_33 : decode b_RC_put 33 = .ok (.ior, 1) := by decide +kernel
theorem d_RC_put_34 : decode b_RC_put 34 = .ok (.iastore, 1) := by decide +kernel
theorem d_RC_put_35 : decode b_RC_put 35 = .ok (.aload_n 0, 1) := by decide +kernel
theorem d_RC_put_36 : decode b_RC_put 36 = .ok (.getfield 33, 3) := by decide +kernel
theorem d_RC_put_39 : decode b_RC_put 39 = .ok (.aload_n 0, 1) := by decide +kernel
theorem d_RC_put_40 : decode b_RC_put 40 = .ok (.getfield 27, 3) := by decide +kernel
theorem d_RC_put_43 : decode b_RC_put 43 = .ok (.iload_n 1, 1) := by decide +kernel
theorem d_RC_put_44 : decode b_RC_put 44 = .ok (.iaload, 1) := by decide +kernel
theorem d_RC_put_45 : decode b_RC_put 45 = .ok (.dup2, 1) := by decide +kernel
theorem d_RC_put_46 : decode b_RC_put 46 = .ok (.iaload, 1) := by decide +kernel
theorem d_RC_put_47 : decode b_RC_put 47 = .ok (.iconst 1, 1) := by decide +kernel
theorem d_RC_put_48 : decode b_RC_put 48 = .ok (.iload_n 2, 1) := by decide +kernel
theorem d_RC_put_49 : decode b_RC_put 49 = .ok (.ishl, 1) := by decide +kernel
theorem d_RC_put_50 : decode b_RC_put 50 = .ok (.ior, 1) := by decide +kernel
theorem d_RC_put_51 : decode b_RC_put 51 = .ok (.iastore, 1) := by decide +kernel
theorem d_RC_put_52 : decode b_RC_put 52 = .ok (.return_, 1) := by decide +kernel
theorem d_RC_countFrom_0 : decode b_RC_countFrom 0 = .ok (.aload_n 0, 1) := by decide +kernel
theorem d_RC_countFrom_1 : decode b_RC_countFrom 1 = .ok (.invokevirtual 96, 3) := by decide +kernel
theorem d_RC_countFrom_4 : decode b_RC_countFrom 4 = .ok (.istore_n 3, 1) := by decide +kernel
theorem d_RC_countFrom_5 : decode b_RC_countFrom 5 = .ok (.iload_n 3, 1) := by decide +kernel
theorem d_RC_countFrom_6 : decode b_RC_countFrom 6 = .ok (.ifCond .ge 20, 3) := by decide +kernel
theorem d_RC_countFrom_9 : decode b_RC_countFrom 9 = .ok (.aload_n 0, 1) := by decide +kernel
theorem d_RC_countFrom_10 : decode b_RC_countFrom 10 = .ok (.getfield 18, 3) := by decide +kernel
theorem d_RC_countFrom_13 : decode b_RC_countFrom 13 = .ok (.iconst 0, 1) := by decide +kernel
theorem d_RC_countFrom_14 : decode b_RC_countFrom 14 = .ok (.aload_n 0, 1) := by decide +kernel
theorem d_RC_countFrom_15 : decode b_RC_countFrom 15 = .ok (.getfield 21, 3) := by decide +kernel
theorem d_RC_countFrom_18 : decode b_RC_countFrom 18 = .ok (.iconst 0, 1) := by decide +kernel
theorem d_RC_countFrom_19 : decode b_RC_countFrom 19 = .ok (.bipush 36, 2) := by decide +kernel
theorem d_RC_countFrom_21 : decode b_RC_countFrom 21 = .ok (.invokestatic 79, 3) := by decide +kernel
theorem d_RC_countFrom_24 : decode b_RC_countFrom 24 = .ok (.iconst 1, 1) := by decide +kernel
theorem d_RC_countFrom_25 : decode b_RC_countFrom 25 = .ok (.ireturn, 1) := by decide +kernel
theorem d_RC_countFrom_26 : decode b_RC_countFrom 26 = .ok (.aload_n 0, 1) := by decide +kernel
theorem d_RC_countFrom_27 : decode b_RC_countFrom 27 = .ok (.iload_n 3, 1) := by decide +kernel
theorem d_RC_countFrom_28 : decode b_RC_countFrom 28 = .ok (.invokevirtual 85, 3) := by decide +kernel
theorem d_RC_countFrom_31 : decode b_RC_countFrom 31 = .ok (.istore 4, 2) := by decide +kernel
theorem d_RC_countFrom_33 : decode b_RC_countFrom 33 = .ok (.iload_n 1, 1) := by decide +kernel
theorem d_RC_countFrom_34 : decode b_RC_countFrom 34 = .ok (.bipush 36, 2) := by decide +kernel
theorem d_RC_countFrom_36 : decode b_RC_countFrom 36 = .ok (.if_icmp .ge 19, 3) := by decide +kernel
theorem d_RC_countFrom_39 : decode b_RC_countFrom 39 = .ok (.iload 4, 2) := by decide +kernel
theorem d_RC_countFrom_41 : decode b_RC_countFrom 41 = .ok (.invokestatic 100, 3) := by decide +kernel
theorem d_RC_countFrom_44 : decode b_RC_countFrom 44 = .ok (.iconst 1, 1) := by decide +kernel
theorem d_RC_countFrom_45 : decode b_RC_countFrom 45 = .ok (.if_icmp .le 14, 3) := by decide +kernel
theorem d_RC_countFrom_48 : decode b_RC_countFrom 48 = .ok (.aload_n 0, 1) := by decide +kernel
theorem d_RC_countFrom_49 : decode b_RC_countFrom 49 = .ok (.invokevirtual 105, 3) := by decide +kernel
theorem d_RC_countFrom_52 : decode b_RC_countFrom 52 = .ok (.ifCond .eq 7, 3) := by decide +kernel
theorem d_RC_countFrom_55 : decode b_RC_countFrom 55 = .ok (.iconst 1, 1) := by decide +kernel
theorem d_RC_countFrom_56 : decode b_RC_countFrom 56 = .ok (.goto 4, 3) := by decide +kernel
theorem d_RC_countFrom_59 : decode b_RC_countFrom 59 = .ok (.iconst 0, 1) := by decide +kernel
theorem d_RC_countFrom_60 : decode b_RC_countFrom 60 = .ok (.istore 5, 2) := by decide +kernel
theorem d_RC_countFrom_62 : decode b_RC_countFrom 62 = .ok (.iload 5, 2) := by decide +kernel
theorem d_RC_countFrom_64 : decode b_RC_countFrom 64 = .ok (.ifCond .eq 7, 3) := by decide +kernel
theorem d_RC_countFrom_67 : decode b_RC_countFrom 67 = .ok (.iconst 0, 1) := by decide +kernel
theorem d_RC_countFrom_68 : decode b_RC_countFrom 68 = .ok (.goto 12, 3) := by decide +kernel
theorem d_RC_countFrom_71 : decode b_RC_countFrom 71 = .ok (.aload_n 0, 1) := by decide +kernel
theorem d_RC_countFrom_72 : decode b_RC_countFrom 72 = .ok (.iload_n 3, 1) := by decide +kernel
theorem d_RC_countFrom_73 : decode b_RC_countFrom 73 = .ok (.iload 4, 2) := by decide +kernel
theorem d_RC_countFrom_75 : decode b_RC_countFrom 75 = .ok (.iload_n 1, 1) := by decide +kernel
theorem d_RC_countFrom_76 : decode b_RC_countFrom 76 = .ok (.iload_n 2, 1) := by decide +kernel
theorem d_RC_countFrom_77 : decode b_RC_countFrom 77 = .ok (.invokevirtual 108, 3) := by decide +kernel
theorem d_RC_countFrom_80 : decode b_RC_countFrom 80 = .ok (.ireturn, 1) := by decide +kernel
theorem d_RC_narrowestOpenCell_0 : decode b_RC_narrowestOpenCell 0 = .ok (.iconst (-1), 1) := by decide +kernel
theorem d_RC_narrowestOpenCell_1 : decode b_RC_narrowestOpenCell 1 = .ok (.istore_n 1, 1) := by decide +kernel
theorem d_RC_narrowestOpenCell_2 : decode b_RC_narrowestOpenCell 2 = .ok (.aload_n 0, 1) := by decide +kernel
theorem d_RC_narrowestOpenCell_3 : decode b_RC_narrowestOpenCell 3 = .ok (.getfield 55, 3) := by decide +kernel
theorem d_RC_narrowestOpenCell_6 : decode b_RC_narrowestOpenCell 6 = .ok (.iconst 1, 1) := by decide +kernel
theorem d_RC_narrowestOpenCell_7 : decode b_RC_narrowestOpenCell 7 = .ok (.iadd, 1) := by decide +kernel
theorem d_RC_narrowestOpenCell_8 : decode b_RC_narrowestOpenCell 8 = .ok (.istore_n 2, 1) := by decide +kernel
theorem d_RC_narrowestOpenCell_9 : decode b_RC_narrowestOpenCell 9 = .ok (.iconst 0, 1) := by decide +kernel
theorem d_RC_narrowestOpenCell_10 : decode b_RC_narrowestOpenCell 10 = .ok (.istore_n 3, 1) := by decide +kernel
theorem d_RC_narrowestOpenCell_11 : decode b_RC_narrowestOpenCell 11 = .ok (.iload_n 3, 1) := by decide +kernel
theorem d_RC_narrowestOpenCell_12 : decode b_RC_narrowestOpenCell 12 = .ok (.aload_n 0, 1) := by decide +kernel
theorem d_RC_narrowestOpenCell_13 : decode b_RC_narrowestOpenCell 13 = .ok (.getfield 48, 3) := by decide +kernel
theorem d_RC_narrowestOpenCell_16 : decode b_RC_narrowestOpenCell 16 = .ok (.if_icmp .ge 44, 3) := by decide +kernel
theorem d_RC_narrowestOpenCell_19 : decode b_RC_narrowestOpenCell 19 = .ok (.iload_n 2, 1) := by decide +kernel
theorem d_RC_narrowestOpenCell_20 : decode b_RC_narrowestOpenCell 20 = .ok (.iconst 1, 1) := by decide +kernel
theorem d_RC_narrowestOpenCell_21 : decode b_RC_narrowestOpenCell 21 = .ok (.if_icmp .le 39, 3) := by decide +kernel
theorem d_RC_narrowestOpenCell_24 : decode b_RC_narrowestOpenCell 24 = .ok (.aload_n 0, 1) := by decide +kernel
theorem d_RC_narrowestOpenCell_25 : decode b_RC_narrowestOpenCell 25 = .ok (.getfield 18, 3) := by decide +kernel
theorem d_RC_narrowestOpenCell_28 : decode b_RC_narrowestOpenCell 28 = .ok (.iload_n 3, 1) := by decide +kernel
theorem d_RC_narrowestOpenCell_29 : decode b_RC_narrowestOpenCell 29 = .ok (.iaload, 1) := by decide +kernel
theorem d_RC_narrowestOpenCell_30 : decode b_RC_narrowestOpenCell 30 = .ok (.ifCond .ne 24, 3) := by decide +kernel
theorem d_RC_narrowestOpenCell_33 : decode b_RC_narrowestOpenCell 33 = .ok (.aload_n 0, 1) := by decide +kernel
theorem d_RC_narrowestOpenCell_34 : decode b_RC_narrowestOpenCell 34 = .ok (.iload_n 3, 1) := by decide +kernel
theorem d_RC_narrowestOpenCell_35 : decode b_RC_narrowestOpenCell 35 = .ok (.invokevirtual 85, 3) := by decide +kernel
theorem d_RC_narrowestOpenCell_38 : decode b_RC_narrowestOpenCell 38 = .ok (.invokestatic 100, 3) := by decide +kernel
theorem d_RC_narrowestOpenCell_41 : decode b_RC_narrowestOpenCell 41 = .ok (.istore 4, 2) := by decide +kernel
theorem d_RC_narrowestOpenCell_43 : decode b_RC_narrowestOpenCell 43 = .ok (.iload 4, 2) := by decide +kernel
theorem d_RC_narrowestOpenCell_45 : decode b_RC_narrowestOpenCell 45 = .ok (.iload_n 2, 1) := by decide +kernel
theorem d_RC_narrowestOpenCell_46 : decode b_RC_narrowestOpenCell 46 = .ok (.if_icmp .ge 8, 3) := by decide +kernel
theorem d_RC_narrowestOpenCell_49 : decode b_RC_narrowestOpenCell 49 = .ok (.iload 4, 2) := by decide +kernel
theorem d_RC_narrowestOpenCell_51 : decode b_RC_narrowestOpenCell 51 = .ok (.istore_n 2, 1) := by decide +kernel
theorem d_RC_narrowestOpenCell_52 : decode b_RC_narrowestOpenCell 52 = .ok (.iload_n 3, 1) := by decide +kernel
theorem d_RC_narrowestOpenCell_53 : decode b_RC_narrowestOpenCell 53 = .ok (.istore_n 1, 1) := by decide +kernel
theorem d_RC_narrowestOpenCell_54 : decode b_RC_narrowestOpenCell 54 = .ok (.iinc 3 1, 3) := by decide +kernel
theorem d_RC_narrowestOpenCell_57 : decode b_RC_narrowestOpenCell 57 = .ok (.goto (-46), 3) := by decide +kernel
theorem d_RC_narrowestOpenCell_60 : decode b_RC_narrowestOpenCell 60 = .ok (.iload_n 1, 1) := by decide +kernel
theorem d_RC_narrowestOpenCell_61 : decode b_RC_narrowestOpenCell 61 = .ok (.ireturn, 1) := by decide +kernel
theorem d_IN_bitCount_0 : decode b_IN_bitCount 0 = .ok (.iload_n 0, 1) := by decide +kernel
theorem d_IN_bitCount_1 : decode b_IN_bitCount 1 = .ok (.iload_n 0, 1) := by decide +kernel
theorem d_IN_bitCount_2 : decode b_IN_bitCount 2 = .ok (.iconst 1, 1) := by decide +kernel
theorem d_IN_bitCount_3 : decode b_IN_bitCount 3 = .ok (.iushr, 1) := by decide +kernel
theorem d_IN_bitCount_4 : decode b_IN_bitCount 4 = .ok (.ldc_w 265, 3) := by decide +kernel
theorem d_IN_bitCount_7 : decode b_IN_bitCount 7 = .ok (.iand, 1) := by decide +kernel
theorem d_IN_bitCount_8 : decode b_IN_bitCount 8 = .ok (.isub, 1) := by decide +kernel
theorem d_IN_bitCount_9 : decode b_IN_bitCount 9 = .ok (.istore_n 0, 1) := by decide +kernel
theorem d_IN_bitCount_10 : decode b_IN_bitCount 10 = .ok (.iload_n 0, 1) := by decide +kernel
theorem d_IN_bitCount_11 : decode b_IN_bitCount 11 = .ok (.ldc_w 266, 3) := by decide +kernel
theorem d_IN_bitCount_14 : decode b_IN_bitCount 14 = .ok (.iand, 1) := by decide +kernel
theorem d_IN_bitCount_15 : decode b_IN_bitCount 15 = .ok (.iload_n 0, 1) := by decide +kernel
theorem d_IN_bitCount_16 : decode b_IN_bitCount 16 = .ok (.iconst 2, 1) := by decide +kernel
theorem d_IN_bitCount_17 : decode b_IN_bitCount 17 = .ok (.iushr, 1) := by decide +kernel
theorem d_IN_bitCount_18 : decode b_IN_bitCount 18 = .ok (.ldc_w 266, 3) := by decide +kernel
theorem d_IN_bitCount_21 : decode b_IN_bitCount 21 = .ok (.iand, 1) := by decide +kernel
theorem d_IN_bitCount_22 : decode b_IN_bitCount 22 = .ok (.iadd, 1) := by decide +kernel
theorem d_IN_bitCount_23 : decode b_IN_bitCount 23 = .ok (.istore_n 0, 1) := by decide +kernel
theorem d_IN_bitCount_24 : decode b_IN_bitCount 24 = .ok (.iload_n 0, 1) := by decide +kernel
theorem d_IN_bitCount_25 : decode b_IN_bitCount 25 = .ok (.iload_n 0, 1) := by decide +kernel
theorem d_IN_bitCount_26 : decode b_IN_bitCount 26 = .ok (.iconst 4, 1) := by decide +kernel
theorem d_IN_bitCount_27 : decode b_IN_bitCount 27 = .ok (.iushr, 1) := by decide +kernel
theorem d_IN_bitCount_28 : decode b_IN_bitCount 28 = .ok (.iadd, 1) := by decide +kernel
theorem d_IN_bitCount_29 : decode b_IN_bitCount 29 = .ok (.ldc_w 267, 3) := by decide +kernel
theorem d_IN_bitCount_32 : decode b_IN_bitCount 32 = .ok (.iand, 1) := by decide +kernel
theorem d_IN_bitCount_33 : decode b_IN_bitCount 33 = .ok (.istore_n 0, 1) := by decide +kernel
theorem d_IN_bitCount_34 : decode b_IN_bitCount 34 = .ok (.iload_n 0, 1) := by decide +kernel
theorem d_IN_bitCount_35 : decode b_IN_bitCount 35 = .ok (.iload_n 0, 1) := by decide +kernel
theorem d_IN_bitCount_36 : decode b_IN_bitCount 36 = .ok (.bipush 8, 2) := by decide +kernel
theorem d_IN_bitCount_38 : decode b_IN_bitCount 38 = .ok (.iushr, 1) := by decide +kernel
theorem d_IN_bitCount_39 : decode b_IN_bitCount 39 = .ok (.iadd, 1) := by decide +kernel
theorem d_IN_bitCount_40 : decode b_IN_bitCount 40 = .ok (.istore_n 0, 1) := by decide +kernel
theorem d_IN_bitCount_41 : decode b_IN_bitCount 41 = .ok (.iload_n 0, 1) := by decide +kernel
theorem d_IN_bitCount_42 : decode b_IN_bitCount 42 = .ok (.iload_n 0, 1) := by decide +kernel
theorem d_IN_bitCount_43 : decode b_IN_bitCount 43 = .ok (.bipush 16, 2) := by decide +kernel
theorem d_IN_bitCount_45 : decode b_IN_bitCount 45 = .ok (.iushr, 1) := by decide +kernel
theorem d_IN_bitCount_46 : decode b_IN_bitCount 46 = .ok (.iadd, 1) := by decide +kernel
theorem d_IN_bitCount_47 : decode b_IN_bitCount 47 = .ok (.istore_n 0, 1) := by decide +kernel
theorem d_IN_bitCount_48 : decode b_IN_bitCount 48 = .ok (.iload_n 0, 1) := by decide +kernel
theorem d_IN_bitCount_49 : decode b_IN_bitCount 49 = .ok (.bipush 63, 2) := by decide +kernel
theorem d_IN_bitCount_51 : decode b_IN_bitCount 51 = .ok (.iand, 1) := by decide +kernel
theorem d_IN_bitCount_52 : decode b_IN_bitCount 52 = .ok (.ireturn, 1) := by decide +kernel
theorem d_RC_someNumberLacksPlaces_0 : decode b_RC_someNumberLacksPlaces 0 = .ok (.iconst 0, 1) := by decide +kernel
theorem d_RC_someNumberLacksPlaces_1 : decode b_RC_someNumberLacksPlaces 1 = .ok (.istore_n 1, 1) := by decide +kernel
theorem d_RC_someNumberLacksPlaces_2 : decode b_RC_someNumberLacksPlaces 2 = .ok (.iload_n 1, 1) := by decide +kernel
theorem d_RC_someNumberLacksPlaces_3 : decode b_RC_someNumberLacksPlaces 3 = .ok (.bipush 6, 2) := by decide +kernel
theorem d_RC_someNumberLacksPlaces_5 : decode b_RC_someNumberLacksPlaces 5 = .ok (.if_icmp .ge 33, 3) := by decide +kernel
theorem d_RC_someNumberLacksPlaces_8 : decode b_RC_someNumberLacksPlaces 8 = .ok (.aload_n 0, 1) := by decide +kernel
theorem d_RC_someNumberLacksPlaces_9 : decode b_RC_someNumberLacksPlaces 9 = .ok (.getfield 36, 3) := by decide +kernel
theorem d_RC_someNumberLacksPlaces_12 : decode b_RC_someNumberLacksPlaces 12 = .ok (.iload_n 1, 1) := by decide +kernel
theorem d_RC_someNumberLacksPlaces_13 : decode b_RC_someNumberLacksPlaces 13 = .ok (.aload_n 0, 1) := by decide +kernel
theorem d_RC_someNumberLacksPlaces_14 : decode b_RC_someNumberLacksPlaces 14 = .ok (.getfield 30, 3) := by decide +kernel
theorem d_RC_someNumberLacksPlaces_17 : decode b_RC_someNumberLacksPlaces 17 = .ok (.iload_n 1, 1) := by decide +kernel
theorem d_RC_someNumberLacksPlaces_18 : decode b_RC_someNumberLacksPlaces 18 = .ok (.iaload, 1) := by decide +kernel
theorem d_RC_someNumberLacksPlaces_19 : decode b_RC_someNumberLacksPlaces 19 = .ok (.iastore, 1) := by decide +kernel
theorem d_RC_someNumberLacksPlaces_20 : decode b_RC_someNumberLacksPlaces 20 = .ok (.aload_n 0, 1) := by decide +kernel
theorem d_RC_someNumberLacksPlaces_21 : decode b_RC_someNumberLacksPlaces 21 = .ok (.getfield 39, 3) := by decide +kernel
theorem d_RC_someNumberLacksPlaces_24 : decode b_RC_someNumberLacksPlaces 24 = .ok (.iload_n 1, 1) := by decide +kernel
theorem d_RC_someNumberLacksPlaces_25 : decode b_RC_someNumberLacksPlaces 25 = .ok (.aload_n 0, 1) := by decide +kernel
theorem d_RC_someNumberLacksPlaces_26 : decode b_RC_someNumberLacksPlaces 26 = .ok (.getfield 33, 3) := by decide +kernel
theorem d_RC_someNumberLacksPlaces_29 : decode b_RC_someNumberLacksPlaces 29 = .ok (.iload_n 1, 1) := by decide +kernel
theorem d_RC_someNumberLacksPlaces_30 : decode b_RC_someNumberLacksPlaces 30 = .ok (.iaload, 1) := by decide +kernel
theorem d_RC_someNumberLacksPlaces_31 : decode b_RC_someNumberLacksPlaces 31 = .ok (.iastore, 1) := by decide +kernel
theorem d_RC_someNumberLacksPlaces_32 : decode b_RC_someNumberLacksPlaces 32 = .ok (.iinc 1 1, 3) := by decide +kernel
theorem d_RC_someNumberLacksPlaces_35 : decode b_RC_someNumberLacksPlaces 35 = .ok (.goto (-33), 3) := by decide +kernel
theorem d_RC_someNumberLacksPlaces_38 : decode b_RC_someNumberLacksPlaces 38 = .ok (.iconst 0, 1) := by decide +kernel
theorem d_RC_someNumberLacksPlaces_39 : decode b_RC_someNumberLacksPlaces 39 = .ok (.istore_n 1, 1) := by decide +kernel
theorem d_RC_someNumberLacksPlaces_40 : decode b_RC_someNumberLacksPlaces 40 = .ok (.iload_n 1, 1) := by decide +kernel
theorem d_RC_someNumberLacksPlaces_41 : decode b_RC_someNumberLacksPlaces 41 = .ok (.aload_n 0, 1) := by decide +kernel
theorem d_RC_someNumberLacksPlaces_42 : decode b_RC_someNumberLacksPlaces 42 = .ok (.getfield 48, 3) := by decide +kernel
theorem d_RC_someNumberLacksPlaces_45 : decode b_RC_someNumberLacksPlaces 45 = .ok (.if_icmp .ge 54, 3) := by decide +kernel
theorem d_RC_someNumberLacksPlaces_48 : decode b_RC_someNumberLacksPlaces 48 = .ok (.aload_n 0, 1) := by decide +kernel
theorem d_RC_someNumberLacksPlaces_49 : decode b_RC_someNumberLacksPlaces 49 = .ok (.getfield 18, 3) := by decide +kernel
theorem d_RC_someNumberLacksPlaces_52 : decode b_RC_someNumberLacksPlaces 52 = .ok (.iload_n 1, 1) := by decide +kernel
theorem d_RC_someNumberLacksPlaces_53 : decode b_RC_someNumberLacksPlaces 53 = .ok (.iaload, 1) := by decide +kernel
theorem d_RC_someNumberLacksPlaces_54 : decode b_RC_someNumberLacksPlaces 54 = .ok (.ifCond .ne 39, 3) := by decide +kernel
theorem d_RC_someNumberLacksPlaces_57 : decode b_RC_someNumberLacksPlaces 57 = .ok (.aload_n 0, 1) := by decide +kernel
theorem d_RC_someNumberLacksPlaces_58 : decode b_RC_someNumberLacksPlaces 58 = .ok (.iload_n 1, 1) := by decide +kernel
theorem d_RC_someNumberLacksPlaces_59 : decode b_RC_someNumberLacksPlaces 59 = .ok (.invokevirtual 85, 3) := by decide +kernel
theorem d_RC_someNumberLacksPlaces_62 : decode b_RC_someNumberLacksPlaces 62 = .ok (.istore_n 2, 1) := by decide +kernel
theorem d_RC_someNumberLacksPlaces_63 : decode b_RC_someNumberLacksPlaces 63 = .ok (.aload_n 0, 1) := by decide +kernel
theorem d_RC_someNumberLacksPlaces_64 : decode b_RC_someNumberLacksPlaces 64 = .ok (.getfield 36, 3) := by decide +kernel
theorem d_RC_someNumberLacksPlaces_67 : decode b_RC_someNumberLacksPlaces 67 = .ok (.aload_n 0, 1) := by decide +kernel
theorem d_RC_someNumberLacksPlaces_68 : decode b_RC_someNumberLacksPlaces 68 = .ok (.getfield 24, 3) := by decide +kernel
theorem d_RC_someNumberLacksPlaces_71 : decode b_RC_someNumberLacksPlaces 71 = .ok (.iload_n 1, 1) := by decide +kernel
theorem d_RC_someNumberLacksPlaces_72 : decode b_RC_someNumberLacksPlaces 72 = .ok (.iaload, 1) := by decide +kernel
theorem d_RC_someNumberLacksPlaces_73 : decode b_RC_someNumberLacksPlaces 73 = .ok (.dup2, 1) := by decide +kernel
theorem d_RC_someNumberLacksPlaces_74 : decode b_RC_someNumberLacksPlaces 74 = .ok (.iaload, 1) := by decide +kernel
theorem d_RC_someNumberLacksPlaces_75 : decode b_RC_someNumberLacksPlaces 75 = .ok (.iload_n 2, 1) := by decide +kernel
theorem d_RC_someNumberLacksPlaces_76 : decode b_RC_someNumberLacksPlaces 76 = .ok (.ior, 1) := by decide +kernel
theorem d_RC_someNumberLacksPlaces_77 : decode b_RC_someNumberLacksPlaces 77 = .ok (.iastore, 1) := by decide +kernel
theorem d_RC_someNumberLacksPlaces_78 : decode b_RC_someNumberLacksPlaces 78 = .ok (.aload_n 0, 1) := by decide +kernel
theorem d_RC_someNumberLacksPlaces_79 : decode b_RC_someNumberLacksPlaces 79 = .ok (.getfield 39, 3) := by decide +kernel
theorem d_RC_someNumberLacksPlaces_82 : decode b_RC_someNumberLacksPlaces 82 = .ok (.aload_n 0, 1) := by decide +kernel
theorem d_RC_someNumberLacksPlaces_83 : decode b_RC_someNumberLacksPlaces 83 = .ok (.getfield 27, 3) := by decide +kernel
theorem d_RC_someNumberLacksPlaces_86 : decode b_RC_someNumberLacksPlaces 86 = .ok (.iload_n 1, 1) := by decide +kernel
theorem d_RC_someNumberLacksPlaces_87 : decode b_RC_someNumberLacksPlaces 87 = .ok (.iaload, 1) := by decide +kernel
theorem d_RC_someNumberLacksPlaces_88 : decode b_RC_someNumberLacksPlaces 88 = .ok (.dup2, 1) := by decide +kernel
theorem d_RC_someNumberLacksPlaces_89 : decode b_RC_someNumberLacksPlaces 89 = .ok (.iaload, 1) := by decide +kernel
theorem d_RC_someNumberLacksPlaces_90 : decode b_RC_someNumberLacksPlaces 90 = .ok (.iload_n 2, 1) := by decide +kernel
theorem d_RC_someNumberLacksPlaces_91 : decode b_RC_someNumberLacksPlaces 91 = .ok (.ior, 1) := by decide +kernel
theorem d_RC_someNumberLacksPlaces_92 : decode b_RC_someNumberLacksPlaces 92 = .ok (.iastore, 1) := by decide +kernel
theorem d_RC_someNumberLacksPlaces_93 : decode b_RC_someNumberLacksPlaces 93 = .ok (.iinc 1 1, 3) := by decide +kernel
theorem d_RC_someNumberLacksPlaces_96 : decode b_RC_someNumberLacksPlaces 96 = .ok (.goto (-56), 3) := by decide +kernel
theorem d_RC_someNumberLacksPlaces_99 : decode b_RC_someNumberLacksPlaces 99 = .ok (.iconst 1, 1) := by decide +kernel
theorem d_RC_someNumberLacksPlaces_100 : decode b_RC_someNumberLacksPlaces 100 = .ok (.istore_n 1, 1) := by decide +kernel
theorem d_RC_someNumberLacksPlaces_101 : decode b_RC_someNumberLacksPlaces 101 = .ok (.iload_n 1, 1) := by decide +kernel
theorem d_RC_someNumberLacksPlaces_102 : decode b_RC_someNumberLacksPlaces 102 = .ok (.aload_n 0, 1) := by decide +kernel
theorem d_RC_someNumberLacksPlaces_103 : decode b_RC_someNumberLacksPlaces 103 = .ok (.getfield 55, 3) := by decide +kernel
theorem d_RC_someNumberLacksPlaces_106 : decode b_RC_someNumberLacksPlaces 106 = .ok (.if_icmp .gt 41, 3) := by decide +kernel
theorem d_RC_someNumberLacksPlaces_109 : decode b_RC_someNumberLacksPlaces 109 = .ok (.aload_n 0, 1) := by decide +kernel
theorem d_RC_someNumberLacksPlaces_110 : decode b_RC_someNumberLacksPlaces 110 = .ok (.getfield 36, 3) := by decide +kernel
theorem d_RC_someNumberLacksPlaces_113 : decode b_RC_someNumberLacksPlaces 113 = .ok (.iload_n 1, 1) := by decide +kernel
theorem d_RC_someNumberLacksPlaces_114 : decode b_RC_someNumberLacksPlaces 114 = .ok (.invokestatic 112, 3) := by decide +kernel
theorem d_RC_someNumberLacksPlaces_117 : decode b_RC_someNumberLacksPlaces 117 = .ok (.aload_n 0, 1) := by decide +kernel
theorem d_RC_someNumberLacksPlaces_118 : decode b_RC_someNumberLacksPlaces 118 = .ok (.getfield 58, 3) := by decide +kernel
theorem d_RC_someNumberLacksPlaces_121 : decode b_RC_someNumberLacksPlaces 121 = .ok (.if_icmp .lt 18, 3) := by decide +kernel
theorem d_RC_someNumberLacksPlaces_124 : decode b_RC_someNumberLacksPlaces 124 = .ok (.aload_n 0, 1) := by decide +kernel
theorem d_RC_someNumberLacksPlaces_125 : decode b_RC_someNumberLacksPlaces 125 = .ok (.getfield 39, 3) := by decide +kernel
theorem d_RC_someNumberLacksPlaces_128 : decode b_RC_someNumberLacksPlaces 128 = .ok (.iload_n 1, 1) := by decide +kernel
theorem d_RC_someNumberLacksPlaces_129 : decode b_RC_someNumberLacksPlaces 129 = .ok (.invokestatic 112, 3) := by decide +kernel
theorem d_RC_someNumberLacksPlaces_132 : decode b_RC_someNumberLacksPlaces 132 = .ok (.aload_n 0, 1) := by decide +kernel
theorem d_RC_someNumberLacksPlaces_133 : decode b_RC_someNumberLacksPlaces 133 = .ok (.getfield 58, 3) := by decide +kernel
theorem d_RC_someNumberLacksPlaces_136 : decode b_RC_someNumberLacksPlaces 136 = .ok (.if_icmp .ge 5, 3) := by decide +kernel
theorem d_RC_someNumberLacksPlaces_139 : decode b_RC_someNumberLacksPlaces 139 = .ok (.iconst 1, 1) := by decide +kernel
theorem d_RC_someNumberLacksPlaces_140 : decode b_RC_someNumberLacksPlaces 140 = .ok (.ireturn, 1) := by decide +kernel
theorem d_RC_someNumberLacksPlaces_141 : decode b_RC_someNumberLacksPlaces 141 = .ok (.iinc 1 1, 3) := by decide +kernel
theorem d_RC_someNumberLacksPlaces_144 : decode b_RC_someNumberLacksPlaces 144 = .ok (.goto (-43), 3) := by decide +kernel
theorem d_RC_someNumberLacksPlaces_147 : decode b_RC_someNumberLacksPlaces 147 = .ok (.iconst 0, 1) := by decide +kernel
theorem d_RC_someNumberLacksPlaces_148 : decode b_RC_someNumberLacksPlaces 148 = .ok (.ireturn, 1) := by decide +kernel
theorem d_RC_linesWith_0 : decode b_RC_linesWith 0 = .ok (.iconst 0, 1) := by decide +kernel
theorem d_RC_linesWith_1 : decode b_RC_linesWith 1 = .ok (.istore_n 2, 1) := by decide +kernel
theorem d_RC_linesWith_2 : decode b_RC_linesWith 2 = .ok (.aload_n 0, 1) := by decide +kernel
theorem d_RC_linesWith_3 : decode b_RC_linesWith 3 = .ok (.astore_n 3, 1) := by decide +kernel
theorem d_RC_linesWith_4 : decode b_RC_linesWith 4 = .ok (.aload_n 3, 1) := by decide +kernel
theorem d_RC_linesWith_5 : decode b_RC_linesWith 5 = .ok (.arraylength, 1) := by decide +kernel
theorem d_RC_linesWith_6 : decode b_RC_linesWith 6 = .ok (.istore 4, 2) := by decide +kernel
theorem d_RC_linesWith_8 : decode b_RC_linesWith 8 = .ok (.iconst 0, 1) := by decide +kernel
theorem d_RC_linesWith_9 : decode b_RC_linesWith 9 = .ok (.istore 5, 2) := by decide +kernel
theorem d_RC_linesWith_11 : decode b_RC_linesWith 11 = .ok (.iload 5, 2) := by decide +kernel
theorem d_RC_linesWith_13 : decode b_RC_linesWith 13 = .ok (.iload 4, 2) := by decide +kernel
theorem d_RC_linesWith_15 : decode b_RC_linesWith 15 = .ok (.if_icmp .ge 24, 3) := by decide +kernel
theorem d_RC_linesWith_18 : decode b_RC_linesWith 18 = .ok (.aload_n 3, 1) := by decide +kernel
theorem d_RC_linesWith_19 : decode b_RC_linesWith 19 = .ok (.iload 5, 2) := by decide +kernel
theorem d_RC_linesWith_21 : decode b_RC_linesWith 21 = .ok (.iaload, 1) := by decide +kernel
theorem d_RC_linesWith_22 : decode b_RC_linesWith 22 = .ok (.istore 6, 2) := by decide +kernel
theorem d_RC_linesWith_24 : decode b_RC_linesWith 24 = .ok (.iload_n 2, 1) := by decide +kernel
theorem d_RC_linesWith_25 : decode b_RC_linesWith 25 = .ok (.iload 6, 2) := by decide +kernel
theorem d_RC_linesWith_27 : decode b_RC_linesWith 27 = .ok (.iload_n 1, 1) := by decide +kernel
theorem d_RC_linesWith_28 : decode b_RC_linesWith 28 = .ok (.iushr, 1) := by decide +kernel
theorem d_RC_linesWith_29 : decode b_RC_linesWith 29 = .ok (.iconst 1, 1) := by decide +kernel
theorem d_RC_linesWith_30 : decode b_RC_linesWith 30 = .ok (.iand, 1) := by decide +kernel
theorem d_RC_linesWith_31 : decode b_RC_linesWith 31 = .ok (.iadd, 1) := by decide +kernel
theorem d_RC_linesWith_32 : decode b_RC_linesWith 32 = .ok (.istore_n 2, 1) := by decide +kernel
theorem d_RC_linesWith_33 : decode b_RC_linesWith 33 = .ok (.iinc 5 1, 3) := by decide +kernel
theorem d_RC_linesWith_36 : decode b_RC_linesWith 36 = .ok (.goto (-25), 3) := by decide +kernel
theorem d_RC_linesWith_39 : decode b_RC_linesWith 39 = .ok (.iload_n 2, 1) := by decide +kernel
theorem d_RC_linesWith_40 : decode b_RC_linesWith 40 = .ok (.ireturn, 1) := by decide +kernel
theorem d_RC_countWith_0 : decode b_RC_countWith 0 = .ok (.iconst 0, 1) := by decide +kernel
theorem d_RC_countWith_1 : decode b_RC_countWith 1 = .ok (.istore 5, 2) := by decide +kernel
theorem d_RC_countWith_3 : decode b_RC_countWith 3 = .ok (.iconst 1, 1) := by decide +kernel
theorem d_RC_countWith_4 : decode b_RC_countWith 4 = .ok (.istore 6, 2) := by decide +kernel
theorem d_RC_countWith_6 : decode b_RC_countWith 6 = .ok (.iload 6, 2) := by decide +kernel
theorem d_RC_countWith_8 : decode b_RC_countWith 8 = .ok (.aload_n 0, 1) := by decide +kernel
theorem d_RC_countWith_9 : decode b_RC_countWith 9 = .ok (.getfield 55, 3) := by decide +kernel
theorem d_RC_countWith_12 : decode b_RC_countWith 12 = .ok (.if_icmp .gt 56, 3) := by decide +kernel
theorem d_RC_countWith_15 : decode b_RC_countWith 15 = .ok (.iload 5, 2) := by decide +kernel
theorem d_RC_countWith_17 : decode b_RC_countWith 17 = .ok (.iload 4, 2) := by decide +kernel
theorem d_RC_countWith_19 : decode b_RC_countWith 19 = .ok (.if_icmp .ge 49, 3) := by decide +kernel
theorem d_RC_countWith_22 : decode b_RC_countWith 22 = .ok (.iload_n 2, 1) := by decide +kernel
theorem d_RC_countWith_23 : decode b_RC_countWith 23 = .ok (.iload 6, 2) := by decide +kernel
theorem d_RC_countWith_25 : decode b_RC_countWith 25 = .ok (.iushr, 1) := by decide +kernel
theorem d_RC_countWith_26 : decode b_RC_countWith 26 = .ok (.iconst 1, 1) := by decide +kernel
theorem d_RC_countWith_27 : decode b_RC_countWith 27 = .ok (.iand, 1) := by decide +kernel
theorem d_RC_countWith_28 : decode b_RC_countWith 28 = .ok (.ifCond .eq 34, 3) := by decide +kernel
theorem d_RC_countWith_31 : decode b_RC_countWith 31 = .ok (.aload_n 0, 1) := by decide +kernel
theorem d_RC_countWith_32 : decode b_RC_countWith 32 = .ok (.iload_n 1, 1) := by decide +kernel
theorem d_RC_countWith_33 : decode b_RC_countWith 33 = .ok (.iload 6, 2) := by decide +kernel
theorem d_RC_countWith_35 : decode b_RC_countWith 35 = .ok (.invokevirtual 89, 3) := by decide +kernel
theorem d_RC_countWith_38 : decode b_RC_countWith 38 = .ok (.iload 5, 2) := by decide +kernel
theorem d_RC_countWith_40 : decode b_RC_countWith 40 = .ok (.aload_n 0, 1) := by decide +kernel
theorem d_RC_countWith_41 : decode b_RC_countWith 41 = .ok (.iload_n 3, 1) := by decide +kernel
theorem d_RC_countWith_42 : decode b_RC_countWith 42 = .ok (.iconst 1, 1) := by decide +kernel
theorem d_RC_countWith_43 : decode b_RC_countWith 43 = .ok (.iadd, 1) := by decide +kernel
theorem d_RC_countWith_44 : decode b_RC_countWith 44 = .ok (.iload 4, 2) := by decide +kernel
theorem d_RC_countWith_46 : decode b_RC_countWith 46 = .ok (.iload 5, 2) := by decide +kernel
theorem d_RC_countWith_48 : decode b_RC_countWith 48 = .ok (.isub, 1) := by decide +kernel
theorem d_RC_countWith_49 : decode b_RC_countWith 49 = .ok (.invokevirtual 72, 3) := by decide +kernel
theorem d_RC_countWith_52 : decode b_RC_countWith 52 = .ok (.iadd, 1) := by decide +kernel
theorem d_RC_countWith_53 : decode b_RC_countWith 53 = .ok (.istore 5, 2) := by decide +kernel
theorem d_RC_countWith_55 : decode b_RC_countWith 55 = .ok (.aload_n 0, 1) := by decide +kernel
theorem d_RC_countWith_56 : decode b_RC_countWith 56 = .ok (.iload_n 1, 1) := by decide +kernel
theorem d_RC_countWith_57 : decode b_RC_countWith 57 = .ok (.iload 6, 2) := by decide +kernel
theorem d_RC_countWith_59 : decode b_RC_countWith 59 = .ok (.invokevirtual 93, 3) := by decide +kernel
theorem d_RC_countWith_62 : decode b_RC_countWith 62 = .ok (.iinc 6 1, 3) := by decide +kernel
theorem d_RC_countWith_65 : decode b_RC_countWith 65 = .ok (.goto (-59), 3) := by decide +kernel
theorem d_RC_countWith_68 : decode b_RC_countWith 68 = .ok (.iload 5, 2) := by decide +kernel
theorem d_RC_countWith_70 : decode b_RC_countWith 70 = .ok (.ireturn, 1) := by decide +kernel
theorem d_RC_take_0 : decode b_RC_take 0 = .ok (.iload_n 1, 1) := by decide +kernel
theorem d_RC_take_1 : decode b_RC_take 1 = .ok (.ifCond .lt 9, 3) := by decide +kernel
theorem d_RC_take_4 : decode b_RC_take 4 = .ok (.iload_n 1, 1) := by decide +kernel
theorem d_RC_take_5 : decode b_RC_take 5 = .ok (.bipush 36, 2) := by decide +kernel
theorem d_RC_take_7 : decode b_RC_take 7 = .ok (.if_icmp .lt 4, 3) := by decide +kernel
theorem d_RC_take_10 : decode b_RC_take 10 = .ok (.return_, 1) := by decide +kernel
theorem d_RC_take_11 : decode b_RC_take 11 = .ok (.aload_n 0, 1) := by decide +kernel
theorem d_RC_take_12 : decode b_RC_take 12 = .ok (.getfield 18, 3) := by decide +kernel
theorem d_RC_take_15 : decode b_RC_take 15 = .ok (.iload_n 1, 1) := by decide +kernel
theorem d_RC_take_16 : decode b_RC_take 16 = .ok (.iconst 0, 1) := by decide +kernel
theorem d_RC_take_17 : decode b_RC_take 17 = .ok (.iastore, 1) := by decide +kernel
theorem d_RC_take_18 : decode b_RC_take 18 = .ok (.aload_n 0, 1) := by decide +kernel
theorem d_RC_take_19 : decode b_RC_take 19 = .ok (.getfield 30, 3) := by decide +kernel
theorem d_RC_take_22 : decode b_RC_take 22 = .ok (.aload_n 0, 1) := by decide +kernel
theorem d_RC_take_23 : decode b_RC_take 23 = .ok (.getfield 24, 3) := by decide +kernel
theorem d_RC_take_26 : decode b_RC_take 26 = .ok (.iload_n 1, 1) := by decide +kernel
theorem d_RC_take_27 : decode b_RC_take 27 = .ok (.iaload, 1) := by decide +kernel
theorem d_RC_take_28 : decode b_RC_take 28 = .ok (.dup2, 1) := by decide +kernel
theorem d_RC_take_29 : decode b_RC_take 29 = .ok (.iaload, 1) := by decide +kernel
theorem d_RC_take_30 : decode b_RC_take 30 = .ok (.iconst 1, 1) := by decide +kernel
theorem d_RC_take_31 : decode b_RC_take 31 = .ok (.iload_n 2, 1) := by decide +kernel
theorem d_RC_take_32 : decode b_RC_take 32 = .ok (.ishl, 1) := by decide +kernel
theorem d_RC_take_33 : decode b_RC_take 33 = .ok (.iconst (-1), 1) := by decide +kernel
theorem d_RC_take_34 : decode b_RC_take 34 = .ok (.ixor, 1) := by decide +kernel
theorem d_RC_take_35 : decode b_RC_take 35 = .ok (.iand, 1) := by decide +kernel
theorem d_RC_take_36 : decode b_RC_take 36 = .ok (.iastore, 1) := by decide +kernel
theorem d_RC_take_37 : decode b_RC_take 37 = .ok (.aload_n 0, 1) := by decide +kernel
theorem d_RC_take_38 : decode b_RC_take 38 = .ok (.getfield 33, 3) := by decide +kernel
theorem d_RC_take_41 : decode b_RC_take 41 = .ok (.aload_n 0, 1) := by decide +kernel
theorem d_RC_take_42 : decode b_RC_take 42 = .ok (.getfield 27, 3) := by decide +kernel
theorem d_RC_take_45 : decode b_RC_take 45 = .ok (.iload_n 1, 1) := by decide +kernel
theorem d_RC_take_46 : decode b_RC_take 46 = .ok (.iaload, 1) := by decide +kernel
theorem d_RC_take_47 : decode b_RC_take 47 = .ok (.dup2, 1) := by decide +kernel
theorem d_RC_take_48 : decode b_RC_take 48 = .ok (.iaload, 1) := by decide +kernel
theorem d_RC_take_49 : decode b_RC_take 49 = .ok (.iconst 1, 1) := by decide +kernel
theorem d_RC_take_50 : decode b_RC_take 50 = .ok (.iload_n 2, 1) := by decide +kernel
theorem d_RC_take_51 : decode b_RC_take 51 = .ok (.ishl, 1) := by decide +kernel
theorem d_RC_take_52 : decode b_RC_take 52 = .ok (.iconst (-1), 1) := by decide +kernel
theorem d_RC_take_53 : decode b_RC_take 53 = .ok (.ixor, 1) := by decide +kernel
theorem d_RC_take_54 : decode b_RC_take 54 = .ok (.iand, 1) := by decide +kernel
theorem d_RC_take_55 : decode b_RC_take 55 = .ok (.iastore, 1) := by decide +kernel
theorem d_RC_take_56 : decode b_RC_take 56 = .ok (.return_, 1) := by decide +kernel
theorem d_RC_settle_0 : decode b_RC_settle 0 = .ok (.iload_n 1, 1) := by decide +kernel
theorem d_RC_settle_1 : decode b_RC_settle 1 = .ok (.ifCond .lt 9, 3) := by decide +kernel
theorem d_RC_settle_4 : decode b_RC_settle 4 = .ok (.iload_n 1, 1) := by decide +kernel
theorem d_RC_settle_5 : decode b_RC_settle 5 = .ok (.bipush 36, 2) := by decide +kernel
theorem d_RC_settle_7 : decode b_RC_settle 7 = .ok (.if_icmp .lt 4, 3) := by decide +kernel
theorem d_RC_settle_10 : decode b_RC_settle 10 = .ok (.return_, 1) := by decide +kernel
theorem d_RC_settle_11 : decode b_RC_settle 11 = .ok (.aload_n 0, 1) := by decide +kernel
theorem d_RC_settle_12 : decode b_RC_settle 12 = .ok (.getfield 21, 3) := by decide +kernel
theorem d_RC_settle_15 : decode b_RC_settle 15 = .ok (.iload_n 1, 1) := by decide +kernel
theorem d_RC_settle_16 : decode b_RC_settle 16 = .ok (.iaload, 1) := by decide +kernel
theorem d_RC_settle_17 : decode b_RC_settle 17 = .ok (.istore_n 2, 1) := by decide +kernel
theorem d_RC_settle_18 : decode b_RC_settle 18 = .ok (.aload_n 0, 1) := by decide +kernel
theorem d_RC_settle_19 : decode b_RC_settle 19 = .ok (.iload_n 1, 1) := by decide +kernel
theorem d_RC_settle_20 : decode b_RC_settle 20 = .ok (.invokevirtual 85, 3) := by decide +kernel
theorem d_RC_settle_23 : decode b_RC_settle 23 = .ok (.istore_n 3, 1) := by decide +kernel
theorem d_RC_settle_24 : decode b_RC_settle 24 = .ok (.iconst 1, 1) := by decide +kernel
theorem d_RC_settle_25 : decode b_RC_settle 25 = .ok (.istore 4, 2) := by decide +kernel
theorem d_RC_settle_27 : decode b_RC_settle 27 = .ok (.iload 4, 2) := by decide +kernel
theorem d_RC_settle_29 : decode b_RC_settle 29 = .ok (.iload_n 2, 1) := by decide +kernel
theorem d_RC_settle_30 : decode b_RC_settle 30 = .ok (.if_icmp .ge 42, 3) := by decide +kernel
theorem d_RC_settle_33 : decode b_RC_settle 33 = .ok (.iload_n 3, 1) := by decide +kernel
theorem d_RC_settle_34 : decode b_RC_settle 34 = .ok (.iload 4, 2) := by decide +kernel
theorem d_RC_settle_36 : decode b_RC_settle 36 = .ok (.iushr, 1) := by decide +kernel
theorem d_RC_settle_37 : decode b_RC_settle 37 = .ok (.iconst 1, 1) := by decide +kernel
theorem d_RC_settle_38 : decode b_RC_settle 38 = .ok (.iand, 1) := by decide +kernel
theorem d_RC_settle_39 : decode b_RC_settle 39 = .ok (.ifCond .eq 27, 3) := by decide +kernel
theorem d_RC_settle_42 : decode b_RC_settle 42 = .ok (.aload_n 0, 1) := by decide +kernel
theorem d_RC_settle_43 : decode b_RC_settle 43 = .ok (.iload_n 1, 1) := by decide +kernel
theorem d_RC_settle_44 : decode b_RC_settle 44 = .ok (.iload 4, 2) := by decide +kernel
theorem d_RC_settle_46 : decode b_RC_settle 46 = .ok (.invokevirtual 89, 3) := by decide +kernel
theorem d_RC_settle_49 : decode b_RC_settle 49 = .ok (.aload_n 0, 1) := by decide +kernel
theorem d_RC_settle_50 : decode b_RC_settle 50 = .ok (.iconst 0, 1) := by decide +kernel
theorem d_RC_settle_51 : decode b_RC_settle 51 = .ok (.iconst 1, 1) := by decide +kernel
theorem d_RC_settle_52 : decode b_RC_settle 52 = .ok (.invokevirtual 72, 3) := by decide +kernel
theorem d_RC_settle_55 : decode b_RC_settle 55 = .ok (.ifCond .le 4, 3) := by decide +kernel
theorem d_RC_settle_58 : decode b_RC_settle 58 = .ok (.return_, 1) := by decide +kernel
theorem d_RC_settle_59 : decode b_RC_settle 59 = .ok (.aload_n 0, 1) := by decide +kernel
theorem d_RC_settle_60 : decode b_RC_settle 60 = .ok (.iload_n 1, 1) := by decide +kernel
theorem d_RC_settle_61 : decode b_RC_settle 61 = .ok (.iload 4, 2) := by decide +kernel
theorem d_RC_settle_63 : decode b_RC_settle 63 = .ok (.invokevirtual 93, 3) := by decide +kernel
theorem d_RC_settle_66 : decode b_RC_settle 66 = .ok (.iinc 4 1, 3) := by decide +kernel
theorem d_RC_settle_69 : decode b_RC_settle 69 = .ok (.goto (-42), 3) := by decide +kernel
theorem d_RC_settle_72 : decode b_RC_settle 72 = .ok (.aload_n 0, 1) := by decide +kernel
theorem d_RC_settle_73 : decode b_RC_settle 73 = .ok (.iload_n 1, 1) := by decide +kernel
theorem d_RC_settle_74 : decode b_RC_settle 74 = .ok (.iload_n 2, 1) := by decide +kernel
theorem d_RC_settle_75 : decode b_RC_settle 75 = .ok (.invokevirtual 89, 3) := by decide +kernel
theorem d_RC_settle_78 : decode b_RC_settle 78 = .ok (.return_, 1) := by decide +kernel
theorem d_TF_number_0 : decode b_TF_number 0 = .ok (.aload_n 0, 1) := by decide +kernel
theorem d_TF_number_1 : decode b_TF_number 1 = .ok (.getfield 18, 3) := by decide +kernel
theorem d_TF_number_4 : decode b_TF_number 4 = .ok (.iload_n 1, 1) := by decide +kernel
theorem d_TF_number_5 : decode b_TF_number 5 = .ok (.iload_n 2, 1) := by decide +kernel
theorem d_TF_number_6 : decode b_TF_number 6 = .ok (.invokevirtual 47, 3) := by decide +kernel
theorem d_TF_number_9 : decode b_TF_number 9 = .ok (.istore_n 3, 1) := by decide +kernel
theorem d_TF_number_10 : decode b_TF_number 10 = .ok (.iload_n 3, 1) := by decide +kernel
theorem d_TF_number_11 : decode b_TF_number 11 = .ok (.ifCond .ge 7, 3) := by decide +kernel
theorem d_TF_number_14 : decode b_TF_number 14 = .ok (.iconst (-1), 1) := by decide +kernel
theorem d_TF_number_15 : decode b_TF_number 15 = .ok (.goto 11, 3) := by decide +kernel
theorem d_TF_number_18 : decode b_TF_number 18 = .ok (.aload_n 0, 1) := by decide +kernel
theorem d_TF_number_19 : decode b_TF_number 19 = .ok (.getfield 39, 3) := by decide +kernel
theorem d_TF_number_22 : decode b_TF_number 22 = .ok (.iload_n 3, 1) := by decide +kernel
theorem d_TF_number_23 : decode b_TF_number 23 = .ok (.invokevirtual 118, 3) := by decide +kernel
theorem d_TF_number_26 : decode b_TF_number 26 = .ok (.ireturn, 1) := by decide +kernel
theorem d_RC_foundAt_0 : decode b_RC_foundAt 0 = .ok (.aload_n 0, 1) := by decide +kernel
theorem d_RC_foundAt_1 : decode b_RC_foundAt 1 = .ok (.getfield 64, 3) := by decide +kernel
theorem d_RC_foundAt_4 : decode b_RC_foundAt 4 = .ok (.ifCond .eq 22, 3) := by decide +kernel
theorem d_RC_foundAt_7 : decode b_RC_foundAt 7 = .ok (.iload_n 1, 1) := by decide +kernel
theorem d_RC_foundAt_8 : decode b_RC_foundAt 8 = .ok (.ifCond .lt 18, 3) := by decide +kernel
theorem d_RC_foundAt_11 : decode b_RC_foundAt 11 = .ok (.iload_n 1, 1) := by decide +kernel
theorem d_RC_foundAt_12 : decode b_RC_foundAt 12 = .ok (.bipush 36, 2) := by decide +kernel
theorem d_RC_foundAt_14 : decode b_RC_foundAt 14 = .ok (.if_icmp .ge 12, 3) := by decide +kernel
theorem d_RC_foundAt_17 : decode b_RC_foundAt 17 = .ok (.aload_n 0, 1) := by decide +kernel
theorem d_RC_foundAt_18 : decode b_RC_foundAt 18 = .ok (.getfield 15, 3) := by decide +kernel
theorem d_RC_foundAt_21 : decode b_RC_foundAt 21 = .ok (.iload_n 1, 1) := by decide +kernel
theorem d_RC_foundAt_22 : decode b_RC_foundAt 22 = .ok (.iaload, 1) := by decide +kernel
theorem d_RC_foundAt_23 : decode b_RC_foundAt 23 = .ok (.goto 4, 3) := by decide +kernel
theorem d_RC_foundAt_26 : decode b_RC_foundAt 26 = .ok (.iconst 0, 1) := by decide +kernel
theorem d_RC_foundAt_27 : decode b_RC_foundAt 27 = .ok (.ireturn, 1) := by decide +kernel
theorem d_TF_fills_0 : decode b_TF_fills 0 = .ok (.iload_n 1, 1) := by decide +kernel
theorem d_TF_fills_1 : decode b_TF_fills 1 = .ok (.ifCond .lt 10, 3) := by decide +kernel
theorem d_TF_fills_4 : decode b_TF_fills 4 = .ok (.iload_n 1, 1) := by decide +kernel
theorem d_TF_fills_5 : decode b_TF_fills 5 = .ok (.sipush 1000, 3) := by decide +kernel
theorem d_TF_fills_8 : decode b_TF_fills 8 = .ok (.if_icmp .le 5, 3) := by decide +kernel
theorem d_TF_fills_11 : decode b_TF_fills 11 = .ok (.iconst (-1), 1) := by decide +kernel
theorem d_TF_fills_12 : decode b_TF_fills 12 = .ok (.ireturn, 1) := by decide +kernel
theorem d_TF_fills_13 : decode b_TF_fills 13 = .ok (.aload_n 0, 1) := by decide +kernel
theorem d_TF_fills_14 : decode b_TF_fills 14 = .ok (.getfield 39, 3) := by decide +kernel
theorem d_TF_fills_17 : decode b_TF_fills 17 = .ok (.iload_n 1, 1) := by decide +kernel
theorem d_TF_fills_18 : decode b_TF_fills 18 = .ok (.invokevirtual 121, 3) := by decide +kernel
theorem d_TF_fills_21 : decode b_TF_fills 21 = .ok (.ireturn, 1) := by decide +kernel
theorem d_RC_countUpTo_0 : decode b_RC_countUpTo 0 = .ok (.iload_n 1, 1) := by decide +kernel
theorem d_RC_countUpTo_1 : decode b_RC_countUpTo 1 = .ok (.ifCond .le 19, 3) := by decide +kernel
theorem d_RC_countUpTo_4 : decode b_RC_countUpTo 4 = .ok (.aload_n 0, 1) := by decide +kernel
theorem d_RC_countUpTo_5 : decode b_RC_countUpTo 5 = .ok (.invokevirtual 68, 3) := by decide +kernel
theorem d_RC_countUpTo_8 : decode b_RC_countUpTo 8 = .ok (.ifCond .eq 12, 3) := by decide +kernel
theorem d_RC_countUpTo_11 : decode b_RC_countUpTo 11 = .ok (.aload_n 0, 1) := by decide +kernel
theorem d_RC_countUpTo_12 : decode b_RC_countUpTo 12 = .ok (.iconst 0, 1) := by decide +kernel
theorem d_RC_countUpTo_13 : decode b_RC_countUpTo 13 = .ok (.iload_n 1, 1) := by decide +kernel
theorem d_RC_countUpTo_14 : decode b_RC_countUpTo 14 = .ok (.invokevirtual 72, 3) := by decide +kernel
theorem d_RC_countUpTo_17 : decode b_RC_countUpTo 17 = .ok (.goto 4, 3) := by decide +kernel
theorem d_RC_countUpTo_20 : decode b_RC_countUpTo 20 = .ok (.iconst 0, 1) := by decide +kernel
theorem d_RC_countUpTo_21 : decode b_RC_countUpTo 21 = .ok (.ireturn, 1) := by decide +kernel
theorem d_TF_magic_0 : decode b_TF_magic 0 = .ok (.iload_n 1, 1) := by decide +kernel
theorem d_TF_magic_1 : decode b_TF_magic 1 = .ok (.iconst 1, 1) := by decide +kernel
theorem d_TF_magic_2 : decode b_TF_magic 2 = .ok (.if_icmp .lt 33, 3) := by decide +kernel
theorem d_TF_magic_5 : decode b_TF_magic 5 = .ok (.iload_n 1, 1) := by decide +kernel
theorem d_TF_magic_6 : decode b_TF_magic 6 = .ok (.bipush 15, 2) := by decide +kernel
theorem d_TF_magic_8 : decode b_TF_magic 8 = .ok (.if_icmp .gt 27, 3) := by decide +kernel
theorem d_TF_magic_11 : decode b_TF_magic 11 = .ok (.iload_n 1, 1) := by decide +kernel
theorem d_TF_magic_12 : decode b_TF_magic 12 = .ok (.iconst 2, 1) := by decide +kernel
theorem d_TF_magic_13 : decode b_TF_magic 13 = .ok (.irem, 1) := by decide +kernel
theorem d_TF_magic_14 : decode b_TF_magic 14 = .ok (.ifCond .eq 21, 3) := by decide +kernel
theorem d_TF_magic_17 : decode b_TF_magic 17 = .ok (.iload_n 2, 1) := by decide +kernel
theorem d_TF_magic_18 : decode b_TF_magic 18 = .ok (.ifCond .lt 17, 3) := by decide +kernel
theorem d_TF_magic_21 : decode b_TF_magic 21 = .ok (.iload_n 2, 1) := by decide +kernel
theorem d_TF_magic_22 : decode b_TF_magic 22 = .ok (.iload_n 1, 1) := by decide +kernel
theorem d_TF_magic_23 : decode b_TF_magic 23 = .ok (.if_icmp .ge 12, 3) := by decide +kernel
theorem d_TF_magic_26 : decode b_TF_magic 26 = .ok (.iload_n 3, 1) := by decide +kernel
theorem d_TF_magic_27 : decode b_TF_magic 27 = .ok (.ifCond .lt 8, 3) := by decide +kernel
theorem d_TF_magic_30 : decode b_TF_magic 30 = .ok (.iload_n 3, 1) := by decide +kernel
theorem d_TF_magic_31 : decode b_TF_magic 31 = .ok (.iload_n 1, 1) := by decide +kernel
theorem d_TF_magic_32 : decode b_TF_magic 32 = .ok (.if_icmp .lt 5, 3) := by decide +kernel
theorem d_TF_magic_35 : decode b_TF_magic 35 = .ok (.iconst (-1), 1) := by decide +kernel
theorem d_TF_magic_36 : decode b_TF_magic 36 = .ok (.ireturn, 1) := by decide +kernel
theorem d_TF_magic_37 : decode b_TF_magic 37 = .ok (.iload_n 2, 1) := by decide +kernel
theorem d_TF_magic_38 : decode b_TF_magic 38 = .ok (.iload_n 3, 1) := by decide +kernel
theorem d_TF_magic_39 : decode b_TF_magic 39 = .ok (.iadd, 1) := by decide +kernel
theorem d_TF_magic_40 : decode b_TF_magic 40 = .ok (.iload_n 1, 1) := by decide +kernel
theorem d_TF_magic_41 : decode b_TF_magic 41 = .ok (.iconst 1, 1) := by decide +kernel
theorem d_TF_magic_42 : decode b_TF_magic 42 = .ok (.isub, 1) := by decide +kernel
theorem d_TF_magic_43 : decode b_TF_magic 43 = .ok (.iconst 2, 1) := by decide +kernel
theorem d_TF_magic_44 : decode b_TF_magic 44 = .ok (.idiv, 1) := by decide +kernel
theorem d_TF_magic_45 : decode b_TF_magic 45 = .ok (.isub, 1) := by decide +kernel
theorem d_TF_magic_46 : decode b_TF_magic 46 = .ok (.iload_n 1, 1) := by decide +kernel
theorem d_TF_magic_47 : decode b_TF_magic 47 = .ok (.invokestatic 124, 3) := by decide +kernel
theorem d_TF_magic_50 : decode b_TF_magic 50 = .ok (.istore 4, 2) := by decide +kernel
theorem d_TF_magic_52 : decode b_TF_magic 52 = .ok (.iconst 2, 1) := by decide +kernel
theorem d_TF_magic_53 : decode b_TF_magic 53 = .ok (.iload 4, 2) := by decide +kernel
theorem d_TF_magic_55 : decode b_TF_magic 55 = .ok (.imul, 1) := by decide +kernel
theorem d_TF_magic_56 : decode b_TF_magic 56 = .ok (.iload_n 3, 1) := by decide +kernel
theorem d_TF_magic_57 : decode b_TF_magic 57 = .ok (.isub, 1) := by decide +kernel
theorem d_TF_magic_58 : decode b_TF_magic 58 = .ok (.iload_n 1, 1) := by decide +kernel
theorem d_TF_magic_59 : decode b_TF_magic 59 = .ok (.invokestatic 124, 3) := by decide +kernel
theorem d_TF_magic_62 : decode b_TF_magic 62 = .ok (.istore 5, 2) := by decide +kernel
theorem d_TF_magic_64 : decode b_TF_magic 64 = .ok (.iload 4, 2) := by decide +kernel
theorem d_TF_magic_66 : decode b_TF_magic 66 = .ok (.iload_n 1, 1) := by decide +kernel
theorem d_TF_magic_67 : decode b_TF_magic 67 = .ok (.imul, 1) := by decide +kernel
theorem d_TF_magic_68 : decode b_TF_magic 68 = .ok (.iload 5, 2) := by decide +kernel
theorem d_TF_magic_70 : decode b_TF_magic 70 = .ok (.iadd, 1) := by decide +kernel
theorem d_TF_magic_71 : decode b_TF_magic 71 = .ok (.iconst 1, 1) := by decide +kernel
theorem d_TF_magic_72 : decode b_TF_magic 72 = .ok (.iadd, 1) := by decide +kernel
theorem d_TF_magic_73 : decode b_TF_magic 73 = .ok (.ireturn, 1) := by decide +kernel
theorem d_MT_floorMod_0 : decode b_MT_floorMod 0 = .ok (.iload_n 0, 1) := by decide +kernel
theorem d_MT_floorMod_1 : decode b_MT_floorMod 1 = .ok (.iload_n 1, 1) := by decide +kernel
theorem d_MT_floorMod_2 : decode b_MT_floorMod 2 = .ok (.irem, 1) := by decide +kernel
theorem d_MT_floorMod_3 : decode b_MT_floorMod 3 = .ok (.istore_n 2, 1) := by decide +kernel
theorem d_MT_floorMod_4 : decode b_MT_floorMod 4 = .ok (.iload_n 0, 1) := by decide +kernel
theorem d_MT_floorMod_5 : decode b_MT_floorMod 5 = .ok (.iload_n 1, 1) := by decide +kernel
theorem d_MT_floorMod_6 : decode b_MT_floorMod 6 = .ok (.ixor, 1) := by decide +kernel
theorem d_MT_floorMod_7 : decode b_MT_floorMod 7 = .ok (.ifCond .ge 11, 3) := by decide +kernel
theorem d_MT_floorMod_10 : decode b_MT_floorMod 10 = .ok (.iload_n 2, 1) := by decide +kernel
theorem d_MT_floorMod_11 : decode b_MT_floorMod 11 = .ok (.ifCond .eq 7, 3) := by decide +kernel
theorem d_MT_floorMod_14 : decode b_MT_floorMod 14 = .ok (.iload_n 2, 1) := by decide +kernel
theorem d_MT_floorMod_15 : decode b_MT_floorMod 15 = .ok (.iload_n 1, 1) := by decide +kernel
theorem d_MT_floorMod_16 : decode b_MT_floorMod 16 = .ok (.iadd, 1) := by decide +kernel
theorem d_MT_floorMod_17 : decode b_MT_floorMod 17 = .ok (.ireturn, 1) := by decide +kernel
theorem d_MT_floorMod_18 : decode b_MT_floorMod 18 = .ok (.iload_n 2, 1) := by decide +kernel
theorem d_MT_floorMod_19 : decode b_MT_floorMod 19 = .ok (.ireturn, 1) := by decide +kernel
theorem d_law_cell_0 : decode b_law_cell 0 = .ok (.iload_n 1, 1) := by decide +kernel
theorem d_law_cell_1 : decode b_law_cell 1 = .ok (.aload_n 0, 1) := by decide +kernel
theorem d_law_cell_2 : decode b_law_cell 2 = .ok (.arraylength, 1) := by decide +kernel
theorem d_law_cell_3 : decode b_law_cell 3 = .ok (.if_icmp .ge 9, 3) := by decide +kernel
theorem d_law_cell_6 : decode b_law_cell 6 = .ok (.aload_n 0, 1) := by decide +kernel
theorem d_law_cell_7 : decode b_law_cell 7 = .ok (.iload_n 1, 1) := by decide +kernel
theorem d_law_cell_8 : decode b_law_cell 8 = .ok (.iaload, 1) := by decide +kernel
theorem d_law_cell_9 : decode b_law_cell 9 = .ok (.goto 4, 3) := by decide +kernel
theorem d_law_cell_12 : decode b_law_cell 12 = .ok (.iconst 0, 1) := by decide +kernel
theorem d_law_cell_13 : decode b_law_cell 13 = .ok (.ireturn, 1) := by decide +kernel
theorem d_MD_init_0 : decode b_MD_init 0 = .ok (.aload_n 0, 1) := by decide +kernel
theorem d_MD_init_1 : decode b_MD_init 1 = .ok (.invokespecial 1, 3) := by decide +kernel
theorem d_MD_init_4 : decode b_MD_init 4 = .ok (.aload_n 0, 1) := by decide +kernel
theorem d_MD_init_5 : decode b_MD_init 5 = .ok (.bipush 36, 2) := by decide +kernel
theorem d_MD_init_7 : decode b_MD_init 7 = .ok (.newarray .boolean, 2) := by decide +kernel
theorem d_MD_init_9 : decode b_MD_init 9 = .ok (.putfield 7, 3) := by decide +kernel
theorem d_MD_init_12 : decode b_MD_init 12 = .ok (.aload_n 0, 1) := by decide +kernel
theorem d_MD_init_13 : decode b_MD_init 13 = .ok (.bipush 36, 2) := by decide +kernel
theorem d_MD_init_15 : decode b_MD_init 15 = .ok (.newarray .boolean, 2) := by decide +kernel
theorem d_MD_init_17 : decode b_MD_init 17 = .ok (.putfield 13, 3) := by decide +kernel
theorem d_MD_init_20 : decode b_MD_init 20 = .ok (.aload_n 0, 1) := by decide +kernel
theorem d_MD_init_21 : decode b_MD_init 21 = .ok (.bipush 36, 2) := by decide +kernel
theorem d_MD_init_23 : decode b_MD_init 23 = .ok (.newarray .int, 2) := by decide +kernel
theorem d_MD_init_25 : decode b_MD_init 25 = .ok (.putfield 16, 3) := by decide +kernel
theorem d_MD_init_28 : decode b_MD_init 28 = .ok (.aload_n 0, 1) := by decide +kernel
theorem d_MD_init_29 : decode b_MD_init 29 = .ok (.bipush 6, 2) := by decide +kernel
theorem d_MD_init_31 : decode b_MD_init 31 = .ok (.newarray .int, 2) := by decide +kernel
theorem d_MD_init_33 : decode b_MD_init 33 = .ok (.putfield 20, 3) := by decide +kernel
theorem d_MD_init_36 : decode b_MD_init 36 = .ok (.aload_n 0, 1) := by decide +kernel
theorem d_MD_init_37 : decode b_MD_init 37 = .ok (.bipush 6, 2) := by decide +kernel
theorem d_MD_init_39 : decode b_MD_init 39 = .ok (.newarray .int, 2) := by decide +kernel
theorem d_MD_init_41 : decode b_MD_init 41 = .ok (.putfield 23, 3) := by decide +kernel
theorem d_MD_init_44 : decode b_MD_init 44 = .ok (.aload_n 0, 1) := by decide +kernel
theorem d_MD_init_45 : decode b_MD_init 45 = .ok (.bipush 36, 2) := by decide +kernel
theorem d_MD_init_47 : decode b_MD_init 47 = .ok (.newarray .int, 2) := by decide +kernel
theorem d_MD_init_49 : decode b_MD_init 49 = .ok (.putfield 26, 3) := by decide +kernel
theorem d_MD_init_52 : decode b_MD_init 52 = .ok (.aload_n 0, 1) := by decide +kernel
theorem d_MD_init_53 : decode b_MD_init 53 = .ok (.bipush 36, 2) := by decide +kernel
theorem d_MD_init_55 : decode b_MD_init 55 = .ok (.newarray .int, 2) := by decide +kernel
theorem d_MD_init_57 : decode b_MD_init 57 = .ok (.putfield 29, 3) := by decide +kernel
theorem d_MD_init_60 : decode b_MD_init 60 = .ok (.aload_n 0, 1) := by decide +kernel
theorem d_MD_init_61 : decode b_MD_init 61 = .ok (.bipush 36, 2) := by decide +kernel
theorem d_MD_init_63 : decode b_MD_init 63 = .ok (.newarray .int, 2) := by decide +kernel
theorem d_MD_init_65 : decode b_MD_init 65 = .ok (.putfield 32, 3) := by decide +kernel
theorem d_MD_init_68 : decode b_MD_init 68 = .ok (.aload_n 0, 1) := by decide +kernel
theorem d_MD_init_69 : decode b_MD_init 69 = .ok (.bipush 36, 2) := by decide +kernel
theorem d_MD_init_71 : decode b_MD_init 71 = .ok (.newarray .int, 2) := by decide +kernel
theorem d_MD_init_73 : decode b_MD_init 73 = .ok (.putfield 35, 3) := by decide +kernel
theorem d_MD_init_76 : decode b_MD_init 76 = .ok (.aload_n 0, 1) := by decide +kernel
theorem d_MD_init_77 : decode b_MD_init 77 = .ok (.iload_n 1, 1) := by decide +kernel
theorem d_MD_init_78 : decode b_MD_init 78 = .ok (.invokestatic 38, 3) := by decide +kernel
theorem d_MD_init_81 : decode b_MD_init 81 = .ok (.putfield 42, 3) := by decide +kernel
theorem d_MD_init_84 : decode b_MD_init 84 = .ok (.aload_n 0, 1) := by decide +kernel
theorem d_MD_init_85 : decode b_MD_init 85 = .ok (.iload_n 2, 1) := by decide +kernel
theorem d_MD_init_86 : decode b_MD_init 86 = .ok (.invokestatic 38, 3) := by decide +kernel
theorem d_MD_init_89 : decode b_MD_init 89 = .ok (.putfield 46, 3) := by decide +kernel
theorem d_MD_init_92 : decode b_MD_init 92 = .ok (.aload_n 0, 1) := by decide +kernel
theorem d_MD_init_93 : decode b_MD_init 93 = .ok (.aload_n 0, 1) := by decide +kernel
theorem d_MD_init_94 : decode b_MD_init 94 = .ok (.getfield 42, 3) := by decide +kernel
theorem d_MD_init_97 : decode b_MD_init 97 = .ok (.aload_n 0, 1) := by decide +kernel
theorem d_MD_init_98 : decode b_MD_init 98 = .ok (.getfield 46, 3) := by decide +kernel
theorem d_MD_init_101 : decode b_MD_init 101 = .ok (.imul, 1) := by decide +kernel
theorem d_MD_init_102 : decode b_MD_init 102 = .ok (.putfield 49, 3) := by decide +kernel
theorem d_MD_init_105 : decode b_MD_init 105 = .ok (.aload_n 0, 1) := by decide +kernel
theorem d_MD_init_106 : decode b_MD_init 106 = .ok (.aload_n 0, 1) := by decide +kernel
theorem d_MD_init_107 : decode b_MD_init 107 = .ok (.getfield 42, 3) := by decide +kernel
theorem d_MD_init_110 : decode b_MD_init 110 = .ok (.aload_n 0, 1) := by decide +kernel
theorem d_MD_init_111 : decode b_MD_init 111 = .ok (.getfield 46, 3) := by decide +kernel
theorem d_MD_init_114 : decode b_MD_init 114 = .ok (.if_icmp .le 10, 3) := by decide +kernel
theorem d_MD_init_117 : decode b_MD_init 117 = .ok (.aload_n 0, 1) := by decide +kernel
theorem d_MD_init_118 : decode b_MD_init 118 = .ok (.getfield 42, 3) := by decide +kernel
theorem d_MD_init_121 : decode b_MD_init 121 = .ok (.goto 7, 3) := by decide +kernel
theorem d_MD_init_124 : decode b_MD_init 124 = .ok (.aload_n 0, 1) := by decide +kernel
theorem d_MD_init_125 : decode b_MD_init 125 = .ok (.getfield 46, 3) := by decide +kernel
theorem d_MD_init_128 : decode b_MD_init 128 = .ok (.putfield 52, 3) := by decide +kernel
theorem d_MD_init_131 : decode b_MD_init 131 = .ok (.return_, 1) := by decide +kernel
theorem d_MD_held_0 : decode b_MD_held 0 = .ok (.iload_n 0, 1) := by decide +kernel
theorem d_MD_held_1 : decode b_MD_held 1 = .ok (.iconst 1, 1) := by decide +kernel
theorem d_MD_held_2 : decode b_MD_held 2 = .ok (.if_icmp .ge 7, 3) := by decide +kernel
theorem d_MD_held_5 : decode b_MD_held 5 = .ok (.iconst 1, 1) := by decide +kernel
theorem d_MD_held_6 : decode b_MD_held 6 = .ok (.goto 15, 3) := by decide +kernel
theorem d_MD_held_9 : decode b_MD_held 9 = .ok (.iload_n 0, 1) := by decide +kernel
theorem d_MD_held_10 : decode b_MD_held 10 = .ok (.bipush 6, 2) := by decide +kernel
theorem d_MD_held_12 : decode b_MD_held 12 = .ok (.if_icmp .le 8, 3) := by decide +kernel
theorem d_MD_held_15 : decode b_MD_held 15 = .ok (.bipush 6, 2) := by decide +kernel
theorem d_MD_held_17 : decode b_MD_held 17 = .ok (.goto 4, 3) := by decide +kernel
theorem d_MD_held_20 : decode b_MD_held 20 = .ok (.iload_n 0, 1) := by decide +kernel
theorem d_MD_held_21 : decode b_MD_held 21 = .ok (.ireturn, 1) := by decide +kernel
theorem d_MD_bar_0 : decode b_MD_bar 0 = .ok (.aload_n 0, 1) := by decide +kernel
theorem d_MD_bar_1 : decode b_MD_bar 1 = .ok (.iconst 0, 1) := by decide +kernel
theorem d_MD_bar_2 : decode b_MD_bar 2 = .ok (.putfield 55, 3) := by decide +kernel
theorem d_MD_bar_5 : decode b_MD_bar 5 = .ok (.aload_n 0, 1) := by decide +kernel
theorem d_MD_bar_6 : decode b_MD_bar 6 = .ok (.iload_n 1, 1) := by decide +kernel
theorem d_MD_bar_7 : decode b_MD_bar 7 = .ok (.iload_n 2, 1) := by decide +kernel
theorem d_MD_bar_8 : decode b_MD_bar 8 = .ok (.invokevirtual 58, 3) := by decide +kernel
theorem d_MD_bar_11 : decode b_MD_bar 11 = .ok (.ifCond .eq 20, 3) := by decide +kernel
theorem d_MD_bar_14 : decode b_MD_bar 14 = .ok (.aload_n 0, 1) := by decide +kernel
theorem d_MD_bar_15 : decode b_MD_bar 15 = .ok (.getfield 7, 3) := by decide +kernel
theorem d_MD_bar_18 : decode b_MD_bar 18 = .ok (.iload_n 1, 1) := by decide +kernel
theorem d_MD_bar_19 : decode b_MD_bar 19 = .ok (.aload_n 0, 1) := by decide +kernel
theorem d_MD_bar_20 : decode b_MD_bar 20 = .ok (.getfield 42, 3) := by decide +kernel
theorem d_MD_bar_23 : decode b_MD_bar 23 = .ok (.iload_n 2, 1) := by decide +kernel
theorem d_MD_bar_24 : decode b_MD_bar 24 = .ok (.imul, 1) := by decide +kernel
theorem d_MD_bar_25 : decode b_MD_bar 25 = .ok (.iadd, 1) := by decide +kernel
theorem d_MD_bar_26 : decode b_MD_bar 26 = .ok (.baload, 1) := by decide +kernel
theorem d_MD_bar_27 : decode b_MD_bar 27 = .ok (.iload_n 3, 1) := by decide +kernel
theorem d_MD_bar_28 : decode b_MD_bar 28 = .ok (.if_icmp .ne 5, 3) := by decide +kernel
theorem d_MD_bar_31 : decode b_MD_bar 31 = .ok (.iconst 0, 1) := by decide +kernel
theorem d_MD_bar_32 : decode b_MD_bar 32 = .ok (.ireturn, 1) := by decide +kernel
theorem d_MD_bar_33 : decode b_MD_bar 33 = .ok (.aload_n 0, 1) := by decide +kernel
theorem d_MD_bar_34 : decode b_MD_bar 34 = .ok (.getfield 7, 3) := by decide +kernel
theorem d_MD_bar_37 : decode b_MD_bar 37 = .ok (.iload_n 1, 1) := by decide +kernel
theorem d_MD_bar_38 : decode b_MD_bar 38 = .ok (.aload_n 0, 1) := by decide +kernel
theorem d_MD_bar_39 : decode b_MD_bar 39 = .ok (.getfield 42, 3) := by decide +kernel
theorem d_MD_bar_42 : decode b_MD_bar 42 = .ok (.iload_n 2, 1) := by decide +kernel
theorem d_MD_bar_43 : decode b_MD_bar 43 = .ok (.imul, 1) := by decide +kernel
theorem d_MD_bar_44 : decode b_MD_bar 44 = .ok (.iadd, 1) := by decide +kernel
theorem d_MD_bar_45 : decode b_MD_bar 45 = .ok (.iload_n 3, 1) := by decide +kernel
theorem d_MD_bar_46 : decode b_MD_bar 46 = .ok (.bastore, 1) := by decide +kernel
theorem d_MD_bar_47 : decode b_MD_bar 47 = .ok (.aload_n 0, 1) := by decide +kernel
theorem d_MD_bar_48 : decode b_MD_bar 48 = .ok (.iconst 0, 1) := by decide +kernel
theorem d_MD_bar_49 : decode b_MD_bar 49 = .ok (.putfield 62, 3) := by decide +kernel
theorem d_MD_bar_52 : decode b_MD_bar 52 = .ok (.iconst 1, 1) := by decide +kernel
theorem d_MD_bar_53 : decode b_MD_bar 53 = .ok (.ireturn, 1) := by decide +kernel
theorem d_MD_isCell_0 : decode b_MD_isCell 0 = .ok (.iload_n 1, 1) := by decide +kernel
theorem d_MD_isCell_1 : decode b_MD_isCell 1 = .ok (.ifCond .lt 27, 3) := by decide +kernel
theorem d_MD_isCell_4 : decode b_MD_isCell 4 = .ok (.iload_n 1, 1) := by decide +kernel
theorem d_MD_isCell_5 : decode b_MD_isCell 5 = .ok (.aload_n 0, 1) := by decide +kernel
theorem d_MD_isCell_6 : decode b_MD_isCell 6 = .ok (.getfield 42, 3) := by decide +kernel
theorem d_MD_isCell_9 : decode b_MD_isCell 9 = .ok (.if_icmp .ge 19, 3) := by decide +kernel
theorem d_MD_isCell_12 : decode b_MD_isCell 12 = .ok (.iload_n 2, 1) := by decide +kernel
theorem d_MD_isCell_13 : decode b_MD_isCell 13 = .ok (.ifCond .lt 15, 3) := by decide +kernel
theorem d_MD_isCell_16 : decode b_MD_isCell 16 = .ok (.iload_n 2, 1) := by decide +kernel
theorem d_MD_isCell_17 : decode b_MD_isCell 17 = .ok (.aload_n 0, 1) := by decide +kernel
theorem d_MD_isCell_18 : decode b_MD_isCell 18 = .ok (.getfield 46, 3) := by decide +kernel
theorem d_MD_isCell_21 : decode b_MD_isCell 21 = .ok (.if_icmp .ge 7, 3) := by decide +kernel
theorem d_MD_isCell_24 : decode b_MD_isCell 24 = .ok (.iconst 1, 1) := by decide +kernel
theorem d_MD_isCell_25 : decode b_MD_isCell 25 = .ok (.goto 4, 3) := by decide +kernel
theorem d_MD_isCell_28 : decode b_MD_isCell 28 = .ok (.iconst 0, 1) := by decide +kernel
theorem d_MD_isCell_29 : decode b_MD_isCell 29 = .ok (.ireturn, 1) := by decide +kernel
theorem d_MD_start_0 : decode b_MD_start 0 = .ok (.aload_n 0, 1) := by decide +kernel
theorem d_MD_start_1 : decode b_MD_start 1 = .ok (.iconst 0, 1) := by decide +kernel
theorem d_MD_start_2 : decode b_MD_start 2 = .ok (.putfield 55, 3) := by decide +kernel
theorem d_MD_start_5 : decode b_MD_start 5 = .ok (.aload_n 0, 1) := by decide +kernel
theorem d_MD_start_6 : decode b_MD_start 6 = .ok (.iload_n 1, 1) := by decide +kernel
theorem d_MD_start_7 : decode b_MD_start 7 = .ok (.iload_n 2, 1) := by decide +kernel
theorem d_MD_start_8 : decode b_MD_start 8 = .ok (.invokevirtual 58, 3) := by decide +kernel
theorem d_MD_start_11 : decode b_MD_start 11 = .ok (.ifCond .ne 5, 3) := by decide +kernel
theorem d_MD_start_14 : decode b_MD_start 14 = .ok (.iconst 0, 1) := by decide +kernel
theorem d_MD_start_15 : decode b_MD_start 15 = .ok (.ireturn, 1) := by decide +kernel
theorem d_MD_start_16 : decode b_MD_start 16 = .ok (.aload_n 0, 1) := by decide +kernel
theorem d_MD_start_17 : decode b_MD_start 17 = .ok (.iload_n 1, 1) := by decide +kernel
theorem d_MD_start_18 : decode b_MD_start 18 = .ok (.aload_n 0, 1) := by decide +kernel
theorem d_MD_start_19 : decode b_MD_start 19 = .ok (.getfield 42, 3) := by decide +kernel
theorem d_MD_start_22 : decode b_MD_start 22 = .ok (.iload_n 2, 1) := by decide +kernel
theorem d_MD_start_23 : decode b_MD_start 23 = .ok (.imul, 1) := by decide +kernel
theorem d_MD_start_24 : decode b_MD_start 24 = .ok (.iadd, 1) := by decide +kernel
theorem d_MD_start_25 : decode b_MD_start 25 = .ok (.putfield 65, 3) := by decide +kernel
theorem d_MD_start_28 : decode b_MD_start 28 = .ok (.aload_n 0, 1) := by decide +kernel
theorem d_MD_start_29 : decode b_MD_start 29 = .ok (.iconst 0, 1) := by decide +kernel
theorem d_MD_start_30 : decode b_MD_start 30 = .ok (.putfield 62, 3) := by decide +kernel
theorem d_MD_start_33 : decode b_MD_start 33 = .ok (.iconst 1, 1) := by decide +kernel
theorem d_MD_start_34 : decode b_MD_start 34 = .ok (.ireturn, 1) := by decide +kernel
theorem d_MD_tour_0 : decode b_MD_tour 0 = .ok (.aload_n 0, 1) := by decide +kernel
theorem d_MD_tour_1 : decode b_MD_tour 1 = .ok (.iconst 0, 1) := by decide +kernel
theorem d_MD_tour_2 : decode b_MD_tour 2 = .ok (.putfield 55, 3) := by decide +kernel
theorem d_MD_tour_5 : decode b_MD_tour 5 = .ok (.iload_n 1, 1) := by decide +kernel
theorem d_MD_tour_6 : decode b_MD_tour 6 = .ok (.ifCond .lt 18, 3) := by decide +kernel
theorem d_MD_tour_9 : decode b_MD_tour 9 = .ok (.iload_n 1, 1) := by decide +kernel
theorem d_MD_tour_10 : decode b_MD_tour 10 = .ok (.iconst 2, 1) := by decide +kernel
theorem d_MD_tour_11 : decode b_MD_tour 11 = .ok (.if_icmp .gt 13, 3) := by decide +kernel
theorem d_MD_tour_14 : decode b_MD_tour 14 = .ok (.iload_n 3, 1) := by decide +kernel
theorem d_MD_tour_15 : decode b_MD_tour 15 = .ok (.ifCond .lt 9, 3) := by decide +kernel
theorem d_MD_tour_18 : decode b_MD_tour 18 = .ok (.iload_n 3, 1) := by decide +kernel
theorem d_MD_tour_19 : decode b_MD_tour 19 = .ok (.ldc 90, 2) := by decide +kernel
theorem d_MD_tour_21 : decode b_MD_tour 21 = .ok (.if_icmp .le 5, 3) := by decide +kernel
theorem d_MD_tour_24 : decode b_MD_tour 24 = .ok (.iconst (-1), 1) := by decide +kernel
theorem d_MD_tour_25 : decode b_MD_tour 25 = .ok (.ireturn, 1) := by decide +kernel
theorem d_MD_tour_26 : decode b_MD_tour 26 = .ok (.aload_n 0, 1) := by decide +kernel
theorem d_MD_tour_27 : decode b_MD_tour 27 = .ok (.iconst 0, 1) := by decide +kernel
theorem d_MD_tour_28 : decode b_MD_tour 28 = .ok (.putfield 62, 3) := by decide +kernel
theorem d_MD_tour_31 : decode b_MD_tour 31 = .ok (.aload_n 0, 1) := by decide +kernel
theorem d_MD_tour_32 : decode b_MD_tour 32 = .ok (.iconst 0, 1) := by decide +kernel
theorem d_MD_tour_33 : decode b_MD_tour 33 = .ok (.putfield 87, 3) := by decide +kernel
theorem d_MD_tour_36 : decode b_MD_tour 36 = .ok (.aload_n 0, 1) := by decide +kernel
theorem d_MD_tour_37 : decode b_MD_tour 37 = .ok (.getfield 7, 3) := by decide +kernel
theorem d_MD_tour_40 : decode b_MD_tour 40 = .ok (.aload_n 0, 1) := by decide +kernel
theorem d_MD_tour_41 : decode b_MD_tour 41 = .ok (.getfield 65, 3) := by decide +kernel
theorem d_MD_tour_44 : decode b_MD_tour 44 = .ok (.baload, 1) := by decide +kernel
theorem d_MD_tour_45 : decode b_MD_tour 45 = .ok (.ifCond .eq 7, 3) := by decide +kernel
theorem d_MD_tour_48 : decode b_MD_tour 48 = .ok (.iconst 1, 1) := by decide +kernel
theorem d_MD_tour_49 : decode b_MD_tour 49 = .ok (.goto 10, 3) := by decide +kernel
theorem d_MD_tour_52 : decode b_MD_tour 52 = .ok (.aload_n 0, 1) := by decide +kernel
theorem d_MD_tour_53 : decode b_MD_tour 53 = .ok (.iload_n 1, 1) := by decide +kernel
theorem d_MD_tour_54 : decode b_MD_tour 54 = .ok (.iload_n 2, 1) := by decide +kernel
theorem d_MD_tour_55 : decode b_MD_tour 55 = .ok (.iload_n 3, 1) := by decide +kernel
theorem d_MD_tour_56 : decode b_MD_tour 56 = .ok (.invokevirtual 91, 3) := by decide +kernel
theorem d_MD_tour_59 : decode b_MD_tour 59 = .ok (.ireturn, 1) := by decide +kernel
theorem d_MD_search_0 : decode b_MD_search 0 = .ok (.aload_n 0, 1) := by decide +kernel
theorem d_MD_search_1 : decode b_MD_search 1 = .ok (.invokevirtual 79, 3) := by decide +kernel
theorem d_MD_search_4 : decode b_MD_search 4 = .ok (.istore 4, 2) := by decide +kernel
theorem d_MD_search_6 : decode b_MD_search 6 = .ok (.iconst 0, 1) := by decide +kernel
theorem d_MD_search_7 : decode b_MD_search 7 = .ok (.istore 5, 2) := by decide +kernel
theorem d_MD_search_9 : decode b_MD_search 9 = .ok (.iload 5, 2) := by decide +kernel
theorem d_MD_search_11 : decode b_MD_search 11 = .ok (.aload_n 0, 1) := by decide +kernel
theorem d_MD_search_12 : decode b_MD_search 12 = .ok (.getfield 49, 3) := by decide +kernel
theorem d_MD_search_15 : decode b_MD_search 15 = .ok (.if_icmp .ge 17, 3) := by decide +kernel
theorem d_MD_search_18 : decode b_MD_search 18 = .ok (.aload_n 0, 1) := by decide +kernel
theorem d_MD_search_19 : decode b_MD_search 19 = .ok (.getfield 13, 3) := by decide +kernel
theorem d_MD_search_22 : decode b_MD_search 22 = .ok (.iload 5, 2) := by decide +kernel
theorem d_MD_search_24 : decode b_MD_search 24 = .ok (.iconst 0, 1) := by decide +kernel
theorem d_MD_search_25 : decode b_MD_search 25 = .ok (.bastore, 1) := by decide +kernel
theorem d_MD_search_26 : decode b_MD_search 26 = .ok (.iinc 5 1, 3) := by decide +kernel
theorem d_MD_search_29 : decode b_MD_search 29 = .ok (.goto (-20), 3) := by decide +kernel
theorem d_MD_search_32 : decode b_MD_search 32 = .ok (.aload_n 0, 1) := by decide +kernel
theorem d_MD_search_33 : decode b_MD_search 33 = .ok (.getfield 13, 3) := by decide +kernel
theorem d_MD_search_36 : decode b_MD_search 36 = .ok (.aload_n 0, 1) := by decide +kernel
theorem d_MD_search_37 : decode b_MD_search 37 = .ok (.getfield 65, 3) := by decide +kernel
theorem d_MD_search_40 : decode b_MD_search 40 = .ok (.iconst 1, 1) := by decide +kernel
theorem d_MD_search_41 : decode b_MD_search 41 = .ok (.bastore, 1) := by decide +kernel
theorem d_MD_search_42 : decode b_MD_search 42 = .ok (.aload_n 0, 1) := by decide +kernel
theorem d_MD_search_43 : decode b_MD_search 43 = .ok (.getfield 16, 3) := by decide +kernel
theorem d_MD_search_46 : decode b_MD_search 46 = .ok (.iconst 0, 1) := by decide +kernel
theorem d_MD_search_47 : decode b_MD_search 47 = .ok (.aload_n 0, 1) := by decide +kernel
theorem d_MD_search_48 : decode b_MD_search 48 = .ok (.getfield 65, 3) := by decide +kernel
theorem d_MD_search_51 : decode b_MD_search 51 = .ok (.iastore, 1) := by decide +kernel
theorem d_MD_search_52 : decode b_MD_search 52 = .ok (.iconst 1, 1) := by decide +kernel
theorem d_MD_search_53 : decode b_MD_search 53 = .ok (.istore 5, 2) := by decide +kernel
theorem d_MD_search_55 : decode b_MD_search 55 = .ok (.iconst (-1), 1) := by decide +kernel
theorem d_MD_search_56 : decode b_MD_search 56 = .ok (.istore 6, 2) := by decide +kernel
theorem d_MD_search_58 : decode b_MD_search 58 = .ok (.iload 5, 2) := by decide +kernel
theorem d_MD_search_60 : decode b_MD_search 60 = .ok (.ifCond .le 142, 3) := by decide +kernel
theorem d_MD_search_63 : decode b_MD_search 63 = .ok (.iload 5, 2) := by decide +kernel
theorem d_MD_search_65 : decode b_MD_search 65 = .ok (.iload 4, 2) := by decide +kernel
theorem d_MD_search_67 : decode b_MD_search 67 = .ok (.if_icmp .ne 42, 3) := by decide +kernel
theorem d_MD_search_70 : decode b_MD_search 70 = .ok (.iload 6, 2) := by decide +kernel
theorem d_MD_search_72 : decode b_MD_search 72 = .ok (.iconst (-1), 1) := by decide +kernel
theorem d_MD_search_73 : decode b_MD_search 73 = .ok (.if_icmp .ne 36, 3) := by decide +kernel
theorem d_MD_search_76 : decode b_MD_search 76 = .ok (.iload_n 2, 1) := by decide +kernel
theorem d_MD_search_77 : decode b_MD_search 77 = .ok (.ifCond .eq 24, 3) := by decide +kernel
theorem d_MD_search_80 : decode b_MD_search 80 = .ok (.aload_n 0, 1) := by decide +kernel
theorem d_MD_search_81 : decode b_MD_search 81 = .ok (.iload_n 1, 1) := by decide +kernel
theorem d_MD_search_82 : decode b_MD_search 82 = .ok (.aload_n 0, 1) := by decide +kernel
theorem d_MD_search_83 : decode b_MD_search 83 = .ok (.getfield 16, 3) := by decide +kernel
theorem d_MD_search_86 : decode b_MD_search 86 = .ok (.iload 5, 2) := by decide +kernel
theorem d_MD_search_88 : decode b_MD_search 88 = .ok (.iconst 1, 1) := by decide +kernel
theorem d_MD_search_89 : decode b_MD_search 89 = .ok (.isub, 1) := by decide +kernel
theorem d_MD_search_90 : decode b_MD_search 90 = .ok (.iaload, 1) := by decide +kernel
theorem d_MD_search_91 : decode b_MD_search 91 = .ok (.aload_n 0, 1) := by decide +kernel
theorem d_MD_search_92 : decode b_MD_search 92 = .ok (.getfield 65, 3) := by decide +kernel
theorem d_MD_search_95 : decode b_MD_search 95 = .ok (.invokevirtual 72, 3) := by decide +kernel
theorem d_MD_search_98 : decode b_MD_search 98 = .ok (.ifCond .eq 11, 3) := by decide +kernel
theorem d_MD_search_101 : decode b_MD_search 101 = .ok (.aload_n 0, 1) := by decide +kernel
theorem d_MD_search_102 : decode b_MD_search 102 = .ok (.iload 5, 2) := by decide +kernel
theorem d_MD_search_104 : decode b_MD_search 104 = .ok (.putfield 62, 3) := by decide +kernel
theorem d_MD_search_107 : decode b_MD_search 107 = .ok (.iconst 0, 1) := by decide +kernel
theorem d_MD_search_108 : decode b_MD_search 108 = .ok (.ireturn, 1) := by decide +kernel
theorem d_MD_search_109 : decode b_MD_search 109 = .ok (.aload_n 0, 1) := by decide +kernel
theorem d_MD_search_110 : decode b_MD_search 110 = .ok (.iload_n 1, 1) := by decide +kernel
theorem d_MD_search_111 : decode b_MD_search 111 = .ok (.aload_n 0, 1) := by decide +kernel
theorem d_MD_search_112 : decode b_MD_search 112 = .ok (.getfield 16, 3) := by decide +kernel
theorem d_MD_search_115 : decode b_MD_search 115 = .ok (.iload 5, 2) := by decide +kernel
theorem d_MD_search_117 : decode b_MD_search 117 = .ok (.iconst 1, 1) := by decide +kernel
theorem d_MD_search_118 : decode b_MD_search 118 = .ok (.isub, 1) := by decide +kernel
theorem d_MD_search_119 : decode b_MD_search 119 = .ok (.iaload, 1) := by decide +kernel
theorem d_MD_search_120 : decode b_MD_search 120 = .ok (.iload 6, 2) := by decide +kernel
theorem d_MD_search_122 : decode b_MD_search 122 = .ok (.invokevirtual 83, 3) := by decide +kernel
theorem d_MD_search_125 : decode b_MD_search 125 = .ok (.istore 7, 2) := by decide +kernel
theorem d_MD_search_127 : decode b_MD_search 127 = .ok (.iload 7, 2) := by decide +kernel
theorem d_MD_search_129 : decode b_MD_search 129 = .ok (.iconst (-1), 1) := by decide +kernel
theorem d_MD_search_130 : decode b_MD_search 130 = .ok (.if_icmp .ne 26, 3) := by decide +kernel
theorem d_MD_search_133 : decode b_MD_search 133 = .ok (.iinc 5 (-1), 3) := by decide +kernel
theorem d_MD_search_136 : decode b_MD_search 136 = .ok (.aload_n 0, 1) := by decide +kernel
theorem d_MD_search_137 : decode b_MD_search 137 = .ok (.getfield 16, 3) := by decide +kernel
theorem d_MD_search_140 : decode b_MD_search 140 = .ok (.iload 5, 2) := by decide +kernel
theorem d_MD_search_142 : decode b_MD_search 142 = .ok (.iaload, 1) := by decide +kernel
theorem d_MD_search_143 : decode b_MD_search 143 = .ok (.istore 6, 2) := by decide +kernel
theorem d_MD_search_145 : decode b_MD_search 145 = .ok (.aload_n 0, 1) := by decide +kernel
theorem d_MD_search_146 : decode b_MD_search 146 = .ok (.getfield 13, 3) := by decide +kernel
theorem d_MD_search_149 : decode b_MD_search 149 = .ok (.iload 6, 2) := by decide +kernel
theorem d_MD_search_151 : decode b_MD_search 151 = .ok (.iconst 0, 1) := by decide +kernel
theorem d_MD_search_152 : decode b_MD_search 152 = .ok (.bastore, 1) := by decide +kernel
theorem d_MD_search_153 : decode b_MD_search 153 = .ok (.goto 46, 3) := by decide +kernel
theorem d_MD_search_156 : decode b_MD_search 156 = .ok (.aload_n 0, 1) := by decide +kernel
theorem d_MD_search_157 : decode b_MD_search 157 = .ok (.getfield 87, 3) := by decide +kernel
theorem d_MD_search_160 : decode b_MD_search 160 = .ok (.iload_n 3, 1) := by decide +kernel
theorem d_MD_search_161 : decode b_MD_search 161 = .ok (.if_icmp .ne 5, 3) := by decide +kernel
theorem d_MD_search_164 : decode b_MD_search 164 = .ok (.iconst 2, 1) := by decide +kernel
theorem d_MD_search_165 : decode b_MD_search 165 = .ok (.ireturn, 1) := by decide +kernel
theorem d_MD_search_166 : decode b_MD_search 166 = .ok (.aload_n 0, 1) := by decide +kernel
theorem d_MD_search_167 : decode b_MD_search 167 = .ok (.dup, 1) := by decide +kernel
theorem d_MD_search_168 : decode b_MD_search 168 = .ok (.getfield 87, 3) := by decide +kernel
theorem d_MD_search_171 : decode b_MD_search 171 = .ok (.iconst 1, 1) := by decide +kernel
theorem d_MD_search_172 : decode b_MD_search 172 = .ok (.iadd, 1) := by decide +kernel
theorem d_MD_search_173 : decode b_MD_search 173 = .ok (.putfield 87, 3) := by decide +kernel
theorem d_MD_search_176 : decode b_MD_search 176 = .ok (.aload_n 0, 1) := by decide +kernel
theorem d_MD_search_177 : decode b_MD_search 177 = .ok (.getfield 16, 3) := by decide +kernel
theorem d_MD_search_180 : decode b_MD_search 180 = .ok (.iload 5, 2) := by decide +kernel
theorem d_MD_search_182 : decode b_MD_search 182 = .ok (.iload 7, 2) := by decide +kernel
theorem d_MD_search_184 : decode b_MD_search 184 = .ok (.iastore, 1) := by decide +kernel
theorem d_MD_search_185 : decode b_MD_search 185 = .ok (.aload_n 0, 1) := by decide +kernel
theorem d_MD_search_186 : decode b_MD_search 186 = .ok (.getfield 13, 3) := by decide +kernel
theorem d_MD_search_189 : decode b_MD_search 189 = .ok (.iload 7, 2) := by decide +kernel
theorem d_MD_search_191 : decode b_MD_search 191 = .ok (.iconst 1, 1) := by decide +kernel
theorem d_MD_search_192 : decode b_MD_search 192 = .ok (.bastore, 1) := by decide +kernel
theorem d_MD_search_193 : decode b_MD_search 193 = .ok (.iinc 5 1, 3) := by decide +kernel
theorem d_MD_search_196 : decode b_MD_search 196 = .ok (.iconst (-1), 1) := by decide +kernel
theorem d_MD_search_197 : decode b_MD_search 197 = .ok (.istore 6, 2) := by decide +kernel
theorem d_MD_search_199 : decode b_MD_search 199 = .ok (.goto (-141), 3) := by decide +kernel
theorem d_MD_search_202 : decode b_MD_search 202 = .ok (.iconst 1, 1) := by decide +kernel
theorem d_MD_search_203 : decode b_MD_search 203 = .ok (.ireturn, 1) := by decide +kernel
theorem d_MD_open_0 : decode b_MD_open 0 = .ok (.iconst 0, 1) := by decide +kernel
theorem d_MD_open_1 : decode b_MD_open 1 = .ok (.istore_n 1, 1) := by decide +kernel
theorem d_MD_open_2 : decode b_MD_open 2 = .ok (.iconst 0, 1) := by decide +kernel
theorem d_MD_open_3 : decode b_MD_open 3 = .ok (.istore_n 2, 1) := by decide +kernel
theorem d_MD_open_4 : decode b_MD_open 4 = .ok (.iload_n 2, 1) := by decide +kernel
theorem d_MD_open_5 : decode b_MD_open 5 = .ok (.aload_n 0, 1) := by decide +kernel
theorem d_MD_open_6 : decode b_MD_open 6 = .ok (.getfield 49, 3) := by decide +kernel
theorem d_MD_open_9 : decode b_MD_open 9 = .ok (.if_icmp .ge 21, 3) := by decide +kernel
theorem d_MD_open_12 : decode b_MD_open 12 = .ok (.aload_n 0, 1) := by decide +kernel
theorem d_MD_open_13 : decode b_MD_open 13 = .ok (.getfield 7, 3) := by decide +kernel
theorem d_MD_open_16 : decode b_MD_open 16 = .ok (.iload_n 2, 1) := by decide +kernel
theorem d_MD_open_17 : decode b_MD_open 17 = .ok (.baload, 1) := by decide +kernel
theorem d_MD_open_18 : decode b_MD_open 18 = .ok (.ifCond .ne 6, 3) := by decide +kernel
theorem d_MD_open_21 : decode b_MD_open 21 = .ok (.iinc 1 1, 3) := by decide +kernel
theorem d_MD_open_24 : decode b_MD_open 24 = .ok (.iinc 2 1, 3) := by decide +kernel
theorem d_MD_open_27 : decode b_MD_open 27 = .ok (.goto (-23), 3) := by decide +kernel
theorem d_MD_open_30 : decode b_MD_open 30 = .ok (.iload_n 1, 1) := by decide +kernel
theorem d_MD_open_31 : decode b_MD_open 31 = .ok (.ireturn, 1) := by decide +kernel
theorem d_MD_goes_0 : decode b_MD_goes 0 = .ok (.iload_n 2, 1) := by decide +kernel
theorem d_MD_goes_1 : decode b_MD_goes 1 = .ok (.aload_n 0, 1) := by decide +kernel
theorem d_MD_goes_2 : decode b_MD_goes 2 = .ok (.getfield 42, 3) := by decide +kernel
theorem d_MD_goes_5 : decode b_MD_goes 5 = .ok (.irem, 1) := by decide +kernel
theorem d_MD_goes_6 : decode b_MD_goes 6 = .ok (.iload_n 3, 1) := by decide +kernel
theorem d_MD_goes_7 : decode b_MD_goes 7 = .ok (.aload_n 0, 1) := by decide +kernel
theorem d_MD_goes_8 : decode b_MD_goes 8 = .ok (.getfield 42, 3) := by decide +kernel
theorem d_MD_goes_11 : decode b_MD_goes 11 = .ok (.irem, 1) := by decide +kernel
theorem d_MD_goes_12 : decode b_MD_goes 12 = .ok (.invokestatic 68, 3) := by decide +kernel
theorem d_MD_goes_15 : decode b_MD_goes 15 = .ok (.istore 4, 2) := by decide +kernel
theorem d_MD_goes_17 : decode b_MD_goes 17 = .ok (.iload_n 2, 1) := by decide +kernel
theorem d_MD_goes_18 : decode b_MD_goes 18 = .ok (.aload_n 0, 1) := by decide +kernel
theorem d_MD_goes_19 : decode b_MD_goes 19 = .ok (.getfield 42, 3) := by decide +kernel
theorem d_MD_goes_22 : decode b_MD_goes 22 = .ok (.idiv, 1) := by decide +kernel
theorem d_MD_goes_23 : decode b_MD_goes 23 = .ok (.iload_n 3, 1) := by decide +kernel
theorem d_MD_goes_24 : decode b_MD_goes 24 = .ok (.aload_n 0, 1) := by decide +kernel
theorem d_MD_goes_25 : decode b_MD_goes 25 = .ok (.getfield 42, 3) := by decide +kernel
theorem d_MD_goes_28 : decode b_MD_goes 28 = .ok (.idiv, 1) := by decide +kernel
theorem d_MD_goes_29 : decode b_MD_goes 29 = .ok (.invokestatic 68, 3) := by decide +kernel
theorem d_MD_goes_32 : decode b_MD_goes 32 = .ok (.istore 5, 2) := by decide +kernel
theorem d_MD_goes_34 : decode b_MD_goes 34 = .ok (.iload_n 1, 1) := by decide +kernel
theorem d_MD_goes_35 : decode b_MD_goes 35 = .ok (.ifCond .ne 33, 3) := by decide +kernel
theorem d_MD_goes_38 : decode b_MD_goes 38 = .ok (.iload 4, 2) := by decide +kernel
theorem d_MD_goes_40 : decode b_MD_goes 40 = .ok (.iconst 1, 1) := by decide +kernel
theorem d_MD_goes_41 : decode b_MD_goes 41 = .ok (.if_icmp .ne 9, 3) := by decide +kernel
theorem d_MD_goes_44 : decode b_MD_goes 44 = .ok (.iload 5, 2) := by decide +kernel
theorem d_MD_goes_46 : decode b_MD_goes 46 = .ok (.iconst 2, 1) := by decide +kernel
theorem d_MD_goes_47 : decode b_MD_goes 47 = .ok (.if_icmp .eq 15, 3) := by decide +kernel
theorem d_MD_goes_50 : decode b_MD_goes 50 = .ok (.iload 4, 2) := by decide +kernel
theorem d_MD_goes_52 : decode b_MD_goes 52 = .ok (.iconst 2, 1) := by decide +kernel
theorem d_MD_goes_53 : decode b_MD_goes 53 = .ok (.if_icmp .ne 13, 3) := by decide +kernel
theorem d_MD_goes_56 : decode b_MD_goes 56 = .ok (.iload 5, 2) := by decide +kernel
theorem d_MD_goes_58 : decode b_MD_goes 58 = .ok (.iconst 1, 1) := by decide +kernel
theorem d_MD_goes_59 : decode b_MD_goes 59 = .ok (.if_icmp .ne 7, 3) := by decide +kernel
theorem d_MD_goes_62 : decode b_MD_goes 62 = .ok (.iconst 1, 1) := by decide +kernel
theorem d_MD_goes_63 : decode b_MD_goes 63 = .ok (.goto 4, 3) := by decide +kernel
theorem d_MD_goes_66 : decode b_MD_goes 66 = .ok (.iconst 0, 1) := by decide +kernel
theorem d_MD_goes_67 : decode b_MD_goes 67 = .ok (.ireturn, 1) := by decide +kernel
theorem d_MD_goes_68 : decode b_MD_goes 68 = .ok (.iload_n 1, 1) := by decide +kernel
theorem d_MD_goes_69 : decode b_MD_goes 69 = .ok (.iconst 1, 1) := by decide +kernel
theorem d_MD_goes_70 : decode b_MD_goes 70 = .ok (.if_icmp .ne 31, 3) := by decide +kernel
theorem d_MD_goes_73 : decode b_MD_goes 73 = .ok (.iload 4, 2) := by decide +kernel
theorem d_MD_goes_75 : decode b_MD_goes 75 = .ok (.iconst 2, 1) := by decide +kernel
theorem d_MD_goes_76 : decode b_MD_goes 76 = .ok (.if_icmp .ge 21, 3) := by decide +kernel
theorem d_MD_goes_79 : decode b_MD_goes 79 = .ok (.iload 5, 2) := by decide +kernel
theorem d_MD_goes_81 : decode b_MD_goes 81 = .ok (.iconst 2, 1) := by decide +kernel
theorem d_MD_goes_82 : decode b_MD_goes 82 = .ok (.if_icmp .ge 15, 3) := by decide +kernel
theorem d_MD_goes_85 : decode b_MD_goes 85 = .ok (.iload 4, 2) := by decide +kernel
theorem d_MD_goes_87 : decode b_MD_goes 87 = .ok (.iload 5, 2) := by decide +kernel
theorem d_MD_goes_89 : decode b_MD_goes 89 = .ok (.iadd, 1) := by decide +kernel
theorem d_MD_goes_90 : decode b_MD_goes 90 = .ok (.ifCond .le 7, 3) := by decide +kernel
theorem d_MD_goes_93 : decode b_MD_goes 93 = .ok (.iconst 1, 1) := by decide +kernel
theorem d_MD_goes_94 : decode b_MD_goes 94 = .ok (.goto 21, 3) := by decide +kernel
theorem d_MD_goes_97 : decode b_MD_goes 97 = .ok (.iconst 0, 1) := by decide +kernel
theorem d_MD_goes_98 : decode b_MD_goes 98 = .ok (.goto 17, 3) := by decide +kernel
theorem d_MD_goes_101 : decode b_MD_goes 101 = .ok (.iload 4, 2) := by decide +kernel
theorem d_MD_goes_103 : decode b_MD_goes 103 = .ok (.iload 5, 2) := by decide +kernel
theorem d_MD_goes_105 : decode b_MD_goes 105 = .ok (.iadd, 1) := by decide +kernel
theorem d_MD_goes_106 : decode b_MD_goes 106 = .ok (.iconst 1, 1) := by decide +kernel
theorem d_MD_goes_107 : decode b_MD_goes 107 = .ok (.if_icmp .ne 7, 3) := by decide +kernel
theorem d_MD_goes_110 : decode b_MD_goes 110 = .ok (.iconst 1, 1) := by decide +kernel
theorem d_MD_goes_111 : decode b_MD_goes 111 = .ok (.goto 4, 3) := by decide +kernel
theorem d_MD_goes_114 : decode b_MD_goes 114 = .ok (.iconst 0, 1) := by decide +kernel
theorem d_MD_goes_115 : decode b_MD_goes 115 = .ok (.ireturn, 1) := by decide +kernel
theorem d_MD_apart_0 : decode b_MD_apart 0 = .ok (.iload_n 0, 1) := by decide +kernel
theorem d_MD_apart_1 : decode b_MD_apart 1 = .ok (.iload_n 1, 1) := by decide +kernel
theorem d_MD_apart_2 : decode b_MD_apart 2 = .ok (.if_icmp .le 9, 3) := by decide +kernel
theorem d_MD_apart_5 : decode b_MD_apart 5 = .ok (.iload_n 0, 1) := by decide +kernel
theorem d_MD_apart_6 : decode b_MD_apart 6 = .ok (.iload_n 1, 1) := by decide +kernel
theorem d_MD_apart_7 : decode b_MD_apart 7 = .ok (.isub, 1) := by decide +kernel
theorem d_MD_apart_8 : decode b_MD_apart 8 = .ok (.goto 6, 3) := by decide +kernel
theorem d_MD_apart_11 : decode b_MD_apart 11 = .ok (.iload_n 1, 1) := by decide +kernel
theorem d_MD_apart_12 : decode b_MD_apart 12 = .ok (.iload_n 0, 1) := by decide +kernel
theorem d_MD_apart_13 : decode b_MD_apart 13 = .ok (.isub, 1) := by decide +kernel
theorem d_MD_apart_14 : decode b_MD_apart 14 = .ok (.ireturn, 1) := by decide +kernel
theorem d_MD_nextCell_0 : decode b_MD_nextCell 0 = .ok (.iload_n 3, 1) := by decide +kernel
theorem d_MD_nextCell_1 : decode b_MD_nextCell 1 = .ok (.iconst (-1), 1) := by decide +kernel
theorem d_MD_nextCell_2 : decode b_MD_nextCell 2 = .ok (.if_icmp .ne 7, 3) := by decide +kernel
theorem d_MD_nextCell_5 : decode b_MD_nextCell 5 = .ok (.iconst (-1), 1) := by decide +kernel
theorem d_MD_nextCell_6 : decode b_MD_nextCell 6 = .ok (.goto 9, 3) := by decide +kernel
theorem d_MD_nextCell_9 : decode b_MD_nextCell 9 = .ok (.aload_n 0, 1) := by decide +kernel
theorem d_MD_nextCell_10 : decode b_MD_nextCell 10 = .ok (.iload_n 1, 1) := by decide +kernel
theorem d_MD_nextCell_11 : decode b_MD_nextCell 11 = .ok (.iload_n 3, 1) := by decide +kernel
theorem d_MD_nextCell_12 : decode b_MD_nextCell 12 = .ok (.invokevirtual 76, 3) := by decide +kernel
theorem d_MD_nextCell_15 : decode b_MD_nextCell 15 = .ok (.istore 4, 2) := by decide +kernel
theorem d_MD_nextCell_17 : decode b_MD_nextCell 17 = .ok (.iconst (-1), 1) := by decide +kernel
theorem d_MD_nextCell_18 : decode b_MD_nextCell 18 = .ok (.istore 5, 2) := by decide +kernel
theorem d_MD_nextCell_20 : decode b_MD_nextCell 20 = .ok (.bipush 99, 2) := by decide +kernel
theorem d_MD_nextCell_22 : decode b_MD_nextCell 22 = .ok (.istore 6, 2) := by decide +kernel
theorem d_MD_nextCell_24 : decode b_MD_nextCell 24 = .ok (.iconst 0, 1) := by decide +kernel
theorem d_MD_nextCell_25 : decode b_MD_nextCell 25 = .ok (.istore 7, 2) := by decide +kernel
theorem d_MD_nextCell_27 : decode b_MD_nextCell 27 = .ok (.iload 7, 2) := by decide +kernel
theorem d_MD_nextCell_29 : decode b_MD_nextCell 29 = .ok (.aload_n 0, 1) := by decide +kernel
theorem d_MD_nextCell_30 : decode b_MD_nextCell 30 = .ok (.getfield 49, 3) := by decide +kernel
theorem d_MD_nextCell_33 : decode b_MD_nextCell 33 = .ok (.if_icmp .ge 101, 3) := by decide +kernel
theorem d_MD_nextCell_36 : decode b_MD_nextCell 36 = .ok (.aload_n 0, 1) := by decide +kernel
theorem d_MD_nextCell_37 : decode b_MD_nextCell 37 = .ok (.getfield 7, 3) := by decide +kernel
theorem d_MD_nextCell_40 : decode b_MD_nextCell 40 = .ok (.iload 7, 2) := by decide +kernel
theorem d_MD_nextCell_42 : decode b_MD_nextCell 42 = .ok (.baload, 1) := by decide +kernel
theorem d_MD_nextCell_43 : decode b_MD_nextCell 43 = .ok (.ifCond .ne 85, 3) := by decide +kernel
theorem d_MD_nextCell_46 : decode b_MD_nextCell 46 = .ok (.aload_n 0, 1) := by decide +kernel
theorem d_MD_nextCell_47 : decode b_MD_nextCell 47 = .ok (.getfield 13, 3) := by decide +kernel
theorem d_MD_nextCell_50 : decode b_MD_nextCell 50 = .ok (.iload 7, 2) := by decide +kernel
theorem d_MD_nextCell_52 : decode b_MD_nextCell 52 = .ok (.baload, 1) := by decide +kernel
theorem d_MD_nextCell_53 : decode b_MD_nextCell 53 = .ok (.ifCond .ne 75, 3) := by decide +kernel
theorem d_MD_nextCell_56 : decode b_MD_nextCell 56 = .ok (.aload_n 0, 1) := by decide +kernel
theorem d_MD_nextCell_57 : decode b_MD_nextCell 57 = .ok (.iload_n 1, 1) := by decide +kernel
theorem d_MD_nextCell_58 : decode b_MD_nextCell 58 = .ok (.iload_n 2, 1) := by decide +kernel
theorem d_MD_nextCell_59 : decode b_MD_nextCell 59 = .ok (.iload 7, 2) := by decide +kernel
theorem d_MD_nextCell_61 : decode b_MD_nextCell 61 = .ok (.invokevirtual 72, 3) := by decide +kernel
theorem d_MD_nextCell_64 : decode b_MD_nextCell 64 = .ok (.ifCond .eq 64, 3) := by decide +kernel
theorem d_MD_nextCell_67 : decode b_MD_nextCell 67 = .ok (.aload_n 0, 1) := by decide +kernel
theorem d_MD_nextCell_68 : decode b_MD_nextCell 68 = .ok (.iload_n 1, 1) := by decide +kernel
theorem d_MD_nextCell_69 : decode b_MD_nextCell 69 = .ok (.iload 7, 2) := by decide +kernel
theorem d_MD_nextCell_71 : decode b_MD_nextCell 71 = .ok (.invokevirtual 76, 3) := by decide +kernel
theorem d_MD_nextCell_74 : decode b_MD_nextCell 74 = .ok (.istore 8, 2) := by decide +kernel
theorem d_MD_nextCell_76 : decode b_MD_nextCell 76 = .ok (.iload_n 3, 1) := by decide +kernel
theorem d_MD_nextCell_77 : decode b_MD_nextCell 77 = .ok (.iconst (-1), 1) := by decide +kernel
theorem d_MD_nextCell_78 : decode b_MD_nextCell 78 = .ok (.if_icmp .eq 23, 3) := by decide +kernel
theorem d_MD_nextCell_81 : decode b_MD_nextCell 81 = .ok (.iload 8, 2) := by decide +kernel
theorem d_MD_nextCell_83 : decode b_MD_nextCell 83 = .ok (.iload 4, 2) := by decide +kernel
theorem d_MD_nextCell_85 : decode b_MD_nextCell 85 = .ok (.if_icmp .gt 16, 3) := by decide +kernel
theorem d_MD_nextCell_88 : decode b_MD_nextCell 88 = .ok (.iload 8, 2) := by decide +kernel
theorem d_MD_nextCell_90 : decode b_MD_nextCell 90 = .ok (.iload 4, 2) := by decide +kernel
theorem d_MD_nextCell_92 : decode b_MD_nextCell 92 = .ok (.if_icmp .ne 13, 3) := by decide +kernel
theorem d_MD_nextCell_95 : decode b_MD_nextCell 95 = .ok (.iload 7, 2) := by decide +kernel
theorem d_MD_nextCell_97 : decode b_MD_nextCell 97 = .ok (.iload_n 3, 1) := by decide +kernel
theorem d_MD_nextCell_98 : decode b_MD_nextCell 98 = .ok (.if_icmp .le 7, 3) := by decide +kernel
theorem d_MD_nextCell_101 : decode b_MD_nextCell 101 = .ok (.iconst 1, 1) := by decide +kernel
theorem d_MD_nextCell_102 : decode b_MD_nextCell 102 = .ok (.goto 4, 3) := by decide +kernel
theorem d_MD_nextCell_105 : decode b_MD_nextCell 105 = .ok (.iconst 0, 1) := by decide +kernel
theorem d_MD_nextCell_106 : decode b_MD_nextCell 106 = .ok (.istore 9, 2) := by decide +kernel
theorem d_MD_nextCell_108 : decode b_MD_nextCell 108 = .ok (.iload 9, 2) := by decide +kernel
theorem d_MD_nextCell_110 : decode b_MD_nextCell 110 = .ok (.ifCond .eq 18, 3) := by decide +kernel
theorem d_MD_nextCell_113 : decode b_MD_nextCell 113 = .ok (.iload 8, 2) := by decide +kernel
theorem d_MD_nextCell_115 : decode b_MD_nextCell 115 = .ok (.iload 6, 2) := by decide +kernel
theorem d_MD_nextCell_117 : decode b_MD_nextCell 117 = .ok (.if_icmp .ge 11, 3) := by decide +kernel
theorem d_MD_nextCell_120 : decode b_MD_nextCell 120 = .ok (.iload 8, 2) := by decide +kernel
theorem d_MD_nextCell_122 : decode b_MD_nextCell 122 = .ok (.istore 6, 2) := by decide +kernel
theorem d_MD_nextCell_124 : decode b_MD_nextCell 124 = .ok (.iload 7, 2) := by decide +kernel
theorem d_MD_nextCell_126 : decode b_MD_nextCell 126 = .ok (.istore 5, 2) := by decide +kernel
theorem d_MD_nextCell_128 : decode b_MD_nextCell 128 = .ok (.iinc 7 1, 3) := by decide +kernel
theorem d_MD_nextCell_131 : decode b_MD_nextCell 131 = .ok (.goto (-104), 3) := by decide +kernel
theorem d_MD_nextCell_134 : decode b_MD_nextCell 134 = .ok (.iload 5, 2) := by decide +kernel
theorem d_MD_nextCell_136 : decode b_MD_nextCell 136 = .ok (.ireturn, 1) := by decide +kernel
theorem d_MD_waysOn_0 : decode b_MD_waysOn 0 = .ok (.iconst 0, 1) := by decide +kernel
theorem d_MD_waysOn_1 : decode b_MD_waysOn 1 = .ok (.istore_n 3, 1) := by decide +kernel
theorem d_MD_waysOn_2 : decode b_MD_waysOn 2 = .ok (.iconst 0, 1) := by decide +kernel
theorem d_MD_waysOn_3 : decode b_MD_waysOn 3 = .ok (.istore 4, 2) := by decide +kernel
theorem d_MD_waysOn_5 : decode b_MD_waysOn 5 = .ok (.iload 4, 2) := by decide +kernel
theorem d_MD_waysOn_7 : decode b_MD_waysOn 7 = .ok (.aload_n 0, 1) := by decide +kernel
theorem d_MD_waysOn_8 : decode b_MD_waysOn 8 = .ok (.getfield 49, 3) := by decide +kernel
theorem d_MD_waysOn_11 : decode b_MD_waysOn 11 = .ok (.if_icmp .ge 43, 3) := by decide +kernel
theorem d_MD_waysOn_14 : decode b_MD_waysOn 14 = .ok (.aload_n 0, 1) := by decide +kernel
theorem d_MD_waysOn_15 : decode b_MD_waysOn 15 = .ok (.getfield 7, 3) := by decide +kernel
theorem d_MD_waysOn_18 : decode b_MD_waysOn 18 = .ok (.iload 4, 2) := by decide +kernel
theorem d_MD_waysOn_20 : decode b_MD_waysOn 20 = .ok (.baload, 1) := by decide +kernel
theorem d_MD_waysOn_21 : decode b_MD_waysOn 21 = .ok (.ifCond .ne 27, 3) := by decide +kernel
theorem d_MD_waysOn_24 : decode b_MD_waysOn 24 = .ok (.aload_n 0, 1) := by decide +kernel
theorem d_MD_waysOn_25 : decode b_MD_waysOn 25 = .ok (.getfield 13, 3) := by decide +kernel
theorem d_MD_waysOn_28 : decode b_MD_waysOn 28 = .ok (.iload 4, 2) := by decide +kernel
theorem d_MD_waysOn_30 : decode b_MD_waysOn 30 = .ok (.baload, 1) := by decide +kernel
theorem d_MD_waysOn_31 : decode b_MD_waysOn 31 = .ok (.ifCond .ne 17, 3) := by decide +kernel
theorem d_MD_waysOn_34 : decode b_MD_waysOn 34 = .ok (.aload_n 0, 1) := by decide +kernel
theorem d_MD_waysOn_35 : decode b_MD_waysOn 35 = .ok (.iload_n 1, 1) := by decide +kernel
theorem d_MD_waysOn_36 : decode b_MD_waysOn 36 = .ok (.iload_n 2, 1) := by decide +kernel
theorem d_MD_waysOn_37 : decode b_MD_waysOn 37 = .ok (.iload 4, 2) := by decide +kernel
theorem d_MD_waysOn_39 : decode b_MD_waysOn 39 = .ok (.invokevirtual 72, 3) := by decide +kernel
theorem d_MD_waysOn_42 : decode b_MD_waysOn 42 = .ok (.ifCond .eq 6, 3) := by decide +kernel
theorem d_MD_waysOn_45 : decode b_MD_waysOn 45 = .ok (.iinc 3 1, 3) := by decide +kernel
theorem d_MD_waysOn_48 : decode b_MD_waysOn 48 = .ok (.iinc 4 1, 3) := by decide +kernel
theorem d_MD_waysOn_51 : decode b_MD_waysOn 51 = .ok (.goto (-46), 3) := by decide +kernel
theorem d_MD_waysOn_54 : decode b_MD_waysOn 54 = .ok (.iload_n 3, 1) := by decide +kernel
theorem d_MD_waysOn_55 : decode b_MD_waysOn 55 = .ok (.ireturn, 1) := by decide +kernel
theorem d_MD_at_0 : decode b_MD_at 0 = .ok (.aload_n 0, 1) := by decide +kernel
theorem d_MD_at_1 : decode b_MD_at 1 = .ok (.iconst 0, 1) := by decide +kernel
theorem d_MD_at_2 : decode b_MD_at 2 = .ok (.putfield 55, 3) := by decide +kernel
theorem d_MD_at_5 : decode b_MD_at 5 = .ok (.iload_n 1, 1) := by decide +kernel
theorem d_MD_at_6 : decode b_MD_at 6 = .ok (.ifCond .lt 11, 3) := by decide +kernel
theorem d_MD_at_9 : decode b_MD_at 9 = .ok (.iload_n 1, 1) := by decide +kernel
theorem d_MD_at_10 : decode b_MD_at 10 = .ok (.aload_n 0, 1) := by decide +kernel
theorem d_MD_at_11 : decode b_MD_at 11 = .ok (.getfield 62, 3) := by decide +kernel
theorem d_MD_at_14 : decode b_MD_at 14 = .ok (.if_icmp .lt 7, 3) := by decide +kernel
theorem d_MD_at_17 : decode b_MD_at 17 = .ok (.iconst (-1), 1) := by decide +kernel
theorem d_MD_at_18 : decode b_MD_at 18 = .ok (.goto 9, 3) := by decide +kernel
theorem d_MD_at_21 : decode b_MD_at 21 = .ok (.aload_n 0, 1) := by decide +kernel
theorem d_MD_at_22 : decode b_MD_at 22 = .ok (.getfield 16, 3) := by decide +kernel
theorem d_MD_at_25 : decode b_MD_at 25 = .ok (.iload_n 1, 1) := by decide +kernel
theorem d_MD_at_26 : decode b_MD_at 26 = .ok (.iaload, 1) := by decide +kernel
theorem d_MD_at_27 : decode b_MD_at 27 = .ok (.ireturn, 1) := by decide +kernel
theorem d_MD_steps_0 : decode b_MD_steps 0 = .ok (.aload_n 0, 1) := by decide +kernel
theorem d_MD_steps_1 : decode b_MD_steps 1 = .ok (.iconst 0, 1) := by decide +kernel
theorem d_MD_steps_2 : decode b_MD_steps 2 = .ok (.putfield 55, 3) := by decide +kernel
theorem d_MD_steps_5 : decode b_MD_steps 5 = .ok (.aload_n 0, 1) := by decide +kernel
theorem d_MD_steps_6 : decode b_MD_steps 6 = .ok (.getfield 87, 3) := by decide +kernel
theorem d_MD_steps_9 : decode b_MD_steps 9 = .ok (.ireturn, 1) := by decide +kernel
theorem d_MD_ways_0 : decode b_MD_ways 0 = .ok (.aload_n 0, 1) := by decide +kernel
theorem d_MD_ways_1 : decode b_MD_ways 1 = .ok (.iconst 0, 1) := by decide +kernel
theorem d_MD_ways_2 : decode b_MD_ways 2 = .ok (.putfield 55, 3) := by decide +kernel
theorem d_MD_ways_5 : decode b_MD_ways 5 = .ok (.iload_n 1, 1) := by decide +kernel
theorem d_MD_ways_6 : decode b_MD_ways 6 = .ok (.ifCond .lt 20, 3) := by decide +kernel
theorem d_MD_ways_9 : decode b_MD_ways 9 = .ok (.iload_n 1, 1) := by decide +kernel
theorem d_MD_ways_10 : decode b_MD_ways 10 = .ok (.iconst 2, 1) := by decide +kernel
theorem d_MD_ways_11 : decode b_MD_ways 11 = .ok (.if_icmp .gt 15, 3) := by decide +kernel
theorem d_MD_ways_14 : decode b_MD_ways 14 = .ok (.iload_n 2, 1) := by decide +kernel
theorem d_MD_ways_15 : decode b_MD_ways 15 = .ok (.ifCond .lt 11, 3) := by decide +kernel
theorem d_MD_ways_18 : decode b_MD_ways 18 = .ok (.iload_n 2, 1) := by decide +kernel
theorem d_MD_ways_19 : decode b_MD_ways 19 = .ok (.aload_n 0, 1) := by decide +kernel
theorem d_MD_ways_20 : decode b_MD_ways 20 = .ok (.getfield 49, 3) := by decide +kernel
theorem d_MD_ways_23 : decode b_MD_ways 23 = .ok (.if_icmp .lt 5, 3) := by decide +kernel
theorem d_MD_ways_26 : decode b_MD_ways 26 = .ok (.iconst (-1), 1) := by decide +kernel
theorem d_MD_ways_27 : decode b_MD_ways 27 = .ok (.ireturn, 1) := by decide +kernel
theorem d_MD_ways_28 : decode b_MD_ways 28 = .ok (.iconst 0, 1) := by decide +kernel
theorem d_MD_ways_29 : decode b_MD_ways 29 = .ok (.istore_n 3, 1) := by decide +kernel
theorem d_MD_ways_30 : decode b_MD_ways 30 = .ok (.iconst 0, 1) := by decide +kernel
theorem d_MD_ways_31 : decode b_MD_ways 31 = .ok (.istore 4, 2) := by decide +kernel
theorem d_MD_ways_33 : decode b_MD_ways 33 = .ok (.iload 4, 2) := by decide +kernel
theorem d_MD_ways_35 : decode b_MD_ways 35 = .ok (.aload_n 0, 1) := by decide +kernel
theorem d_MD_ways_36 : decode b_MD_ways 36 = .ok (.getfield 49, 3) := by decide +kernel
theorem d_MD_ways_39 : decode b_MD_ways 39 = .ok (.if_icmp .ge 33, 3) := by decide +kernel
theorem d_MD_ways_42 : decode b_MD_ways 42 = .ok (.aload_n 0, 1) := by decide +kernel
theorem d_MD_ways_43 : decode b_MD_ways 43 = .ok (.getfield 7, 3) := by decide +kernel
theorem d_MD_ways_46 : decode b_MD_ways 46 = .ok (.iload 4, 2) := by decide +kernel
theorem d_MD_ways_48 : decode b_MD_ways 48 = .ok (.baload, 1) := by decide +kernel
theorem d_MD_ways_49 : decode b_MD_ways 49 = .ok (.ifCond .ne 17, 3) := by decide +kernel
theorem d_MD_ways_52 : decode b_MD_ways 52 = .ok (.aload_n 0, 1) := by decide +kernel
theorem d_MD_ways_53 : decode b_MD_ways 53 = .ok (.iload_n 1, 1) := by decide +kernel
theorem d_MD_ways_54 : decode b_MD_ways 54 = .ok (.iload_n 2, 1) := by decide +kernel
theorem d_MD_ways_55 : decode b_MD_ways 55 = .ok (.iload 4, 2) := by decide +kernel
theorem d_MD_ways_57 : decode b_MD_ways 57 = .ok (.invokevirtual 72, 3) := by decide +kernel
end
section
theorem d_MD_ways_60 : decode b_MD_ways 60 = .ok (.ifCond .eq 6, 3) := by decide +kernel
theorem d_MD_ways_63 : decode b_MD_ways 63 = .ok (.iinc 3 1, 3) := by decide +kernel
theorem d_MD_ways_66 : decode b_MD_ways 66 = .ok (.iinc 4 1, 3) := by decide +kernel
theorem d_MD_ways_69 : decode b_MD_ways 69 = .ok (.goto (-36), 3) := by decide +kernel
theorem d_MD_ways_72 : decode b_MD_ways 72 = .ok (.iload_n 3, 1) := by decide +kernel
theorem d_MD_ways_73 : decode b_MD_ways 73 = .ok (.ireturn, 1) := by decide +kernel
theorem d_MD_queens_0 : decode b_MD_queens 0 = .ok (.aload_n 0, 1) := by decide +kernel
theorem d_MD_queens_1 : decode b_MD_queens 1 = .ok (.iconst 0, 1) := by decide +kernel
theorem d_MD_queens_2 : decode b_MD_queens 2 = .ok (.putfield 55, 3) := by decide +kernel
theorem d_MD_queens_5 : decode b_MD_queens 5 = .ok (.aload_n 0, 1) := by decide +kernel
theorem d_MD_queens_6 : decode b_MD_queens 6 = .ok (.bipush (-2), 2) := by decide +kernel
theorem d_MD_queens_8 : decode b_MD_queens 8 = .ok (.invokevirtual 99, 3) := by decide +kernel
theorem d_MD_queens_11 : decode b_MD_queens 11 = .ok (.ireturn, 1) := by decide +kernel
theorem d_MD_goThrough_0 : decode b_MD_goThrough 0 = .ok (.iconst 0, 1) := by decide +kernel
theorem d_MD_goThrough_1 : decode b_MD_goThrough 1 = .ok (.istore_n 2, 1) := by decide +kernel
theorem d_MD_goThrough_2 : decode b_MD_goThrough 2 = .ok (.iconst 0, 1) := by decide +kernel
theorem d_MD_goThrough_3 : decode b_MD_goThrough 3 = .ok (.istore_n 3, 1) := by decide +kernel
theorem d_MD_goThrough_4 : decode b_MD_goThrough 4 = .ok (.aload_n 0, 1) := by decide +kernel
theorem d_MD_goThrough_5 : decode b_MD_goThrough 5 = .ok (.getfield 20, 3) := by decide +kernel
theorem d_MD_goThrough_8 : decode b_MD_goThrough 8 = .ok (.iconst 0, 1) := by decide +kernel
theorem d_MD_goThrough_9 : decode b_MD_goThrough 9 = .ok (.iconst (-1), 1) := by decide +kernel
theorem d_MD_goThrough_10 : decode b_MD_goThrough 10 = .ok (.iastore, 1) := by decide +kernel
theorem d_MD_goThrough_11 : decode b_MD_goThrough 11 = .ok (.iload_n 3, 1) := by decide +kernel
theorem d_MD_goThrough_12 : decode b_MD_goThrough 12 = .ok (.ifCond .lt 113, 3) := by decide +kernel
theorem d_MD_goThrough_15 : decode b_MD_goThrough 15 = .ok (.iload_n 2, 1) := by decide +kernel
theorem d_MD_goThrough_16 : decode b_MD_goThrough 16 = .ok (.iload_n 1, 1) := by decide +kernel
theorem d_MD_goThrough_17 : decode b_MD_goThrough 17 = .ok (.iconst 1, 1) := by decide +kernel
theorem d_MD_goThrough_18 : decode b_MD_goThrough 18 = .ok (.iadd, 1) := by decide +kernel
theorem d_MD_goThrough_19 : decode b_MD_goThrough 19 = .ok (.if_icmp .eq 106, 3) := by decide +kernel
theorem d_MD_goThrough_22 : decode b_MD_goThrough 22 = .ok (.aload_n 0, 1) := by decide +kernel
theorem d_MD_goThrough_23 : decode b_MD_goThrough 23 = .ok (.getfield 20, 3) := by decide +kernel
theorem d_MD_goThrough_26 : decode b_MD_goThrough 26 = .ok (.iload_n 3, 1) := by decide +kernel
theorem d_MD_goThrough_27 : decode b_MD_goThrough 27 = .ok (.dup2, 1) := by decide +kernel
theorem d_MD_goThrough_28 : decode b_MD_goThrough 28 = .ok (.iaload, 1) := by decide +kernel
theorem d_MD_goThrough_29 : decode b_MD_goThrough 29 = .ok (.iconst 1, 1) := by decide +kernel
theorem d_MD_goThrough_30 : decode b_MD_goThrough 30 = .ok (.iadd, 1) := by decide +kernel
theorem d_MD_goThrough_31 : decode b_MD_goThrough 31 = .ok (.iastore, 1) := by decide +kernel
theorem d_MD_goThrough_32 : decode b_MD_goThrough 32 = .ok (.aload_n 0, 1) := by decide +kernel
theorem d_MD_goThrough_33 : decode b_MD_goThrough 33 = .ok (.getfield 20, 3) := by decide +kernel
theorem d_MD_goThrough_36 : decode b_MD_goThrough 36 = .ok (.iload_n 3, 1) := by decide +kernel
theorem d_MD_goThrough_37 : decode b_MD_goThrough 37 = .ok (.iaload, 1) := by decide +kernel
theorem d_MD_goThrough_38 : decode b_MD_goThrough 38 = .ok (.aload_n 0, 1) := by decide +kernel
theorem d_MD_goThrough_39 : decode b_MD_goThrough 39 = .ok (.getfield 46, 3) := by decide +kernel
theorem d_MD_goThrough_42 : decode b_MD_goThrough 42 = .ok (.if_icmp .ne 9, 3) := by decide +kernel
theorem d_MD_goThrough_45 : decode b_MD_goThrough 45 = .ok (.iinc 3 (-1), 3) := by decide +kernel
theorem d_MD_goThrough_48 : decode b_MD_goThrough 48 = .ok (.goto (-37), 3) := by decide +kernel
theorem d_MD_goThrough_51 : decode b_MD_goThrough 51 = .ok (.aload_n 0, 1) := by decide +kernel
theorem d_MD_goThrough_52 : decode b_MD_goThrough 52 = .ok (.iload_n 3, 1) := by decide +kernel
theorem d_MD_goThrough_53 : decode b_MD_goThrough 53 = .ok (.invokevirtual 95, 3) := by decide +kernel
theorem d_MD_goThrough_56 : decode b_MD_goThrough 56 = .ok (.ifCond .eq (-45), 3) := by decide +kernel
theorem d_MD_goThrough_59 : decode b_MD_goThrough 59 = .ok (.iload_n 3, 1) := by decide +kernel
theorem d_MD_goThrough_60 : decode b_MD_goThrough 60 = .ok (.iconst 1, 1) := by decide +kernel
theorem d_MD_goThrough_61 : decode b_MD_goThrough 61 = .ok (.iadd, 1) := by decide +kernel
theorem d_MD_goThrough_62 : decode b_MD_goThrough 62 = .ok (.aload_n 0, 1) := by decide +kernel
theorem d_MD_goThrough_63 : decode b_MD_goThrough 63 = .ok (.getfield 42, 3) := by decide +kernel
theorem d_MD_goThrough_66 : decode b_MD_goThrough 66 = .ok (.if_icmp .ge 16, 3) := by decide +kernel
theorem d_MD_goThrough_69 : decode b_MD_goThrough 69 = .ok (.iinc 3 1, 3) := by decide +kernel
theorem d_MD_goThrough_72 : decode b_MD_goThrough 72 = .ok (.aload_n 0, 1) := by decide +kernel
theorem d_MD_goThrough_73 : decode b_MD_goThrough 73 = .ok (.getfield 20, 3) := by decide +kernel
theorem d_MD_goThrough_76 : decode b_MD_goThrough 76 = .ok (.iload_n 3, 1) := by decide +kernel
theorem d_MD_goThrough_77 : decode b_MD_goThrough 77 = .ok (.iconst (-1), 1) := by decide +kernel
theorem d_MD_goThrough_78 : decode b_MD_goThrough 78 = .ok (.iastore, 1) := by decide +kernel
theorem d_MD_goThrough_79 : decode b_MD_goThrough 79 = .ok (.goto (-68), 3) := by decide +kernel
theorem d_MD_goThrough_82 : decode b_MD_goThrough 82 = .ok (.iload_n 2, 1) := by decide +kernel
theorem d_MD_goThrough_83 : decode b_MD_goThrough 83 = .ok (.iload_n 1, 1) := by decide +kernel
theorem d_MD_goThrough_84 : decode b_MD_goThrough 84 = .ok (.if_icmp .ne 35, 3) := by decide +kernel
theorem d_MD_goThrough_87 : decode b_MD_goThrough 87 = .ok (.iconst 0, 1) := by decide +kernel
theorem d_MD_goThrough_88 : decode b_MD_goThrough 88 = .ok (.istore 4, 2) := by decide +kernel
theorem d_MD_goThrough_90 : decode b_MD_goThrough 90 = .ok (.iload 4, 2) := by decide +kernel
theorem d_MD_goThrough_92 : decode b_MD_goThrough 92 = .ok (.aload_n 0, 1) := by decide +kernel
theorem d_MD_goThrough_93 : decode b_MD_goThrough 93 = .ok (.getfield 42, 3) := by decide +kernel
theorem d_MD_goThrough_96 : decode b_MD_goThrough 96 = .ok (.if_icmp .ge 23, 3) := by decide +kernel
theorem d_MD_goThrough_99 : decode b_MD_goThrough 99 = .ok (.aload_n 0, 1) := by decide +kernel
theorem d_MD_goThrough_100 : decode b_MD_goThrough 100 = .ok (.getfield 23, 3) := by decide +kernel
theorem d_MD_goThrough_103 : decode b_MD_goThrough 103 = .ok (.iload 4, 2) := by decide +kernel
theorem d_MD_goThrough_105 : decode b_MD_goThrough 105 = .ok (.aload_n 0, 1) := by decide +kernel
theorem d_MD_goThrough_106 : decode b_MD_goThrough 106 = .ok (.getfield 20, 3) := by decide +kernel
theorem d_MD_goThrough_109 : decode b_MD_goThrough 109 = .ok (.iload 4, 2) := by decide +kernel
theorem d_MD_goThrough_111 : decode b_MD_goThrough 111 = .ok (.iaload, 1) := by decide +kernel
theorem d_MD_goThrough_112 : decode b_MD_goThrough 112 = .ok (.iastore, 1) := by decide +kernel
theorem d_MD_goThrough_113 : decode b_MD_goThrough 113 = .ok (.iinc 4 1, 3) := by decide +kernel
theorem d_MD_goThrough_116 : decode b_MD_goThrough 116 = .ok (.goto (-26), 3) := by decide +kernel
theorem d_MD_goThrough_119 : decode b_MD_goThrough 119 = .ok (.iinc 2 1, 3) := by decide +kernel
theorem d_MD_goThrough_122 : decode b_MD_goThrough 122 = .ok (.goto (-111), 3) := by decide +kernel
theorem d_MD_goThrough_125 : decode b_MD_goThrough 125 = .ok (.iload_n 2, 1) := by decide +kernel
theorem d_MD_goThrough_126 : decode b_MD_goThrough 126 = .ok (.ireturn, 1) := by decide +kernel
theorem d_MD_stands_0 : decode b_MD_stands 0 = .ok (.aload_n 0, 1) := by decide +kernel
theorem d_MD_stands_1 : decode b_MD_stands 1 = .ok (.getfield 20, 3) := by decide +kernel
theorem d_MD_stands_4 : decode b_MD_stands 4 = .ok (.iload_n 1, 1) := by decide +kernel
theorem d_MD_stands_5 : decode b_MD_stands 5 = .ok (.iaload, 1) := by decide +kernel
theorem d_MD_stands_6 : decode b_MD_stands 6 = .ok (.istore_n 2, 1) := by decide +kernel
theorem d_MD_stands_7 : decode b_MD_stands 7 = .ok (.aload_n 0, 1) := by decide +kernel
theorem d_MD_stands_8 : decode b_MD_stands 8 = .ok (.getfield 7, 3) := by decide +kernel
theorem d_MD_stands_11 : decode b_MD_stands 11 = .ok (.iload_n 1, 1) := by decide +kernel
theorem d_MD_stands_12 : decode b_MD_stands 12 = .ok (.aload_n 0, 1) := by decide +kernel
theorem d_MD_stands_13 : decode b_MD_stands 13 = .ok (.getfield 42, 3) := by decide +kernel
theorem d_MD_stands_16 : decode b_MD_stands 16 = .ok (.iload_n 2, 1) := by decide +kernel
theorem d_MD_stands_17 : decode b_MD_stands 17 = .ok (.imul, 1) := by decide +kernel
theorem d_MD_stands_18 : decode b_MD_stands 18 = .ok (.iadd, 1) := by decide +kernel
theorem d_MD_stands_19 : decode b_MD_stands 19 = .ok (.baload, 1) := by decide +kernel
theorem d_MD_stands_20 : decode b_MD_stands 20 = .ok (.ifCond .eq 5, 3) := by decide +kernel
theorem d_MD_stands_23 : decode b_MD_stands 23 = .ok (.iconst 0, 1) := by decide +kernel
theorem d_MD_stands_24 : decode b_MD_stands 24 = .ok (.ireturn, 1) := by decide +kernel
theorem d_MD_stands_25 : decode b_MD_stands 25 = .ok (.iconst 0, 1) := by decide +kernel
theorem d_MD_stands_26 : decode b_MD_stands 26 = .ok (.istore_n 3, 1) := by decide +kernel
theorem d_MD_stands_27 : decode b_MD_stands 27 = .ok (.iload_n 3, 1) := by decide +kernel
theorem d_MD_stands_28 : decode b_MD_stands 28 = .ok (.iload_n 1, 1) := by decide +kernel
theorem d_MD_stands_29 : decode b_MD_stands 29 = .ok (.if_icmp .ge 37, 3) := by decide +kernel
theorem d_MD_stands_32 : decode b_MD_stands 32 = .ok (.aload_n 0, 1) := by decide +kernel
theorem d_MD_stands_33 : decode b_MD_stands 33 = .ok (.getfield 20, 3) := by decide +kernel
theorem d_MD_stands_36 : decode b_MD_stands 36 = .ok (.iload_n 3, 1) := by decide +kernel
theorem d_MD_stands_37 : decode b_MD_stands 37 = .ok (.iaload, 1) := by decide +kernel
theorem d_MD_stands_38 : decode b_MD_stands 38 = .ok (.iload_n 2, 1) := by decide +kernel
theorem d_MD_stands_39 : decode b_MD_stands 39 = .ok (.if_icmp .eq 19, 3) := by decide +kernel
theorem d_MD_stands_42 : decode b_MD_stands 42 = .ok (.aload_n 0, 1) := by decide +kernel
theorem d_MD_stands_43 : decode b_MD_stands 43 = .ok (.getfield 20, 3) := by decide +kernel
theorem d_MD_stands_46 : decode b_MD_stands 46 = .ok (.iload_n 3, 1) := by decide +kernel
theorem d_MD_stands_47 : decode b_MD_stands 47 = .ok (.iaload, 1) := by decide +kernel
theorem d_MD_stands_48 : decode b_MD_stands 48 = .ok (.iload_n 2, 1) := by decide +kernel
theorem d_MD_stands_49 : decode b_MD_stands 49 = .ok (.invokestatic 68, 3) := by decide +kernel
theorem d_MD_stands_52 : decode b_MD_stands 52 = .ok (.iload_n 1, 1) := by decide +kernel
theorem d_MD_stands_53 : decode b_MD_stands 53 = .ok (.iload_n 3, 1) := by decide +kernel
theorem d_MD_stands_54 : decode b_MD_stands 54 = .ok (.isub, 1) := by decide +kernel
theorem d_MD_stands_55 : decode b_MD_stands 55 = .ok (.if_icmp .ne 5, 3) := by decide +kernel
theorem d_MD_stands_58 : decode b_MD_stands 58 = .ok (.iconst 0, 1) := by decide +kernel
theorem d_MD_stands_59 : decode b_MD_stands 59 = .ok (.ireturn, 1) := by decide +kernel
theorem d_MD_stands_60 : decode b_MD_stands 60 = .ok (.iinc 3 1, 3) := by decide +kernel
theorem d_MD_stands_63 : decode b_MD_stands 63 = .ok (.goto (-36), 3) := by decide +kernel
theorem d_MD_stands_66 : decode b_MD_stands 66 = .ok (.iconst 1, 1) := by decide +kernel
theorem d_MD_stands_67 : decode b_MD_stands 67 = .ok (.ireturn, 1) := by decide +kernel
theorem d_MD_queen_0 : decode b_MD_queen 0 = .ok (.aload_n 0, 1) := by decide +kernel
theorem d_MD_queen_1 : decode b_MD_queen 1 = .ok (.iconst 0, 1) := by decide +kernel
theorem d_MD_queen_2 : decode b_MD_queen 2 = .ok (.putfield 55, 3) := by decide +kernel
theorem d_MD_queen_5 : decode b_MD_queen 5 = .ok (.iload_n 1, 1) := by decide +kernel
theorem d_MD_queen_6 : decode b_MD_queen 6 = .ok (.ifCond .lt 15, 3) := by decide +kernel
theorem d_MD_queen_9 : decode b_MD_queen 9 = .ok (.iload_n 2, 1) := by decide +kernel
theorem d_MD_queen_10 : decode b_MD_queen 10 = .ok (.ifCond .lt 11, 3) := by decide +kernel
theorem d_MD_queen_13 : decode b_MD_queen 13 = .ok (.iload_n 2, 1) := by decide +kernel
theorem d_MD_queen_14 : decode b_MD_queen 14 = .ok (.aload_n 0, 1) := by decide +kernel
theorem d_MD_queen_15 : decode b_MD_queen 15 = .ok (.getfield 42, 3) := by decide +kernel
theorem d_MD_queen_18 : decode b_MD_queen 18 = .ok (.if_icmp .lt 5, 3) := by decide +kernel
theorem d_MD_queen_21 : decode b_MD_queen 21 = .ok (.iconst (-1), 1) := by decide +kernel
theorem d_MD_queen_22 : decode b_MD_queen 22 = .ok (.ireturn, 1) := by decide +kernel
theorem d_MD_queen_23 : decode b_MD_queen 23 = .ok (.aload_n 0, 1) := by decide +kernel
theorem d_MD_queen_24 : decode b_MD_queen 24 = .ok (.iload_n 1, 1) := by decide +kernel
theorem d_MD_queen_25 : decode b_MD_queen 25 = .ok (.invokevirtual 99, 3) := by decide +kernel
theorem d_MD_queen_28 : decode b_MD_queen 28 = .ok (.iload_n 1, 1) := by decide +kernel
theorem d_MD_queen_29 : decode b_MD_queen 29 = .ok (.iconst 1, 1) := by decide +kernel
theorem d_MD_queen_30 : decode b_MD_queen 30 = .ok (.iadd, 1) := by decide +kernel
theorem d_MD_queen_31 : decode b_MD_queen 31 = .ok (.if_icmp .ne 12, 3) := by decide +kernel
theorem d_MD_queen_34 : decode b_MD_queen 34 = .ok (.aload_n 0, 1) := by decide +kernel
theorem d_MD_queen_35 : decode b_MD_queen 35 = .ok (.getfield 23, 3) := by decide +kernel
theorem d_MD_queen_38 : decode b_MD_queen 38 = .ok (.iload_n 2, 1) := by decide +kernel
theorem d_MD_queen_39 : decode b_MD_queen 39 = .ok (.iaload, 1) := by decide +kernel
theorem d_MD_queen_40 : decode b_MD_queen 40 = .ok (.goto 4, 3) := by decide +kernel
theorem d_MD_queen_43 : decode b_MD_queen 43 = .ok (.iconst (-1), 1) := by decide +kernel
theorem d_MD_queen_44 : decode b_MD_queen 44 = .ok (.ireturn, 1) := by decide +kernel
theorem d_MD_given_0 : decode b_MD_given 0 = .ok (.aload_n 0, 1) := by decide +kernel
theorem d_MD_given_1 : decode b_MD_given 1 = .ok (.iconst 0, 1) := by decide +kernel
theorem d_MD_given_2 : decode b_MD_given 2 = .ok (.putfield 55, 3) := by decide +kernel
theorem d_MD_given_5 : decode b_MD_given 5 = .ok (.aload_n 0, 1) := by decide +kernel
theorem d_MD_given_6 : decode b_MD_given 6 = .ok (.iload_n 1, 1) := by decide +kernel
theorem d_MD_given_7 : decode b_MD_given 7 = .ok (.iload_n 2, 1) := by decide +kernel
theorem d_MD_given_8 : decode b_MD_given 8 = .ok (.invokevirtual 58, 3) := by decide +kernel
theorem d_MD_given_11 : decode b_MD_given 11 = .ok (.ifCond .eq 15, 3) := by decide +kernel
theorem d_MD_given_14 : decode b_MD_given 14 = .ok (.iload_n 3, 1) := by decide +kernel
theorem d_MD_given_15 : decode b_MD_given 15 = .ok (.ifCond .lt 11, 3) := by decide +kernel
theorem d_MD_given_18 : decode b_MD_given 18 = .ok (.iload_n 3, 1) := by decide +kernel
theorem d_MD_given_19 : decode b_MD_given 19 = .ok (.aload_n 0, 1) := by decide +kernel
theorem d_MD_given_20 : decode b_MD_given 20 = .ok (.getfield 52, 3) := by decide +kernel
theorem d_MD_given_23 : decode b_MD_given 23 = .ok (.if_icmp .le 5, 3) := by decide +kernel
theorem d_MD_given_26 : decode b_MD_given 26 = .ok (.iconst 0, 1) := by decide +kernel
theorem d_MD_given_27 : decode b_MD_given 27 = .ok (.ireturn, 1) := by decide +kernel
theorem d_MD_given_28 : decode b_MD_given 28 = .ok (.aload_n 0, 1) := by decide +kernel
theorem d_MD_given_29 : decode b_MD_given 29 = .ok (.getfield 26, 3) := by decide +kernel
theorem d_MD_given_32 : decode b_MD_given 32 = .ok (.iload_n 1, 1) := by decide +kernel
theorem d_MD_given_33 : decode b_MD_given 33 = .ok (.aload_n 0, 1) := by decide +kernel
theorem d_MD_given_34 : decode b_MD_given 34 = .ok (.getfield 42, 3) := by decide +kernel
theorem d_MD_given_37 : decode b_MD_given 37 = .ok (.iload_n 2, 1) := by decide +kernel
theorem d_MD_given_38 : decode b_MD_given 38 = .ok (.imul, 1) := by decide +kernel
theorem d_MD_given_39 : decode b_MD_given 39 = .ok (.iadd, 1) := by decide +kernel
theorem d_MD_given_40 : decode b_MD_given 40 = .ok (.iload_n 3, 1) := by decide +kernel
theorem d_MD_given_41 : decode b_MD_given 41 = .ok (.iastore, 1) := by decide +kernel
theorem d_MD_given_42 : decode b_MD_given 42 = .ok (.aload_n 0, 1) := by decide +kernel
theorem d_MD_given_43 : decode b_MD_given 43 = .ok (.iconst 0, 1) := by decide +kernel
theorem d_MD_given_44 : decode b_MD_given 44 = .ok (.putfield 102, 3) := by decide +kernel
theorem d_MD_given_47 : decode b_MD_given 47 = .ok (.iconst 1, 1) := by decide +kernel
theorem d_MD_given_48 : decode b_MD_given 48 = .ok (.ireturn, 1) := by decide +kernel
theorem d_MD_fill_0 : decode b_MD_fill 0 = .ok (.aload_n 0, 1) := by decide +kernel
theorem d_MD_fill_1 : decode b_MD_fill 1 = .ok (.iconst 0, 1) := by decide +kernel
theorem d_MD_fill_2 : decode b_MD_fill 2 = .ok (.putfield 55, 3) := by decide +kernel
theorem d_MD_fill_5 : decode b_MD_fill 5 = .ok (.aload_n 0, 1) := by decide +kernel
theorem d_MD_fill_6 : decode b_MD_fill 6 = .ok (.aload_n 0, 1) := by decide +kernel
theorem d_MD_fill_7 : decode b_MD_fill 7 = .ok (.iconst 1, 1) := by decide +kernel
theorem d_MD_fill_8 : decode b_MD_fill 8 = .ok (.iconst 1, 1) := by decide +kernel
theorem d_MD_fill_9 : decode b_MD_fill 9 = .ok (.invokevirtual 122, 3) := by decide +kernel
theorem d_MD_fill_12 : decode b_MD_fill 12 = .ok (.iconst 1, 1) := by decide +kernel
theorem d_MD_fill_13 : decode b_MD_fill 13 = .ok (.if_icmp .ne 7, 3) := by decide +kernel
theorem d_MD_fill_16 : decode b_MD_fill 16 = .ok (.iconst 1, 1) := by decide +kernel
theorem d_MD_fill_17 : decode b_MD_fill 17 = .ok (.goto 4, 3) := by decide +kernel
theorem d_MD_fill_20 : decode b_MD_fill 20 = .ok (.iconst 0, 1) := by decide +kernel
theorem d_MD_fill_21 : decode b_MD_fill 21 = .ok (.putfield 102, 3) := by decide +kernel
theorem d_MD_fill_24 : decode b_MD_fill 24 = .ok (.aload_n 0, 1) := by decide +kernel
theorem d_MD_fill_25 : decode b_MD_fill 25 = .ok (.getfield 102, 3) := by decide +kernel
theorem d_MD_fill_28 : decode b_MD_fill 28 = .ok (.ireturn, 1) := by decide +kernel
theorem d_MD_fillThrough_0 : decode b_MD_fillThrough 0 = .ok (.iconst 0, 1) := by decide +kernel
theorem d_MD_fillThrough_1 : decode b_MD_fillThrough 1 = .ok (.istore_n 3, 1) := by decide +kernel
theorem d_MD_fillThrough_2 : decode b_MD_fillThrough 2 = .ok (.iconst 0, 1) := by decide +kernel
theorem d_MD_fillThrough_3 : decode b_MD_fillThrough 3 = .ok (.istore 4, 2) := by decide +kernel
theorem d_MD_fillThrough_5 : decode b_MD_fillThrough 5 = .ok (.aload_n 0, 1) := by decide +kernel
theorem d_MD_fillThrough_6 : decode b_MD_fillThrough 6 = .ok (.iconst (-1), 1) := by decide +kernel
theorem d_MD_fillThrough_7 : decode b_MD_fillThrough 7 = .ok (.invokevirtual 116, 3) := by decide +kernel
theorem d_MD_fillThrough_10 : decode b_MD_fillThrough 10 = .ok (.ifCond .ne 5, 3) := by decide +kernel
theorem d_MD_fillThrough_13 : decode b_MD_fillThrough 13 = .ok (.iconst 0, 1) := by decide +kernel
theorem d_MD_fillThrough_14 : decode b_MD_fillThrough 14 = .ok (.ireturn, 1) := by decide +kernel
theorem d_MD_fillThrough_15 : decode b_MD_fillThrough 15 = .ok (.aload_n 0, 1) := by decide +kernel
theorem d_MD_fillThrough_16 : decode b_MD_fillThrough 16 = .ok (.getfield 29, 3) := by decide +kernel
theorem d_MD_fillThrough_19 : decode b_MD_fillThrough 19 = .ok (.iconst 0, 1) := by decide +kernel
theorem d_MD_fillThrough_20 : decode b_MD_fillThrough 20 = .ok (.iconst 0, 1) := by decide +kernel
theorem d_MD_fillThrough_21 : decode b_MD_fillThrough 21 = .ok (.iastore, 1) := by decide +kernel
theorem d_MD_fillThrough_22 : decode b_MD_fillThrough 22 = .ok (.iload 4, 2) := by decide +kernel
theorem d_MD_fillThrough_24 : decode b_MD_fillThrough 24 = .ok (.ifCond .lt 135, 3) := by decide +kernel
theorem d_MD_fillThrough_27 : decode b_MD_fillThrough 27 = .ok (.iload_n 3, 1) := by decide +kernel
theorem d_MD_fillThrough_28 : decode b_MD_fillThrough 28 = .ok (.iload_n 1, 1) := by decide +kernel
theorem d_MD_fillThrough_29 : decode b_MD_fillThrough 29 = .ok (.if_icmp .ge 130, 3) := by decide +kernel
theorem d_MD_fillThrough_32 : decode b_MD_fillThrough 32 = .ok (.aload_n 0, 1) := by decide +kernel
theorem d_MD_fillThrough_33 : decode b_MD_fillThrough 33 = .ok (.getfield 29, 3) := by decide +kernel
theorem d_MD_fillThrough_36 : decode b_MD_fillThrough 36 = .ok (.iload 4, 2) := by decide +kernel
theorem d_MD_fillThrough_38 : decode b_MD_fillThrough 38 = .ok (.dup2, 1) := by decide +kernel
theorem d_MD_fillThrough_39 : decode b_MD_fillThrough 39 = .ok (.iaload, 1) := by decide +kernel
theorem d_MD_fillThrough_40 : decode b_MD_fillThrough 40 = .ok (.iconst 1, 1) := by decide +kernel
theorem d_MD_fillThrough_41 : decode b_MD_fillThrough 41 = .ok (.iadd, 1) := by decide +kernel
theorem d_MD_fillThrough_42 : decode b_MD_fillThrough 42 = .ok (.iastore, 1) := by decide +kernel
theorem d_MD_fillThrough_43 : decode b_MD_fillThrough 43 = .ok (.aload_n 0, 1) := by decide +kernel
theorem d_MD_fillThrough_44 : decode b_MD_fillThrough 44 = .ok (.getfield 29, 3) := by decide +kernel
theorem d_MD_fillThrough_47 : decode b_MD_fillThrough 47 = .ok (.iload 4, 2) := by decide +kernel
theorem d_MD_fillThrough_49 : decode b_MD_fillThrough 49 = .ok (.iaload, 1) := by decide +kernel
theorem d_MD_fillThrough_50 : decode b_MD_fillThrough 50 = .ok (.aload_n 0, 1) := by decide +kernel
theorem d_MD_fillThrough_51 : decode b_MD_fillThrough 51 = .ok (.getfield 52, 3) := by decide +kernel
theorem d_MD_fillThrough_54 : decode b_MD_fillThrough 54 = .ok (.if_icmp .le 9, 3) := by decide +kernel
theorem d_MD_fillThrough_57 : decode b_MD_fillThrough 57 = .ok (.iinc 4 (-1), 3) := by decide +kernel
theorem d_MD_fillThrough_60 : decode b_MD_fillThrough 60 = .ok (.goto (-38), 3) := by decide +kernel
theorem d_MD_fillThrough_63 : decode b_MD_fillThrough 63 = .ok (.aload_n 0, 1) := by decide +kernel
theorem d_MD_fillThrough_64 : decode b_MD_fillThrough 64 = .ok (.iload 4, 2) := by decide +kernel
theorem d_MD_fillThrough_66 : decode b_MD_fillThrough 66 = .ok (.aload_n 0, 1) := by decide +kernel
theorem d_MD_fillThrough_67 : decode b_MD_fillThrough 67 = .ok (.getfield 29, 3) := by decide +kernel
theorem d_MD_fillThrough_70 : decode b_MD_fillThrough 70 = .ok (.iload 4, 2) := by decide +kernel
theorem d_MD_fillThrough_72 : decode b_MD_fillThrough 72 = .ok (.iaload, 1) := by decide +kernel
theorem d_MD_fillThrough_73 : decode b_MD_fillThrough 73 = .ok (.invokevirtual 119, 3) := by decide +kernel
theorem d_MD_fillThrough_76 : decode b_MD_fillThrough 76 = .ok (.ifCond .eq (-54), 3) := by decide +kernel
theorem d_MD_fillThrough_79 : decode b_MD_fillThrough 79 = .ok (.aload_n 0, 1) := by decide +kernel
theorem d_MD_fillThrough_80 : decode b_MD_fillThrough 80 = .ok (.iload 4, 2) := by decide +kernel
theorem d_MD_fillThrough_82 : decode b_MD_fillThrough 82 = .ok (.invokevirtual 116, 3) := by decide +kernel
theorem d_MD_fillThrough_85 : decode b_MD_fillThrough 85 = .ok (.ifCond .eq (-63), 3) := by decide +kernel
theorem d_MD_fillThrough_88 : decode b_MD_fillThrough 88 = .ok (.iload 4, 2) := by decide +kernel
theorem d_MD_fillThrough_90 : decode b_MD_fillThrough 90 = .ok (.iconst 1, 1) := by decide +kernel
theorem d_MD_fillThrough_91 : decode b_MD_fillThrough 91 = .ok (.iadd, 1) := by decide +kernel
theorem d_MD_fillThrough_92 : decode b_MD_fillThrough 92 = .ok (.aload_n 0, 1) := by decide +kernel
theorem d_MD_fillThrough_93 : decode b_MD_fillThrough 93 = .ok (.getfield 49, 3) := by decide +kernel
theorem d_MD_fillThrough_96 : decode b_MD_fillThrough 96 = .ok (.if_icmp .ge 17, 3) := by decide +kernel
theorem d_MD_fillThrough_99 : decode b_MD_fillThrough 99 = .ok (.iinc 4 1, 3) := by decide +kernel
theorem d_MD_fillThrough_102 : decode b_MD_fillThrough 102 = .ok (.aload_n 0, 1) := by decide +kernel
theorem d_MD_fillThrough_103 : decode b_MD_fillThrough 103 = .ok (.getfield 29, 3) := by decide +kernel
theorem d_MD_fillThrough_106 : decode b_MD_fillThrough 106 = .ok (.iload 4, 2) := by decide +kernel
theorem d_MD_fillThrough_108 : decode b_MD_fillThrough 108 = .ok (.iconst 0, 1) := by decide +kernel
theorem d_MD_fillThrough_109 : decode b_MD_fillThrough 109 = .ok (.iastore, 1) := by decide +kernel
theorem d_MD_fillThrough_110 : decode b_MD_fillThrough 110 = .ok (.goto (-88), 3) := by decide +kernel
theorem d_MD_fillThrough_113 : decode b_MD_fillThrough 113 = .ok (.iload_n 2, 1) := by decide +kernel
theorem d_MD_fillThrough_114 : decode b_MD_fillThrough 114 = .ok (.ifCond .eq 39, 3) := by decide +kernel
theorem d_MD_fillThrough_117 : decode b_MD_fillThrough 117 = .ok (.iload_n 3, 1) := by decide +kernel
theorem d_MD_fillThrough_118 : decode b_MD_fillThrough 118 = .ok (.ifCond .ne 35, 3) := by decide +kernel
theorem d_MD_fillThrough_121 : decode b_MD_fillThrough 121 = .ok (.iconst 0, 1) := by decide +kernel
theorem d_MD_fillThrough_122 : decode b_MD_fillThrough 122 = .ok (.istore 5, 2) := by decide +kernel
theorem d_MD_fillThrough_124 : decode b_MD_fillThrough 124 = .ok (.iload 5, 2) := by decide +kernel
theorem d_MD_fillThrough_126 : decode b_MD_fillThrough 126 = .ok (.aload_n 0, 1) := by decide +kernel
theorem d_MD_fillThrough_127 : decode b_MD_fillThrough 127 = .ok (.getfield 49, 3) := by decide +kernel
theorem d_MD_fillThrough_130 : decode b_MD_fillThrough 130 = .ok (.if_icmp .ge 23, 3) := by decide +kernel
theorem d_MD_fillThrough_133 : decode b_MD_fillThrough 133 = .ok (.aload_n 0, 1) := by decide +kernel
theorem d_MD_fillThrough_134 : decode b_MD_fillThrough 134 = .ok (.getfield 32, 3) := by decide +kernel
theorem d_MD_fillThrough_137 : decode b_MD_fillThrough 137 = .ok (.iload 5, 2) := by decide +kernel
theorem d_MD_fillThrough_139 : decode b_MD_fillThrough 139 = .ok (.aload_n 0, 1) := by decide +kernel
theorem d_MD_fillThrough_140 : decode b_MD_fillThrough 140 = .ok (.getfield 29, 3) := by decide +kernel
theorem d_MD_fillThrough_143 : decode b_MD_fillThrough 143 = .ok (.iload 5, 2) := by decide +kernel
theorem d_MD_fillThrough_145 : decode b_MD_fillThrough 145 = .ok (.iaload, 1) := by decide +kernel
theorem d_MD_fillThrough_146 : decode b_MD_fillThrough 146 = .ok (.iastore, 1) := by decide +kernel
theorem d_MD_fillThrough_147 : decode b_MD_fillThrough 147 = .ok (.iinc 5 1, 3) := by decide +kernel
theorem d_MD_fillThrough_150 : decode b_MD_fillThrough 150 = .ok (.goto (-26), 3) := by decide +kernel
theorem d_MD_fillThrough_153 : decode b_MD_fillThrough 153 = .ok (.iinc 3 1, 3) := by decide +kernel
theorem d_MD_fillThrough_156 : decode b_MD_fillThrough 156 = .ok (.goto (-134), 3) := by decide +kernel
theorem d_MD_fillThrough_159 : decode b_MD_fillThrough 159 = .ok (.iload_n 3, 1) := by decide +kernel
theorem d_MD_fillThrough_160 : decode b_MD_fillThrough 160 = .ok (.ireturn, 1) := by decide +kernel
theorem d_MD_goesOn_0 : decode b_MD_goesOn 0 = .ok (.iload_n 1, 1) := by decide +kernel
theorem d_MD_goesOn_1 : decode b_MD_goesOn 1 = .ok (.iconst 1, 1) := by decide +kernel
theorem d_MD_goesOn_2 : decode b_MD_goesOn 2 = .ok (.iadd, 1) := by decide +kernel
theorem d_MD_goesOn_3 : decode b_MD_goesOn 3 = .ok (.istore_n 2, 1) := by decide +kernel
theorem d_MD_goesOn_4 : decode b_MD_goesOn 4 = .ok (.iload_n 2, 1) := by decide +kernel
theorem d_MD_goesOn_5 : decode b_MD_goesOn 5 = .ok (.aload_n 0, 1) := by decide +kernel
theorem d_MD_goesOn_6 : decode b_MD_goesOn 6 = .ok (.getfield 49, 3) := by decide +kernel
theorem d_MD_goesOn_9 : decode b_MD_goesOn 9 = .ok (.if_icmp .ge 21, 3) := by decide +kernel
theorem d_MD_goesOn_12 : decode b_MD_goesOn 12 = .ok (.aload_n 0, 1) := by decide +kernel
theorem d_MD_goesOn_13 : decode b_MD_goesOn 13 = .ok (.getfield 35, 3) := by decide +kernel
theorem d_MD_goesOn_16 : decode b_MD_goesOn 16 = .ok (.iload_n 2, 1) := by decide +kernel
theorem d_MD_goesOn_17 : decode b_MD_goesOn 17 = .ok (.aload_n 0, 1) := by decide +kernel
theorem d_MD_goesOn_18 : decode b_MD_goesOn 18 = .ok (.iload_n 2, 1) := by decide +kernel
theorem d_MD_goesOn_19 : decode b_MD_goesOn 19 = .ok (.iload_n 1, 1) := by decide +kernel
theorem d_MD_goesOn_20 : decode b_MD_goesOn 20 = .ok (.invokevirtual 106, 3) := by decide +kernel
theorem d_MD_goesOn_23 : decode b_MD_goesOn 23 = .ok (.iastore, 1) := by decide +kernel
theorem d_MD_goesOn_24 : decode b_MD_goesOn 24 = .ok (.iinc 2 1, 3) := by decide +kernel
theorem d_MD_goesOn_27 : decode b_MD_goesOn 27 = .ok (.goto (-23), 3) := by decide +kernel
theorem d_MD_goesOn_30 : decode b_MD_goesOn 30 = .ok (.iload_n 1, 1) := by decide +kernel
theorem d_MD_goesOn_31 : decode b_MD_goesOn 31 = .ok (.iconst 1, 1) := by decide +kernel
theorem d_MD_goesOn_32 : decode b_MD_goesOn 32 = .ok (.iadd, 1) := by decide +kernel
theorem d_MD_goesOn_33 : decode b_MD_goesOn 33 = .ok (.istore_n 2, 1) := by decide +kernel
theorem d_MD_goesOn_34 : decode b_MD_goesOn 34 = .ok (.iload_n 2, 1) := by decide +kernel
theorem d_MD_goesOn_35 : decode b_MD_goesOn 35 = .ok (.aload_n 0, 1) := by decide +kernel
theorem d_MD_goesOn_36 : decode b_MD_goesOn 36 = .ok (.getfield 49, 3) := by decide +kernel
theorem d_MD_goesOn_39 : decode b_MD_goesOn 39 = .ok (.if_icmp .ge 20, 3) := by decide +kernel
theorem d_MD_goesOn_42 : decode b_MD_goesOn 42 = .ok (.aload_n 0, 1) := by decide +kernel
theorem d_MD_goesOn_43 : decode b_MD_goesOn 43 = .ok (.getfield 35, 3) := by decide +kernel
theorem d_MD_goesOn_46 : decode b_MD_goesOn 46 = .ok (.iload_n 2, 1) := by decide +kernel
theorem d_MD_goesOn_47 : decode b_MD_goesOn 47 = .ok (.iaload, 1) := by decide +kernel
theorem d_MD_goesOn_48 : decode b_MD_goesOn 48 = .ok (.ifCond .ne 5, 3) := by decide +kernel
theorem d_MD_goesOn_51 : decode b_MD_goesOn 51 = .ok (.iconst 0, 1) := by decide +kernel
theorem d_MD_goesOn_52 : decode b_MD_goesOn 52 = .ok (.ireturn, 1) := by decide +kernel
theorem d_MD_goesOn_53 : decode b_MD_goesOn 53 = .ok (.iinc 2 1, 3) := by decide +kernel
theorem d_MD_goesOn_56 : decode b_MD_goesOn 56 = .ok (.goto (-22), 3) := by decide +kernel
theorem d_MD_goesOn_59 : decode b_MD_goesOn 59 = .ok (.iconst 0, 1) := by decide +kernel
theorem d_MD_goesOn_60 : decode b_MD_goesOn 60 = .ok (.istore_n 2, 1) := by decide +kernel
theorem d_MD_goesOn_61 : decode b_MD_goesOn 61 = .ok (.iload_n 2, 1) := by decide +kernel
theorem d_MD_goesOn_62 : decode b_MD_goesOn 62 = .ok (.aload_n 0, 1) := by decide +kernel
theorem d_MD_goesOn_63 : decode b_MD_goesOn 63 = .ok (.getfield 46, 3) := by decide +kernel
theorem d_MD_goesOn_66 : decode b_MD_goesOn 66 = .ok (.if_icmp .ge 30, 3) := by decide +kernel
theorem d_MD_goesOn_69 : decode b_MD_goesOn 69 = .ok (.aload_n 0, 1) := by decide +kernel
theorem d_MD_goesOn_70 : decode b_MD_goesOn 70 = .ok (.aload_n 0, 1) := by decide +kernel
theorem d_MD_goesOn_71 : decode b_MD_goesOn 71 = .ok (.getfield 42, 3) := by decide +kernel
theorem d_MD_goesOn_74 : decode b_MD_goesOn 74 = .ok (.iload_n 2, 1) := by decide +kernel
theorem d_MD_goesOn_75 : decode b_MD_goesOn 75 = .ok (.imul, 1) := by decide +kernel
theorem d_MD_goesOn_76 : decode b_MD_goesOn 76 = .ok (.iconst 1, 1) := by decide +kernel
theorem d_MD_goesOn_77 : decode b_MD_goesOn 77 = .ok (.aload_n 0, 1) := by decide +kernel
theorem d_MD_goesOn_78 : decode b_MD_goesOn 78 = .ok (.getfield 42, 3) := by decide +kernel
theorem d_MD_goesOn_81 : decode b_MD_goesOn 81 = .ok (.iload_n 1, 1) := by decide +kernel
theorem d_MD_goesOn_82 : decode b_MD_goesOn 82 = .ok (.invokevirtual 109, 3) := by decide +kernel
theorem d_MD_goesOn_85 : decode b_MD_goesOn 85 = .ok (.ifCond .ne 5, 3) := by decide +kernel
theorem d_MD_goesOn_88 : decode b_MD_goesOn 88 = .ok (.iconst 0, 1) := by decide +kernel
theorem d_MD_goesOn_89 : decode b_MD_goesOn 89 = .ok (.ireturn, 1) := by decide +kernel
theorem d_MD_goesOn_90 : decode b_MD_goesOn 90 = .ok (.iinc 2 1, 3) := by decide +kernel
theorem d_MD_goesOn_93 : decode b_MD_goesOn 93 = .ok (.goto (-32), 3) := by decide +kernel
theorem d_MD_goesOn_96 : decode b_MD_goesOn 96 = .ok (.iconst 0, 1) := by decide +kernel
theorem d_MD_goesOn_97 : decode b_MD_goesOn 97 = .ok (.istore_n 2, 1) := by decide +kernel
theorem d_MD_goesOn_98 : decode b_MD_goesOn 98 = .ok (.iload_n 2, 1) := by decide +kernel
theorem d_MD_goesOn_99 : decode b_MD_goesOn 99 = .ok (.aload_n 0, 1) := by decide +kernel
theorem d_MD_goesOn_100 : decode b_MD_goesOn 100 = .ok (.getfield 42, 3) := by decide +kernel
theorem d_MD_goesOn_103 : decode b_MD_goesOn 103 = .ok (.if_icmp .ge 28, 3) := by decide +kernel
theorem d_MD_goesOn_106 : decode b_MD_goesOn 106 = .ok (.aload_n 0, 1) := by decide +kernel
theorem d_MD_goesOn_107 : decode b_MD_goesOn 107 = .ok (.iload_n 2, 1) := by decide +kernel
theorem d_MD_goesOn_108 : decode b_MD_goesOn 108 = .ok (.aload_n 0, 1) := by decide +kernel
theorem d_MD_goesOn_109 : decode b_MD_goesOn 109 = .ok (.getfield 42, 3) := by decide +kernel
theorem d_MD_goesOn_112 : decode b_MD_goesOn 112 = .ok (.aload_n 0, 1) := by decide +kernel
theorem d_MD_goesOn_113 : decode b_MD_goesOn 113 = .ok (.getfield 46, 3) := by decide +kernel
theorem d_MD_goesOn_116 : decode b_MD_goesOn 116 = .ok (.iload_n 1, 1) := by decide +kernel
theorem d_MD_goesOn_117 : decode b_MD_goesOn 117 = .ok (.invokevirtual 109, 3) := by decide +kernel
theorem d_MD_goesOn_120 : decode b_MD_goesOn 120 = .ok (.ifCond .ne 5, 3) := by decide +kernel
theorem d_MD_goesOn_123 : decode b_MD_goesOn 123 = .ok (.iconst 0, 1) := by decide +kernel
theorem d_MD_goesOn_124 : decode b_MD_goesOn 124 = .ok (.ireturn, 1) := by decide +kernel
theorem d_MD_goesOn_125 : decode b_MD_goesOn 125 = .ok (.iinc 2 1, 3) := by decide +kernel
theorem d_MD_goesOn_128 : decode b_MD_goesOn 128 = .ok (.goto (-30), 3) := by decide +kernel
theorem d_MD_goesOn_131 : decode b_MD_goesOn 131 = .ok (.iconst 1, 1) := by decide +kernel
theorem d_MD_goesOn_132 : decode b_MD_goesOn 132 = .ok (.ireturn, 1) := by decide +kernel
theorem d_MD_free_0 : decode b_MD_free 0 = .ok (.iconst 0, 1) := by decide +kernel
theorem d_MD_free_1 : decode b_MD_free 1 = .ok (.istore_n 3, 1) := by decide +kernel
theorem d_MD_free_2 : decode b_MD_free 2 = .ok (.iconst 0, 1) := by decide +kernel
theorem d_MD_free_3 : decode b_MD_free 3 = .ok (.istore 4, 2) := by decide +kernel
theorem d_MD_free_5 : decode b_MD_free 5 = .ok (.iload 4, 2) := by decide +kernel
theorem d_MD_free_7 : decode b_MD_free 7 = .ok (.aload_n 0, 1) := by decide +kernel
theorem d_MD_free_8 : decode b_MD_free 8 = .ok (.getfield 49, 3) := by decide +kernel
theorem d_MD_free_11 : decode b_MD_free 11 = .ok (.if_icmp .ge 87, 3) := by decide +kernel
theorem d_MD_free_14 : decode b_MD_free 14 = .ok (.iload 4, 2) := by decide +kernel
theorem d_MD_free_16 : decode b_MD_free 16 = .ok (.iload_n 1, 1) := by decide +kernel
theorem d_MD_free_17 : decode b_MD_free 17 = .ok (.if_icmp .eq 39, 3) := by decide +kernel
theorem d_MD_free_20 : decode b_MD_free 20 = .ok (.iload 4, 2) := by decide +kernel
theorem d_MD_free_22 : decode b_MD_free 22 = .ok (.aload_n 0, 1) := by decide +kernel
theorem d_MD_free_23 : decode b_MD_free 23 = .ok (.getfield 42, 3) := by decide +kernel
theorem d_MD_free_26 : decode b_MD_free 26 = .ok (.irem, 1) := by decide +kernel
theorem d_MD_free_27 : decode b_MD_free 27 = .ok (.iload_n 1, 1) := by decide +kernel
theorem d_MD_free_28 : decode b_MD_free 28 = .ok (.aload_n 0, 1) := by decide +kernel
theorem d_MD_free_29 : decode b_MD_free 29 = .ok (.getfield 42, 3) := by decide +kernel
theorem d_MD_free_32 : decode b_MD_free 32 = .ok (.irem, 1) := by decide +kernel
theorem d_MD_free_33 : decode b_MD_free 33 = .ok (.if_icmp .eq 19, 3) := by decide +kernel
theorem d_MD_free_36 : decode b_MD_free 36 = .ok (.iload 4, 2) := by decide +kernel
theorem d_MD_free_38 : decode b_MD_free 38 = .ok (.aload_n 0, 1) := by decide +kernel
theorem d_MD_free_39 : decode b_MD_free 39 = .ok (.getfield 42, 3) := by decide +kernel
theorem d_MD_free_42 : decode b_MD_free 42 = .ok (.idiv, 1) := by decide +kernel
theorem d_MD_free_43 : decode b_MD_free 43 = .ok (.iload_n 1, 1) := by decide +kernel
theorem d_MD_free_44 : decode b_MD_free 44 = .ok (.aload_n 0, 1) := by decide +kernel
theorem d_MD_free_45 : decode b_MD_free 45 = .ok (.getfield 42, 3) := by decide +kernel
theorem d_MD_free_48 : decode b_MD_free 48 = .ok (.idiv, 1) := by decide +kernel
theorem d_MD_free_49 : decode b_MD_free 49 = .ok (.if_icmp .ne 7, 3) := by decide +kernel
theorem d_MD_free_52 : decode b_MD_free 52 = .ok (.iconst 1, 1) := by decide +kernel
theorem d_MD_free_53 : decode b_MD_free 53 = .ok (.goto 4, 3) := by decide +kernel
theorem d_MD_free_56 : decode b_MD_free 56 = .ok (.iconst 0, 1) := by decide +kernel
theorem d_MD_free_57 : decode b_MD_free 57 = .ok (.istore 5, 2) := by decide +kernel
theorem d_MD_free_59 : decode b_MD_free 59 = .ok (.iload 5, 2) := by decide +kernel
theorem d_MD_free_61 : decode b_MD_free 61 = .ok (.ifCond .eq 31, 3) := by decide +kernel
theorem d_MD_free_64 : decode b_MD_free 64 = .ok (.iload_n 3, 1) := by decide +kernel
theorem d_MD_free_65 : decode b_MD_free 65 = .ok (.iconst 1, 1) := by decide +kernel
theorem d_MD_free_66 : decode b_MD_free 66 = .ok (.iload 4, 2) := by decide +kernel
theorem d_MD_free_68 : decode b_MD_free 68 = .ok (.iload_n 2, 1) := by decide +kernel
theorem d_MD_free_69 : decode b_MD_free 69 = .ok (.if_icmp .gt 13, 3) := by decide +kernel
theorem d_MD_free_72 : decode b_MD_free 72 = .ok (.aload_n 0, 1) := by decide +kernel
theorem d_MD_free_73 : decode b_MD_free 73 = .ok (.getfield 29, 3) := by decide +kernel
theorem d_MD_free_76 : decode b_MD_free 76 = .ok (.iload 4, 2) := by decide +kernel
theorem d_MD_free_78 : decode b_MD_free 78 = .ok (.iaload, 1) := by decide +kernel
theorem d_MD_free_79 : decode b_MD_free 79 = .ok (.goto 10, 3) := by decide +kernel
theorem d_MD_free_82 : decode b_MD_free 82 = .ok (.aload_n 0, 1) := by decide +kernel
theorem d_MD_free_83 : decode b_MD_free 83 = .ok (.getfield 26, 3) := by decide +kernel
theorem d_MD_free_86 : decode b_MD_free 86 = .ok (.iload 4, 2) := by decide +kernel
theorem d_MD_free_88 : decode b_MD_free 88 = .ok (.iaload, 1) := by decide +kernel
theorem d_MD_free_89 : decode b_MD_free 89 = .ok (.ishl, 1) := by decide +kernel
theorem d_MD_free_90 : decode b_MD_free 90 = .ok (.ior, 1) := by decide +kernel
theorem d_MD_free_91 : decode b_MD_free 91 = .ok (.istore_n 3, 1) := by decide +kernel
theorem d_MD_free_92 : decode b_MD_free 92 = .ok (.iinc 4 1, 3) := by decide +kernel
theorem d_MD_free_95 : decode b_MD_free 95 = .ok (.goto (-90), 3) := by decide +kernel
theorem d_MD_free_98 : decode b_MD_free 98 = .ok (.iconst 2, 1) := by decide +kernel
theorem d_MD_free_99 : decode b_MD_free 99 = .ok (.aload_n 0, 1) := by decide +kernel
theorem d_MD_free_100 : decode b_MD_free 100 = .ok (.getfield 52, 3) := by decide +kernel
theorem d_MD_free_103 : decode b_MD_free 103 = .ok (.ishl, 1) := by decide +kernel
theorem d_MD_free_104 : decode b_MD_free 104 = .ok (.iconst 2, 1) := by decide +kernel
theorem d_MD_free_105 : decode b_MD_free 105 = .ok (.isub, 1) := by decide +kernel
theorem d_MD_free_106 : decode b_MD_free 106 = .ok (.iload_n 3, 1) := by decide +kernel
theorem d_MD_free_107 : decode b_MD_free 107 = .ok (.iconst (-1), 1) := by decide +kernel
theorem d_MD_free_108 : decode b_MD_free 108 = .ok (.ixor, 1) := by decide +kernel
theorem d_MD_free_109 : decode b_MD_free 109 = .ok (.iand, 1) := by decide +kernel
theorem d_MD_free_110 : decode b_MD_free 110 = .ok (.istore 4, 2) := by decide +kernel
theorem d_MD_free_112 : decode b_MD_free 112 = .ok (.aload_n 0, 1) := by decide +kernel
theorem d_MD_free_113 : decode b_MD_free 113 = .ok (.getfield 26, 3) := by decide +kernel
theorem d_MD_free_116 : decode b_MD_free 116 = .ok (.iload_n 1, 1) := by decide +kernel
theorem d_MD_free_117 : decode b_MD_free 117 = .ok (.iaload, 1) := by decide +kernel
theorem d_MD_free_118 : decode b_MD_free 118 = .ok (.ifCond .ne 8, 3) := by decide +kernel
theorem d_MD_free_121 : decode b_MD_free 121 = .ok (.iload 4, 2) := by decide +kernel
theorem d_MD_free_123 : decode b_MD_free 123 = .ok (.goto 14, 3) := by decide +kernel
theorem d_MD_free_126 : decode b_MD_free 126 = .ok (.iload 4, 2) := by decide +kernel
theorem d_MD_free_128 : decode b_MD_free 128 = .ok (.iconst 1, 1) := by decide +kernel
theorem d_MD_free_129 : decode b_MD_free 129 = .ok (.aload_n 0, 1) := by decide +kernel
theorem d_MD_free_130 : decode b_MD_free 130 = .ok (.getfield 26, 3) := by decide +kernel
theorem d_MD_free_133 : decode b_MD_free 133 = .ok (.iload_n 1, 1) := by decide +kernel
theorem d_MD_free_134 : decode b_MD_free 134 = .ok (.iaload, 1) := by decide +kernel
theorem d_MD_free_135 : decode b_MD_free 135 = .ok (.ishl, 1) := by decide +kernel
theorem d_MD_free_136 : decode b_MD_free 136 = .ok (.iand, 1) := by decide +kernel
theorem d_MD_free_137 : decode b_MD_free 137 = .ok (.ireturn, 1) := by decide +kernel
theorem d_MD_enough_0 : decode b_MD_enough 0 = .ok (.iconst 0, 1) := by decide +kernel
theorem d_MD_enough_1 : decode b_MD_enough 1 = .ok (.istore 5, 2) := by decide +kernel
theorem d_MD_enough_3 : decode b_MD_enough 3 = .ok (.iconst 0, 1) := by decide +kernel
theorem d_MD_enough_4 : decode b_MD_enough 4 = .ok (.istore 6, 2) := by decide +kernel
theorem d_MD_enough_6 : decode b_MD_enough 6 = .ok (.iconst 0, 1) := by decide +kernel
theorem d_MD_enough_7 : decode b_MD_enough 7 = .ok (.istore 7, 2) := by decide +kernel
theorem d_MD_enough_9 : decode b_MD_enough 9 = .ok (.iload 7, 2) := by decide +kernel
theorem d_MD_enough_11 : decode b_MD_enough 11 = .ok (.iload_n 3, 1) := by decide +kernel
theorem d_MD_enough_12 : decode b_MD_enough 12 = .ok (.if_icmp .ge 39, 3) := by decide +kernel
theorem d_MD_enough_15 : decode b_MD_enough 15 = .ok (.iload_n 1, 1) := by decide +kernel
theorem d_MD_enough_16 : decode b_MD_enough 16 = .ok (.iload_n 2, 1) := by decide +kernel
theorem d_MD_enough_17 : decode b_MD_enough 17 = .ok (.iload 7, 2) := by decide +kernel
theorem d_MD_enough_19 : decode b_MD_enough 19 = .ok (.imul, 1) := by decide +kernel
theorem d_MD_enough_20 : decode b_MD_enough 20 = .ok (.iadd, 1) := by decide +kernel
theorem d_MD_enough_21 : decode b_MD_enough 21 = .ok (.istore 8, 2) := by decide +kernel
theorem d_MD_enough_23 : decode b_MD_enough 23 = .ok (.iload 8, 2) := by decide +kernel
theorem d_MD_enough_25 : decode b_MD_enough 25 = .ok (.iload 4, 2) := by decide +kernel
theorem d_MD_enough_27 : decode b_MD_enough 27 = .ok (.if_icmp .le 18, 3) := by decide +kernel
theorem d_MD_enough_30 : decode b_MD_enough 30 = .ok (.iload 5, 2) := by decide +kernel
theorem d_MD_enough_32 : decode b_MD_enough 32 = .ok (.aload_n 0, 1) := by decide +kernel
theorem d_MD_enough_33 : decode b_MD_enough 33 = .ok (.getfield 35, 3) := by decide +kernel
theorem d_MD_enough_36 : decode b_MD_enough 36 = .ok (.iload 8, 2) := by decide +kernel
theorem d_MD_enough_38 : decode b_MD_enough 38 = .ok (.iaload, 1) := by decide +kernel
theorem d_MD_enough_39 : decode b_MD_enough 39 = .ok (.ior, 1) := by decide +kernel
theorem d_MD_enough_40 : decode b_MD_enough 40 = .ok (.istore 5, 2) := by decide +kernel
theorem d_MD_enough_42 : decode b_MD_enough 42 = .ok (.iinc 6 1, 3) := by decide +kernel
theorem d_MD_enough_45 : decode b_MD_enough 45 = .ok (.iinc 7 1, 3) := by decide +kernel
theorem d_MD_enough_48 : decode b_MD_enough 48 = .ok (.goto (-39), 3) := by decide +kernel
theorem d_MD_enough_51 : decode b_MD_enough 51 = .ok (.iload 5, 2) := by decide +kernel
theorem d_MD_enough_53 : decode b_MD_enough 53 = .ok (.invokestatic 113, 3) := by decide +kernel
theorem d_MD_enough_56 : decode b_MD_enough 56 = .ok (.iload 6, 2) := by decide +kernel
theorem d_MD_enough_58 : decode b_MD_enough 58 = .ok (.if_icmp .lt 7, 3) := by decide +kernel
theorem d_MD_enough_61 : decode b_MD_enough 61 = .ok (.iconst 1, 1) := by decide +kernel
theorem d_MD_enough_62 : decode b_MD_enough 62 = .ok (.goto 4, 3) := by decide +kernel
theorem d_MD_enough_65 : decode b_MD_enough 65 = .ok (.iconst 0, 1) := by decide +kernel
theorem d_MD_enough_66 : decode b_MD_enough 66 = .ok (.ireturn, 1) := by decide +kernel
theorem d_MD_bits_0 : decode b_MD_bits 0 = .ok (.iconst 0, 1) := by decide +kernel
theorem d_MD_bits_1 : decode b_MD_bits 1 = .ok (.istore_n 1, 1) := by decide +kernel
theorem d_MD_bits_2 : decode b_MD_bits 2 = .ok (.iconst 0, 1) := by decide +kernel
theorem d_MD_bits_3 : decode b_MD_bits 3 = .ok (.istore_n 2, 1) := by decide +kernel
theorem d_MD_bits_4 : decode b_MD_bits 4 = .ok (.iload_n 2, 1) := by decide +kernel
theorem d_MD_bits_5 : decode b_MD_bits 5 = .ok (.bipush 8, 2) := by decide +kernel
theorem d_MD_bits_7 : decode b_MD_bits 7 = .ok (.if_icmp .ge 17, 3) := by decide +kernel
theorem d_MD_bits_10 : decode b_MD_bits 10 = .ok (.iload_n 1, 1) := by decide +kernel
theorem d_MD_bits_11 : decode b_MD_bits 11 = .ok (.iload_n 0, 1) := by decide +kernel
theorem d_MD_bits_12 : decode b_MD_bits 12 = .ok (.iload_n 2, 1) := by decide +kernel
theorem d_MD_bits_13 : decode b_MD_bits 13 = .ok (.ishr, 1) := by decide +kernel
theorem d_MD_bits_14 : decode b_MD_bits 14 = .ok (.iconst 1, 1) := by decide +kernel
theorem d_MD_bits_15 : decode b_MD_bits 15 = .ok (.iand, 1) := by decide +kernel
theorem d_MD_bits_16 : decode b_MD_bits 16 = .ok (.iadd, 1) := by decide +kernel
theorem d_MD_bits_17 : decode b_MD_bits 17 = .ok (.istore_n 1, 1) := by decide +kernel
theorem d_MD_bits_18 : decode b_MD_bits 18 = .ok (.iinc 2 1, 3) := by decide +kernel
theorem d_MD_bits_21 : decode b_MD_bits 21 = .ok (.goto (-17), 3) := by decide +kernel
theorem d_MD_bits_24 : decode b_MD_bits 24 = .ok (.iload_n 1, 1) := by decide +kernel
theorem d_MD_bits_25 : decode b_MD_bits 25 = .ok (.ireturn, 1) := by decide +kernel
theorem d_MD_fits_0 : decode b_MD_fits 0 = .ok (.iload_n 1, 1) := by decide +kernel
theorem d_MD_fits_1 : decode b_MD_fits 1 = .ok (.aload_n 0, 1) := by decide +kernel
theorem d_MD_fits_2 : decode b_MD_fits 2 = .ok (.getfield 42, 3) := by decide +kernel
theorem d_MD_fits_5 : decode b_MD_fits 5 = .ok (.irem, 1) := by decide +kernel
theorem d_MD_fits_6 : decode b_MD_fits 6 = .ok (.istore_n 3, 1) := by decide +kernel
theorem d_MD_fits_7 : decode b_MD_fits 7 = .ok (.iload_n 1, 1) := by decide +kernel
theorem d_MD_fits_8 : decode b_MD_fits 8 = .ok (.aload_n 0, 1) := by decide +kernel
theorem d_MD_fits_9 : decode b_MD_fits 9 = .ok (.getfield 42, 3) := by decide +kernel
theorem d_MD_fits_12 : decode b_MD_fits 12 = .ok (.idiv, 1) := by decide +kernel
theorem d_MD_fits_13 : decode b_MD_fits 13 = .ok (.istore 4, 2) := by decide +kernel
theorem d_MD_fits_15 : decode b_MD_fits 15 = .ok (.iconst 0, 1) := by decide +kernel
theorem d_MD_fits_16 : decode b_MD_fits 16 = .ok (.istore 5, 2) := by decide +kernel
theorem d_MD_fits_18 : decode b_MD_fits 18 = .ok (.iload 5, 2) := by decide +kernel
theorem d_MD_fits_20 : decode b_MD_fits 20 = .ok (.aload_n 0, 1) := by decide +kernel
theorem d_MD_fits_21 : decode b_MD_fits 21 = .ok (.getfield 42, 3) := by decide +kernel
theorem d_MD_fits_24 : decode b_MD_fits 24 = .ok (.if_icmp .ge 56, 3) := by decide +kernel
theorem d_MD_fits_27 : decode b_MD_fits 27 = .ok (.iload 5, 2) := by decide +kernel
theorem d_MD_fits_29 : decode b_MD_fits 29 = .ok (.aload_n 0, 1) := by decide +kernel
theorem d_MD_fits_30 : decode b_MD_fits 30 = .ok (.getfield 42, 3) := by decide +kernel
theorem d_MD_fits_33 : decode b_MD_fits 33 = .ok (.iload 4, 2) := by decide +kernel
theorem d_MD_fits_35 : decode b_MD_fits 35 = .ok (.imul, 1) := by decide +kernel
theorem d_MD_fits_36 : decode b_MD_fits 36 = .ok (.iadd, 1) := by decide +kernel
theorem d_MD_fits_37 : decode b_MD_fits 37 = .ok (.istore 6, 2) := by decide +kernel
theorem d_MD_fits_39 : decode b_MD_fits 39 = .ok (.iload 6, 2) := by decide +kernel
theorem d_MD_fits_41 : decode b_MD_fits 41 = .ok (.iload_n 1, 1) := by decide +kernel
theorem d_MD_fits_42 : decode b_MD_fits 42 = .ok (.if_icmp .eq 32, 3) := by decide +kernel
theorem d_MD_fits_45 : decode b_MD_fits 45 = .ok (.iload 6, 2) := by decide +kernel
theorem d_MD_fits_47 : decode b_MD_fits 47 = .ok (.iload_n 1, 1) := by decide +kernel
theorem d_MD_fits_48 : decode b_MD_fits 48 = .ok (.if_icmp .ge 13, 3) := by decide +kernel
theorem d_MD_fits_51 : decode b_MD_fits 51 = .ok (.aload_n 0, 1) := by decide +kernel
theorem d_MD_fits_52 : decode b_MD_fits 52 = .ok (.getfield 29, 3) := by decide +kernel
theorem d_MD_fits_55 : decode b_MD_fits 55 = .ok (.iload 6, 2) := by decide +kernel
theorem d_MD_fits_57 : decode b_MD_fits 57 = .ok (.iaload, 1) := by decide +kernel
theorem d_MD_fits_58 : decode b_MD_fits 58 = .ok (.goto 10, 3) := by decide +kernel
theorem d_MD_fits_61 : decode b_MD_fits 61 = .ok (.aload_n 0, 1) := by decide +kernel
theorem d_MD_fits_62 : decode b_MD_fits 62 = .ok (.getfield 26, 3) := by decide +kernel
theorem d_MD_fits_65 : decode b_MD_fits 65 = .ok (.iload 6, 2) := by decide +kernel
theorem d_MD_fits_67 : decode b_MD_fits 67 = .ok (.iaload, 1) := by decide +kernel
theorem d_MD_fits_68 : decode b_MD_fits 68 = .ok (.iload_n 2, 1) := by decide +kernel
theorem d_MD_fits_69 : decode b_MD_fits 69 = .ok (.if_icmp .ne 5, 3) := by decide +kernel
theorem d_MD_fits_72 : decode b_MD_fits 72 = .ok (.iconst 0, 1) := by decide +kernel
theorem d_MD_fits_73 : decode b_MD_fits 73 = .ok (.ireturn, 1) := by decide +kernel
theorem d_MD_fits_74 : decode b_MD_fits 74 = .ok (.iinc 5 1, 3) := by decide +kernel
theorem d_MD_fits_77 : decode b_MD_fits 77 = .ok (.goto (-59), 3) := by decide +kernel
theorem d_MD_fits_80 : decode b_MD_fits 80 = .ok (.iconst 0, 1) := by decide +kernel
theorem d_MD_fits_81 : decode b_MD_fits 81 = .ok (.istore 5, 2) := by decide +kernel
theorem d_MD_fits_83 : decode b_MD_fits 83 = .ok (.iload 5, 2) := by decide +kernel
theorem d_MD_fits_85 : decode b_MD_fits 85 = .ok (.aload_n 0, 1) := by decide +kernel
theorem d_MD_fits_86 : decode b_MD_fits 86 = .ok (.getfield 46, 3) := by decide +kernel
theorem d_MD_fits_89 : decode b_MD_fits 89 = .ok (.if_icmp .ge 55, 3) := by decide +kernel
theorem d_MD_fits_92 : decode b_MD_fits 92 = .ok (.iload_n 3, 1) := by decide +kernel
theorem d_MD_fits_93 : decode b_MD_fits 93 = .ok (.aload_n 0, 1) := by decide +kernel
theorem d_MD_fits_94 : decode b_MD_fits 94 = .ok (.getfield 42, 3) := by decide +kernel
theorem d_MD_fits_97 : decode b_MD_fits 97 = .ok (.iload 5, 2) := by decide +kernel
theorem d_MD_fits_99 : decode b_MD_fits 99 = .ok (.imul, 1) := by decide +kernel
theorem d_MD_fits_100 : decode b_MD_fits 100 = .ok (.iadd, 1) := by decide +kernel
theorem d_MD_fits_101 : decode b_MD_fits 101 = .ok (.istore 6, 2) := by decide +kernel
theorem d_MD_fits_103 : decode b_MD_fits 103 = .ok (.iload 6, 2) := by decide +kernel
theorem d_MD_fits_105 : decode b_MD_fits 105 = .ok (.iload_n 1, 1) := by decide +kernel
theorem d_MD_fits_106 : decode b_MD_fits 106 = .ok (.if_icmp .eq 32, 3) := by decide +kernel
theorem d_MD_fits_109 : decode b_MD_fits 109 = .ok (.iload 6, 2) := by decide +kernel
theorem d_MD_fits_111 : decode b_MD_fits 111 = .ok (.iload_n 1, 1) := by decide +kernel
theorem d_MD_fits_112 : decode b_MD_fits 112 = .ok (.if_icmp .ge 13, 3) := by decide +kernel
theorem d_MD_fits_115 : decode b_MD_fits 115 = .ok (.aload_n 0, 1) := by decide +kernel
theorem d_MD_fits_116 : decode b_MD_fits 116 = .ok (.getfield 29, 3) := by decide +kernel
theorem d_MD_fits_119 : decode b_MD_fits 119 = .ok (.iload 6, 2) := by decide +kernel
theorem d_MD_fits_121 : decode b_MD_fits 121 = .ok (.iaload, 1) := by decide +kernel
theorem d_MD_fits_122 : decode b_MD_fits 122 = .ok (.goto 10, 3) := by decide +kernel
theorem d_MD_fits_125 : decode b_MD_fits 125 = .ok (.aload_n 0, 1) := by decide +kernel
theorem d_MD_fits_126 : decode b_MD_fits 126 = .ok (.getfield 26, 3) := by decide +kernel
theorem d_MD_fits_129 : decode b_MD_fits 129 = .ok (.iload 6, 2) := by decide +kernel
theorem d_MD_fits_131 : decode b_MD_fits 131 = .ok (.iaload, 1) := by decide +kernel
theorem d_MD_fits_132 : decode b_MD_fits 132 = .ok (.iload_n 2, 1) := by decide +kernel
theorem d_MD_fits_133 : decode b_MD_fits 133 = .ok (.if_icmp .ne 5, 3) := by decide +kernel
theorem d_MD_fits_136 : decode b_MD_fits 136 = .ok (.iconst 0, 1) := by decide +kernel
theorem d_MD_fits_137 : decode b_MD_fits 137 = .ok (.ireturn, 1) := by decide +kernel
theorem d_MD_fits_138 : decode b_MD_fits 138 = .ok (.iinc 5 1, 3) := by decide +kernel
theorem d_MD_fits_141 : decode b_MD_fits 141 = .ok (.goto (-58), 3) := by decide +kernel
theorem d_MD_fits_144 : decode b_MD_fits 144 = .ok (.aload_n 0, 1) := by decide +kernel
theorem d_MD_fits_145 : decode b_MD_fits 145 = .ok (.getfield 26, 3) := by decide +kernel
theorem d_MD_fits_148 : decode b_MD_fits 148 = .ok (.iload_n 1, 1) := by decide +kernel
theorem d_MD_fits_149 : decode b_MD_fits 149 = .ok (.iaload, 1) := by decide +kernel
theorem d_MD_fits_150 : decode b_MD_fits 150 = .ok (.ifCond .eq 13, 3) := by decide +kernel
theorem d_MD_fits_153 : decode b_MD_fits 153 = .ok (.aload_n 0, 1) := by decide +kernel
theorem d_MD_fits_154 : decode b_MD_fits 154 = .ok (.getfield 26, 3) := by decide +kernel
theorem d_MD_fits_157 : decode b_MD_fits 157 = .ok (.iload_n 1, 1) := by decide +kernel
theorem d_MD_fits_158 : decode b_MD_fits 158 = .ok (.iaload, 1) := by decide +kernel
theorem d_MD_fits_159 : decode b_MD_fits 159 = .ok (.iload_n 2, 1) := by decide +kernel
theorem d_MD_fits_160 : decode b_MD_fits 160 = .ok (.if_icmp .ne 7, 3) := by decide +kernel
theorem d_MD_fits_163 : decode b_MD_fits 163 = .ok (.iconst 1, 1) := by decide +kernel
theorem d_MD_fits_164 : decode b_MD_fits 164 = .ok (.goto 4, 3) := by decide +kernel
theorem d_MD_fits_167 : decode b_MD_fits 167 = .ok (.iconst 0, 1) := by decide +kernel
theorem d_MD_fits_168 : decode b_MD_fits 168 = .ok (.ireturn, 1) := by decide +kernel
theorem d_MD_number_0 : decode b_MD_number 0 = .ok (.aload_n 0, 1) := by decide +kernel
theorem d_MD_number_1 : decode b_MD_number 1 = .ok (.iconst 0, 1) := by decide +kernel
theorem d_MD_number_2 : decode b_MD_number 2 = .ok (.putfield 55, 3) := by decide +kernel
theorem d_MD_number_5 : decode b_MD_number 5 = .ok (.aload_n 0, 1) := by decide +kernel
theorem d_MD_number_6 : decode b_MD_number 6 = .ok (.iload_n 1, 1) := by decide +kernel
theorem d_MD_number_7 : decode b_MD_number 7 = .ok (.iload_n 2, 1) := by decide +kernel
theorem d_MD_number_8 : decode b_MD_number 8 = .ok (.invokevirtual 58, 3) := by decide +kernel
theorem d_MD_number_11 : decode b_MD_number 11 = .ok (.ifCond .ne 7, 3) := by decide +kernel
theorem d_MD_number_14 : decode b_MD_number 14 = .ok (.iconst (-1), 1) := by decide +kernel
theorem d_MD_number_15 : decode b_MD_number 15 = .ok (.goto 27, 3) := by decide +kernel
theorem d_MD_number_18 : decode b_MD_number 18 = .ok (.aload_n 0, 1) := by decide +kernel
theorem d_MD_number_19 : decode b_MD_number 19 = .ok (.getfield 102, 3) := by decide +kernel
theorem d_MD_number_22 : decode b_MD_number 22 = .ok (.ifCond .eq 19, 3) := by decide +kernel
theorem d_MD_number_25 : decode b_MD_number 25 = .ok (.aload_n 0, 1) := by decide +kernel
theorem d_MD_number_26 : decode b_MD_number 26 = .ok (.getfield 32, 3) := by decide +kernel
theorem d_MD_number_29 : decode b_MD_number 29 = .ok (.iload_n 1, 1) := by decide +kernel
theorem d_MD_number_30 : decode b_MD_number 30 = .ok (.aload_n 0, 1) := by decide +kernel
theorem d_MD_number_31 : decode b_MD_number 31 = .ok (.getfield 42, 3) := by decide +kernel
theorem d_MD_number_34 : decode b_MD_number 34 = .ok (.iload_n 2, 1) := by decide +kernel
theorem d_MD_number_35 : decode b_MD_number 35 = .ok (.imul, 1) := by decide +kernel
theorem d_MD_number_36 : decode b_MD_number 36 = .ok (.iadd, 1) := by decide +kernel
theorem d_MD_number_37 : decode b_MD_number 37 = .ok (.iaload, 1) := by decide +kernel
theorem d_MD_number_38 : decode b_MD_number 38 = .ok (.goto 4, 3) := by decide +kernel
theorem d_MD_number_41 : decode b_MD_number 41 = .ok (.iconst 0, 1) := by decide +kernel
theorem d_MD_number_42 : decode b_MD_number 42 = .ok (.ireturn, 1) := by decide +kernel
theorem d_MD_fills_0 : decode b_MD_fills 0 = .ok (.aload_n 0, 1) := by decide +kernel
theorem d_MD_fills_1 : decode b_MD_fills 1 = .ok (.iconst 0, 1) := by decide +kernel
theorem d_MD_fills_2 : decode b_MD_fills 2 = .ok (.putfield 55, 3) := by decide +kernel
theorem d_MD_fills_5 : decode b_MD_fills 5 = .ok (.iload_n 1, 1) := by decide +kernel
theorem d_MD_fills_6 : decode b_MD_fills 6 = .ok (.ifCond .lt 10, 3) := by decide +kernel
theorem d_MD_fills_9 : decode b_MD_fills 9 = .ok (.iload_n 1, 1) := by decide +kernel
theorem d_MD_fills_10 : decode b_MD_fills 10 = .ok (.sipush 1000, 3) := by decide +kernel
theorem d_MD_fills_13 : decode b_MD_fills 13 = .ok (.if_icmp .le 7, 3) := by decide +kernel
theorem d_MD_fills_16 : decode b_MD_fills 16 = .ok (.iconst (-1), 1) := by decide +kernel
theorem d_MD_fills_17 : decode b_MD_fills 17 = .ok (.goto 9, 3) := by decide +kernel
theorem d_MD_fills_20 : decode b_MD_fills 20 = .ok (.aload_n 0, 1) := by decide +kernel
theorem d_MD_fills_21 : decode b_MD_fills 21 = .ok (.iload_n 1, 1) := by decide +kernel
theorem d_MD_fills_22 : decode b_MD_fills 22 = .ok (.iconst 0, 1) := by decide +kernel
theorem d_MD_fills_23 : decode b_MD_fills 23 = .ok (.invokevirtual 122, 3) := by decide +kernel
theorem d_MD_fills_26 : decode b_MD_fills 26 = .ok (.ireturn, 1) := by decide +kernel
theorem d_MD_magic_0 : decode b_MD_magic 0 = .ok (.aload_n 0, 1) := by decide +kernel
theorem d_MD_magic_1 : decode b_MD_magic 1 = .ok (.iconst 0, 1) := by decide +kernel
theorem d_MD_magic_2 : decode b_MD_magic 2 = .ok (.putfield 55, 3) := by decide +kernel
theorem d_MD_magic_5 : decode b_MD_magic 5 = .ok (.iload_n 1, 1) := by decide +kernel
theorem d_MD_magic_6 : decode b_MD_magic 6 = .ok (.iconst 1, 1) := by decide +kernel
theorem d_MD_magic_7 : decode b_MD_magic 7 = .ok (.if_icmp .lt 33, 3) := by decide +kernel
theorem d_MD_magic_10 : decode b_MD_magic 10 = .ok (.iload_n 1, 1) := by decide +kernel
theorem d_MD_magic_11 : decode b_MD_magic 11 = .ok (.bipush 15, 2) := by decide +kernel
theorem d_MD_magic_13 : decode b_MD_magic 13 = .ok (.if_icmp .gt 27, 3) := by decide +kernel
theorem d_MD_magic_16 : decode b_MD_magic 16 = .ok (.iload_n 1, 1) := by decide +kernel
theorem d_MD_magic_17 : decode b_MD_magic 17 = .ok (.iconst 2, 1) := by decide +kernel
theorem d_MD_magic_18 : decode b_MD_magic 18 = .ok (.irem, 1) := by decide +kernel
theorem d_MD_magic_19 : decode b_MD_magic 19 = .ok (.ifCond .eq 21, 3) := by decide +kernel
theorem d_MD_magic_22 : decode b_MD_magic 22 = .ok (.iload_n 2, 1) := by decide +kernel
theorem d_MD_magic_23 : decode b_MD_magic 23 = .ok (.ifCond .lt 17, 3) := by decide +kernel
theorem d_MD_magic_26 : decode b_MD_magic 26 = .ok (.iload_n 2, 1) := by decide +kernel
theorem d_MD_magic_27 : decode b_MD_magic 27 = .ok (.iload_n 1, 1) := by decide +kernel
theorem d_MD_magic_28 : decode b_MD_magic 28 = .ok (.if_icmp .ge 12, 3) := by decide +kernel
theorem d_MD_magic_31 : decode b_MD_magic 31 = .ok (.iload_n 3, 1) := by decide +kernel
theorem d_MD_magic_32 : decode b_MD_magic 32 = .ok (.ifCond .lt 8, 3) := by decide +kernel
theorem d_MD_magic_35 : decode b_MD_magic 35 = .ok (.iload_n 3, 1) := by decide +kernel
theorem d_MD_magic_36 : decode b_MD_magic 36 = .ok (.iload_n 1, 1) := by decide +kernel
theorem d_MD_magic_37 : decode b_MD_magic 37 = .ok (.if_icmp .lt 5, 3) := by decide +kernel
theorem d_MD_magic_40 : decode b_MD_magic 40 = .ok (.iconst (-1), 1) := by decide +kernel
theorem d_MD_magic_41 : decode b_MD_magic 41 = .ok (.ireturn, 1) := by decide +kernel
theorem d_MD_magic_42 : decode b_MD_magic 42 = .ok (.iload_n 1, 1) := by decide +kernel
theorem d_MD_magic_43 : decode b_MD_magic 43 = .ok (.iconst 2, 1) := by decide +kernel
theorem d_MD_magic_44 : decode b_MD_magic 44 = .ok (.idiv, 1) := by decide +kernel
theorem d_MD_magic_45 : decode b_MD_magic 45 = .ok (.istore 4, 2) := by decide +kernel
theorem d_MD_magic_47 : decode b_MD_magic 47 = .ok (.iconst 0, 1) := by decide +kernel
theorem d_MD_magic_48 : decode b_MD_magic 48 = .ok (.istore 5, 2) := by decide +kernel
theorem d_MD_magic_50 : decode b_MD_magic 50 = .ok (.iconst 1, 1) := by decide +kernel
theorem d_MD_magic_51 : decode b_MD_magic 51 = .ok (.istore 6, 2) := by decide +kernel
theorem d_MD_magic_53 : decode b_MD_magic 53 = .ok (.iload 4, 2) := by decide +kernel
theorem d_MD_magic_55 : decode b_MD_magic 55 = .ok (.iload_n 2, 1) := by decide +kernel
theorem d_MD_magic_56 : decode b_MD_magic 56 = .ok (.if_icmp .ne 9, 3) := by decide +kernel
theorem d_MD_magic_59 : decode b_MD_magic 59 = .ok (.iload 5, 2) := by decide +kernel
theorem d_MD_magic_61 : decode b_MD_magic 61 = .ok (.iload_n 3, 1) := by decide +kernel
theorem d_MD_magic_62 : decode b_MD_magic 62 = .ok (.if_icmp .eq 45, 3) := by decide +kernel
theorem d_MD_magic_65 : decode b_MD_magic 65 = .ok (.iload 6, 2) := by decide +kernel
theorem d_MD_magic_67 : decode b_MD_magic 67 = .ok (.iload_n 1, 1) := by decide +kernel
theorem d_MD_magic_68 : decode b_MD_magic 68 = .ok (.irem, 1) := by decide +kernel
theorem d_MD_magic_69 : decode b_MD_magic 69 = .ok (.ifCond .ne 14, 3) := by decide +kernel
theorem d_MD_magic_72 : decode b_MD_magic 72 = .ok (.iload 5, 2) := by decide +kernel
theorem d_MD_magic_74 : decode b_MD_magic 74 = .ok (.iconst 1, 1) := by decide +kernel
theorem d_MD_magic_75 : decode b_MD_magic 75 = .ok (.iadd, 1) := by decide +kernel
theorem d_MD_magic_76 : decode b_MD_magic 76 = .ok (.iload_n 1, 1) := by decide +kernel
theorem d_MD_magic_77 : decode b_MD_magic 77 = .ok (.irem, 1) := by decide +kernel
theorem d_MD_magic_78 : decode b_MD_magic 78 = .ok (.istore 5, 2) := by decide +kernel
theorem d_MD_magic_80 : decode b_MD_magic 80 = .ok (.goto 21, 3) := by decide +kernel
theorem d_MD_magic_83 : decode b_MD_magic 83 = .ok (.iload 4, 2) := by decide +kernel
theorem d_MD_magic_85 : decode b_MD_magic 85 = .ok (.iconst 1, 1) := by decide +kernel
theorem d_MD_magic_86 : decode b_MD_magic 86 = .ok (.iadd, 1) := by decide +kernel
theorem d_MD_magic_87 : decode b_MD_magic 87 = .ok (.iload_n 1, 1) := by decide +kernel
theorem d_MD_magic_88 : decode b_MD_magic 88 = .ok (.irem, 1) := by decide +kernel
theorem d_MD_magic_89 : decode b_MD_magic 89 = .ok (.istore 4, 2) := by decide +kernel
theorem d_MD_magic_91 : decode b_MD_magic 91 = .ok (.iload 5, 2) := by decide +kernel
theorem d_MD_magic_93 : decode b_MD_magic 93 = .ok (.iload_n 1, 1) := by decide +kernel
theorem d_MD_magic_94 : decode b_MD_magic 94 = .ok (.iadd, 1) := by decide +kernel
theorem d_MD_magic_95 : decode b_MD_magic 95 = .ok (.iconst 1, 1) := by decide +kernel
theorem d_MD_magic_96 : decode b_MD_magic 96 = .ok (.isub, 1) := by decide +kernel
theorem d_MD_magic_97 : decode b_MD_magic 97 = .ok (.iload_n 1, 1) := by decide +kernel
theorem d_MD_magic_98 : decode b_MD_magic 98 = .ok (.irem, 1) := by decide +kernel
theorem d_MD_magic_99 : decode b_MD_magic 99 = .ok (.istore 5, 2) := by decide +kernel
theorem d_MD_magic_101 : decode b_MD_magic 101 = .ok (.iinc 6 1, 3) := by decide +kernel
theorem d_MD_magic_104 : decode b_MD_magic 104 = .ok (.goto (-51), 3) := by decide +kernel
theorem d_MD_magic_107 : decode b_MD_magic 107 = .ok (.iload 6, 2) := by decide +kernel
theorem d_MD_magic_109 : decode b_MD_magic 109 = .ok (.ireturn, 1) := by decide +kernel
theorem d_law_0 : decode code 0 = .ok (.new 7, 3) := by decide +kernel
theorem d_law_3 : decode code 3 = .ok (.dup, 1) := by decide +kernel
theorem d_law_4 : decode code 4 = .ok (.aload_n 0, 1) := by decide +kernel
theorem d_law_5 : decode code 5 = .ok (.iconst 0, 1) := by decide +kernel
theorem d_law_6 : decode code 6 = .ok (.invokestatic 9, 3) := by decide +kernel
theorem d_law_9 : decode code 9 = .ok (.aload_n 0, 1) := by decide +kernel
theorem d_law_10 : decode code 10 = .ok (.iconst 1, 1) := by decide +kernel
theorem d_law_11 : decode code 11 = .ok (.invokestatic 9, 3) := by decide +kernel
theorem d_law_14 : decode code 14 = .ok (.invokespecial 15, 3) := by decide +kernel
theorem d_law_17 : decode code 17 = .ok (.astore_n 1, 1) := by decide +kernel
theorem d_law_18 : decode code 18 = .ok (.new 18, 3) := by decide +kernel
theorem d_law_21 : decode code 21 = .ok (.dup, 1) := by decide +kernel
theorem d_law_22 : decode code 22 = .ok (.aload_n 0, 1) := by decide +kernel
theorem d_law_23 : decode code 23 = .ok (.iconst 0, 1) := by decide +kernel
theorem d_law_24 : decode code 24 = .ok (.invokestatic 9, 3) := by decide +kernel
theorem d_law_27 : decode code 27 = .ok (.aload_n 0, 1) := by decide +kernel
theorem d_law_28 : decode code 28 = .ok (.iconst 1, 1) := by decide +kernel
theorem d_law_29 : decode code 29 = .ok (.invokestatic 9, 3) := by decide +kernel
theorem d_law_32 : decode code 32 = .ok (.invokespecial 20, 3) := by decide +kernel
theorem d_law_35 : decode code 35 = .ok (.astore_n 2, 1) := by decide +kernel
theorem d_law_36 : decode code 36 = .ok (.iconst 2, 1) := by decide +kernel
theorem d_law_37 : decode code 37 = .ok (.istore_n 3, 1) := by decide +kernel
theorem d_law_38 : decode code 38 = .ok (.iload_n 3, 1) := by decide +kernel
theorem d_law_39 : decode code 39 = .ok (.aload_n 0, 1) := by decide +kernel
theorem d_law_40 : decode code 40 = .ok (.arraylength, 1) := by decide +kernel
theorem d_law_41 : decode code 41 = .ok (.iconst 4, 1) := by decide +kernel
theorem d_law_42 : decode code 42 = .ok (.isub, 1) := by decide +kernel
theorem d_law_43 : decode code 43 = .ok (.if_icmp .gt 504, 3) := by decide +kernel
theorem d_law_46 : decode code 46 = .ok (.aload_n 0, 1) := by decide +kernel
theorem d_law_47 : decode code 47 = .ok (.iload_n 3, 1) := by decide +kernel
theorem d_law_48 : decode code 48 = .ok (.iaload, 1) := by decide +kernel
theorem d_law_49 : decode code 49 = .ok (.bipush 15, 2) := by decide +kernel
theorem d_law_51 : decode code 51 = .ok (.iand, 1) := by decide +kernel
theorem d_law_52 : decode code 52 = .ok (.tableswitch 489 0 12 #[68, 127, 160, 219, 242, 255, 288, 301, 334, 377, 390, 423, 446], 68) := by decide +kernel
theorem d_law_120 : decode code 120 = .ok (.aload_n 1, 1) := by decide +kernel
theorem d_law_121 : decode code 121 = .ok (.aload_n 0, 1) := by decide +kernel
theorem d_law_122 : decode code 122 = .ok (.iload_n 3, 1) := by decide +kernel
theorem d_law_123 : decode code 123 = .ok (.iconst 1, 1) := by decide +kernel
theorem d_law_124 : decode code 124 = .ok (.iadd, 1) := by decide +kernel
theorem d_law_125 : decode code 125 = .ok (.iaload, 1) := by decide +kernel
theorem d_law_126 : decode code 126 = .ok (.aload_n 0, 1) := by decide +kernel
theorem d_law_127 : decode code 127 = .ok (.iload_n 3, 1) := by decide +kernel
theorem d_law_128 : decode code 128 = .ok (.iconst 2, 1) := by decide +kernel
theorem d_law_129 : decode code 129 = .ok (.iadd, 1) := by decide +kernel
theorem d_law_130 : decode code 130 = .ok (.iaload, 1) := by decide +kernel
theorem d_law_131 : decode code 131 = .ok (.aload_n 0, 1) := by decide +kernel
theorem d_law_132 : decode code 132 = .ok (.iload_n 3, 1) := by decide +kernel
theorem d_law_133 : decode code 133 = .ok (.iconst 3, 1) := by decide +kernel
theorem d_law_134 : decode code 134 = .ok (.iadd, 1) := by decide +kernel
theorem d_law_135 : decode code 135 = .ok (.iaload, 1) := by decide +kernel
theorem d_law_136 : decode code 136 = .ok (.ifCond .eq 7, 3) := by decide +kernel
theorem d_law_139 : decode code 139 = .ok (.iconst 1, 1) := by decide +kernel
theorem d_law_140 : decode code 140 = .ok (.goto 4, 3) := by decide +kernel
theorem d_law_143 : decode code 143 = .ok (.iconst 0, 1) := by decide +kernel
theorem d_law_144 : decode code 144 = .ok (.invokevirtual 21, 3) := by decide +kernel
theorem d_law_147 : decode code 147 = .ok (.aload_n 2, 1) := by decide +kernel
theorem d_law_148 : decode code 148 = .ok (.aload_n 0, 1) := by decide +kernel
theorem d_law_149 : decode code 149 = .ok (.iload_n 3, 1) := by decide +kernel
theorem d_law_150 : decode code 150 = .ok (.iconst 1, 1) := by decide +kernel
theorem d_law_151 : decode code 151 = .ok (.iadd, 1) := by decide +kernel
theorem d_law_152 : decode code 152 = .ok (.iaload, 1) := by decide +kernel
theorem d_law_153 : decode code 153 = .ok (.aload_n 0, 1) := by decide +kernel
theorem d_law_154 : decode code 154 = .ok (.iload_n 3, 1) := by decide +kernel
theorem d_law_155 : decode code 155 = .ok (.iconst 2, 1) := by decide +kernel
theorem d_law_156 : decode code 156 = .ok (.iadd, 1) := by decide +kernel
theorem d_law_157 : decode code 157 = .ok (.iaload, 1) := by decide +kernel
theorem d_law_158 : decode code 158 = .ok (.aload_n 0, 1) := by decide +kernel
theorem d_law_159 : decode code 159 = .ok (.iload_n 3, 1) := by decide +kernel
theorem d_law_160 : decode code 160 = .ok (.iconst 3, 1) := by decide +kernel
theorem d_law_161 : decode code 161 = .ok (.iadd, 1) := by decide +kernel
theorem d_law_162 : decode code 162 = .ok (.iaload, 1) := by decide +kernel
theorem d_law_163 : decode code 163 = .ok (.ifCond .eq 7, 3) := by decide +kernel
theorem d_law_166 : decode code 166 = .ok (.iconst 1, 1) := by decide +kernel
theorem d_law_167 : decode code 167 = .ok (.goto 4, 3) := by decide +kernel
theorem d_law_170 : decode code 170 = .ok (.iconst 0, 1) := by decide +kernel
theorem d_law_171 : decode code 171 = .ok (.invokevirtual 25, 3) := by decide +kernel
theorem d_law_174 : decode code 174 = .ok (.if_icmp .eq 367, 3) := by decide +kernel
theorem d_law_177 : decode code 177 = .ok (.iconst 0, 1) := by decide +kernel
theorem d_law_178 : decode code 178 = .ok (.ireturn, 1) := by decide +kernel
theorem d_law_179 : decode code 179 = .ok (.aload_n 1, 1) := by decide +kernel
theorem d_law_180 : decode code 180 = .ok (.aload_n 0, 1) := by decide +kernel
theorem d_law_181 : decode code 181 = .ok (.iload_n 3, 1) := by decide +kernel
theorem d_law_182 : decode code 182 = .ok (.iconst 1, 1) := by decide +kernel
theorem d_law_183 : decode code 183 = .ok (.iadd, 1) := by decide +kernel
theorem d_law_184 : decode code 184 = .ok (.iaload, 1) := by decide +kernel
theorem d_law_185 : decode code 185 = .ok (.aload_n 0, 1) := by decide +kernel
theorem d_law_186 : decode code 186 = .ok (.iload_n 3, 1) := by decide +kernel
theorem d_law_187 : decode code 187 = .ok (.iconst 2, 1) := by decide +kernel
theorem d_law_188 : decode code 188 = .ok (.iadd, 1) := by decide +kernel
theorem d_law_189 : decode code 189 = .ok (.iaload, 1) := by decide +kernel
theorem d_law_190 : decode code 190 = .ok (.invokevirtual 26, 3) := by decide +kernel
theorem d_law_193 : decode code 193 = .ok (.aload_n 2, 1) := by decide +kernel
theorem d_law_194 : decode code 194 = .ok (.aload_n 0, 1) := by decide +kernel
theorem d_law_195 : decode code 195 = .ok (.iload_n 3, 1) := by decide +kernel
theorem d_law_196 : decode code 196 = .ok (.iconst 1, 1) := by decide +kernel
theorem d_law_197 : decode code 197 = .ok (.iadd, 1) := by decide +kernel
theorem d_law_198 : decode code 198 = .ok (.iaload, 1) := by decide +kernel
theorem d_law_199 : decode code 199 = .ok (.aload_n 0, 1) := by decide +kernel
theorem d_law_200 : decode code 200 = .ok (.iload_n 3, 1) := by decide +kernel
theorem d_law_201 : decode code 201 = .ok (.iconst 2, 1) := by decide +kernel
theorem d_law_202 : decode code 202 = .ok (.iadd, 1) := by decide +kernel
theorem d_law_203 : decode code 203 = .ok (.iaload, 1) := by decide +kernel
theorem d_law_204 : decode code 204 = .ok (.invokevirtual 30, 3) := by decide +kernel
theorem d_law_207 : decode code 207 = .ok (.if_icmp .eq 334, 3) := by decide +kernel
theorem d_law_210 : decode code 210 = .ok (.iconst 0, 1) := by decide +kernel
theorem d_law_211 : decode code 211 = .ok (.ireturn, 1) := by decide +kernel
theorem d_law_212 : decode code 212 = .ok (.aload_n 1, 1) := by decide +kernel
theorem d_law_213 : decode code 213 = .ok (.aload_n 0, 1) := by decide +kernel
theorem d_law_214 : decode code 214 = .ok (.iload_n 3, 1) := by decide +kernel
theorem d_law_215 : decode code 215 = .ok (.iconst 1, 1) := by decide +kernel
theorem d_law_216 : decode code 216 = .ok (.iadd, 1) := by decide +kernel
theorem d_law_217 : decode code 217 = .ok (.iaload, 1) := by decide +kernel
theorem d_law_218 : decode code 218 = .ok (.aload_n 0, 1) := by decide +kernel
theorem d_law_219 : decode code 219 = .ok (.iload_n 3, 1) := by decide +kernel
theorem d_law_220 : decode code 220 = .ok (.iconst 2, 1) := by decide +kernel
theorem d_law_221 : decode code 221 = .ok (.iadd, 1) := by decide +kernel
theorem d_law_222 : decode code 222 = .ok (.iaload, 1) := by decide +kernel
theorem d_law_223 : decode code 223 = .ok (.ifCond .eq 7, 3) := by decide +kernel
theorem d_law_226 : decode code 226 = .ok (.iconst 1, 1) := by decide +kernel
theorem d_law_227 : decode code 227 = .ok (.goto 4, 3) := by decide +kernel
theorem d_law_230 : decode code 230 = .ok (.iconst 0, 1) := by decide +kernel
theorem d_law_231 : decode code 231 = .ok (.aload_n 0, 1) := by decide +kernel
theorem d_law_232 : decode code 232 = .ok (.iload_n 3, 1) := by decide +kernel
theorem d_law_233 : decode code 233 = .ok (.iconst 3, 1) := by decide +kernel
theorem d_law_234 : decode code 234 = .ok (.iadd, 1) := by decide +kernel
theorem d_law_235 : decode code 235 = .ok (.iaload, 1) := by decide +kernel
theorem d_law_236 : decode code 236 = .ok (.invokevirtual 31, 3) := by decide +kernel
theorem d_law_239 : decode code 239 = .ok (.aload_n 2, 1) := by decide +kernel
theorem d_law_240 : decode code 240 = .ok (.aload_n 0, 1) := by decide +kernel
theorem d_law_241 : decode code 241 = .ok (.iload_n 3, 1) := by decide +kernel
theorem d_law_242 : decode code 242 = .ok (.iconst 1, 1) := by decide +kernel
theorem d_law_243 : decode code 243 = .ok (.iadd, 1) := by decide +kernel
theorem d_law_244 : decode code 244 = .ok (.iaload, 1) := by decide +kernel
theorem d_law_245 : decode code 245 = .ok (.aload_n 0, 1) := by decide +kernel
theorem d_law_246 : decode code 246 = .ok (.iload_n 3, 1) := by decide +kernel
theorem d_law_247 : decode code 247 = .ok (.iconst 2, 1) := by decide +kernel
theorem d_law_248 : decode code 248 = .ok (.iadd, 1) := by decide +kernel
theorem d_law_249 : decode code 249 = .ok (.iaload, 1) := by decide +kernel
theorem d_law_250 : decode code 250 = .ok (.ifCond .eq 7, 3) := by decide +kernel
theorem d_law_253 : decode code 253 = .ok (.iconst 1, 1) := by decide +kernel
theorem d_law_254 : decode code 254 = .ok (.goto 4, 3) := by decide +kernel
theorem d_law_257 : decode code 257 = .ok (.iconst 0, 1) := by decide +kernel
theorem d_law_258 : decode code 258 = .ok (.aload_n 0, 1) := by decide +kernel
theorem d_law_259 : decode code 259 = .ok (.iload_n 3, 1) := by decide +kernel
theorem d_law_260 : decode code 260 = .ok (.iconst 3, 1) := by decide +kernel
theorem d_law_261 : decode code 261 = .ok (.iadd, 1) := by decide +kernel
theorem d_law_262 : decode code 262 = .ok (.iaload, 1) := by decide +kernel
theorem d_law_263 : decode code 263 = .ok (.invokevirtual 35, 3) := by decide +kernel
theorem d_law_266 : decode code 266 = .ok (.if_icmp .eq 275, 3) := by decide +kernel
theorem d_law_269 : decode code 269 = .ok (.iconst 0, 1) := by decide +kernel
theorem d_law_270 : decode code 270 = .ok (.ireturn, 1) := by decide +kernel
theorem d_law_271 : decode code 271 = .ok (.aload_n 1, 1) := by decide +kernel
theorem d_law_272 : decode code 272 = .ok (.aload_n 0, 1) := by decide +kernel
theorem d_law_273 : decode code 273 = .ok (.iload_n 3, 1) := by decide +kernel
theorem d_law_274 : decode code 274 = .ok (.iconst 1, 1) := by decide +kernel
theorem d_law_275 : decode code 275 = .ok (.iadd, 1) := by decide +kernel
theorem d_law_276 : decode code 276 = .ok (.iaload, 1) := by decide +kernel
theorem d_law_277 : decode code 277 = .ok (.invokevirtual 36, 3) := by decide +kernel
theorem d_law_280 : decode code 280 = .ok (.aload_n 2, 1) := by decide +kernel
theorem d_law_281 : decode code 281 = .ok (.aload_n 0, 1) := by decide +kernel
theorem d_law_282 : decode code 282 = .ok (.iload_n 3, 1) := by decide +kernel
theorem d_law_283 : decode code 283 = .ok (.iconst 1, 1) := by decide +kernel
theorem d_law_284 : decode code 284 = .ok (.iadd, 1) := by decide +kernel
theorem d_law_285 : decode code 285 = .ok (.iaload, 1) := by decide +kernel
theorem d_law_286 : decode code 286 = .ok (.invokevirtual 40, 3) := by decide +kernel
theorem d_law_289 : decode code 289 = .ok (.if_icmp .eq 252, 3) := by decide +kernel
theorem d_law_292 : decode code 292 = .ok (.iconst 0, 1) := by decide +kernel
theorem d_law_293 : decode code 293 = .ok (.ireturn, 1) := by decide +kernel
theorem d_law_294 : decode code 294 = .ok (.aload_n 1, 1) := by decide +kernel
theorem d_law_295 : decode code 295 = .ok (.invokevirtual 41, 3) := by decide +kernel
theorem d_law_298 : decode code 298 = .ok (.aload_n 2, 1) := by decide +kernel
theorem d_law_299 : decode code 299 = .ok (.invokevirtual 45, 3) := by decide +kernel
theorem d_law_302 : decode code 302 = .ok (.if_icmp .eq 239, 3) := by decide +kernel
theorem d_law_305 : decode code 305 = .ok (.iconst 0, 1) := by decide +kernel
theorem d_law_306 : decode code 306 = .ok (.ireturn, 1) := by decide +kernel
theorem d_law_307 : decode code 307 = .ok (.aload_n 1, 1) := by decide +kernel
theorem d_law_308 : decode code 308 = .ok (.aload_n 0, 1) := by decide +kernel
theorem d_law_309 : decode code 309 = .ok (.iload_n 3, 1) := by decide +kernel
theorem d_law_310 : decode code 310 = .ok (.iconst 1, 1) := by decide +kernel
theorem d_law_311 : decode code 311 = .ok (.iadd, 1) := by decide +kernel
theorem d_law_312 : decode code 312 = .ok (.iaload, 1) := by decide +kernel
theorem d_law_313 : decode code 313 = .ok (.aload_n 0, 1) := by decide +kernel
theorem d_law_314 : decode code 314 = .ok (.iload_n 3, 1) := by decide +kernel
theorem d_law_315 : decode code 315 = .ok (.iconst 2, 1) := by decide +kernel
theorem d_law_316 : decode code 316 = .ok (.iadd, 1) := by decide +kernel
theorem d_law_317 : decode code 317 = .ok (.iaload, 1) := by decide +kernel
theorem d_law_318 : decode code 318 = .ok (.invokevirtual 46, 3) := by decide +kernel
theorem d_law_321 : decode code 321 = .ok (.aload_n 2, 1) := by decide +kernel
theorem d_law_322 : decode code 322 = .ok (.aload_n 0, 1) := by decide +kernel
theorem d_law_323 : decode code 323 = .ok (.iload_n 3, 1) := by decide +kernel
theorem d_law_324 : decode code 324 = .ok (.iconst 1, 1) := by decide +kernel
theorem d_law_325 : decode code 325 = .ok (.iadd, 1) := by decide +kernel
theorem d_law_326 : decode code 326 = .ok (.iaload, 1) := by decide +kernel
theorem d_law_327 : decode code 327 = .ok (.aload_n 0, 1) := by decide +kernel
theorem d_law_328 : decode code 328 = .ok (.iload_n 3, 1) := by decide +kernel
theorem d_law_329 : decode code 329 = .ok (.iconst 2, 1) := by decide +kernel
theorem d_law_330 : decode code 330 = .ok (.iadd, 1) := by decide +kernel
theorem d_law_331 : decode code 331 = .ok (.iaload, 1) := by decide +kernel
theorem d_law_332 : decode code 332 = .ok (.invokevirtual 50, 3) := by decide +kernel
theorem d_law_335 : decode code 335 = .ok (.if_icmp .eq 206, 3) := by decide +kernel
theorem d_law_338 : decode code 338 = .ok (.iconst 0, 1) := by decide +kernel
theorem d_law_339 : decode code 339 = .ok (.ireturn, 1) := by decide +kernel
theorem d_law_340 : decode code 340 = .ok (.aload_n 1, 1) := by decide +kernel
theorem d_law_341 : decode code 341 = .ok (.invokevirtual 51, 3) := by decide +kernel
theorem d_law_344 : decode code 344 = .ok (.aload_n 2, 1) := by decide +kernel
theorem d_law_345 : decode code 345 = .ok (.invokevirtual 54, 3) := by decide +kernel
theorem d_law_348 : decode code 348 = .ok (.if_icmp .eq 193, 3) := by decide +kernel
theorem d_law_351 : decode code 351 = .ok (.iconst 0, 1) := by decide +kernel
theorem d_law_352 : decode code 352 = .ok (.ireturn, 1) := by decide +kernel
theorem d_law_353 : decode code 353 = .ok (.aload_n 1, 1) := by decide +kernel
theorem d_law_354 : decode code 354 = .ok (.aload_n 0, 1) := by decide +kernel
theorem d_law_355 : decode code 355 = .ok (.iload_n 3, 1) := by decide +kernel
theorem d_law_356 : decode code 356 = .ok (.iconst 1, 1) := by decide +kernel
theorem d_law_357 : decode code 357 = .ok (.iadd, 1) := by decide +kernel
theorem d_law_358 : decode code 358 = .ok (.iaload, 1) := by decide +kernel
theorem d_law_359 : decode code 359 = .ok (.aload_n 0, 1) := by decide +kernel
theorem d_law_360 : decode code 360 = .ok (.iload_n 3, 1) := by decide +kernel
theorem d_law_361 : decode code 361 = .ok (.iconst 2, 1) := by decide +kernel
theorem d_law_362 : decode code 362 = .ok (.iadd, 1) := by decide +kernel
theorem d_law_363 : decode code 363 = .ok (.iaload, 1) := by decide +kernel
theorem d_law_364 : decode code 364 = .ok (.invokevirtual 55, 3) := by decide +kernel
theorem d_law_367 : decode code 367 = .ok (.aload_n 2, 1) := by decide +kernel
theorem d_law_368 : decode code 368 = .ok (.aload_n 0, 1) := by decide +kernel
theorem d_law_369 : decode code 369 = .ok (.iload_n 3, 1) := by decide +kernel
theorem d_law_370 : decode code 370 = .ok (.iconst 1, 1) := by decide +kernel
theorem d_law_371 : decode code 371 = .ok (.iadd, 1) := by decide +kernel
theorem d_law_372 : decode code 372 = .ok (.iaload, 1) := by decide +kernel
theorem d_law_373 : decode code 373 = .ok (.aload_n 0, 1) := by decide +kernel
theorem d_law_374 : decode code 374 = .ok (.iload_n 3, 1) := by decide +kernel
theorem d_law_375 : decode code 375 = .ok (.iconst 2, 1) := by decide +kernel
theorem d_law_376 : decode code 376 = .ok (.iadd, 1) := by decide +kernel
theorem d_law_377 : decode code 377 = .ok (.iaload, 1) := by decide +kernel
theorem d_law_378 : decode code 378 = .ok (.invokevirtual 58, 3) := by decide +kernel
theorem d_law_381 : decode code 381 = .ok (.if_icmp .eq 160, 3) := by decide +kernel
theorem d_law_384 : decode code 384 = .ok (.iconst 0, 1) := by decide +kernel
theorem d_law_385 : decode code 385 = .ok (.ireturn, 1) := by decide +kernel
theorem d_law_386 : decode code 386 = .ok (.aload_n 1, 1) := by decide +kernel
theorem d_law_387 : decode code 387 = .ok (.aload_n 0, 1) := by decide +kernel
theorem d_law_388 : decode code 388 = .ok (.iload_n 3, 1) := by decide +kernel
theorem d_law_389 : decode code 389 = .ok (.iconst 1, 1) := by decide +kernel
theorem d_law_390 : decode code 390 = .ok (.iadd, 1) := by decide +kernel
theorem d_law_391 : decode code 391 = .ok (.iaload, 1) := by decide +kernel
theorem d_law_392 : decode code 392 = .ok (.aload_n 0, 1) := by decide +kernel
theorem d_law_393 : decode code 393 = .ok (.iload_n 3, 1) := by decide +kernel
theorem d_law_394 : decode code 394 = .ok (.iconst 2, 1) := by decide +kernel
theorem d_law_395 : decode code 395 = .ok (.iadd, 1) := by decide +kernel
theorem d_law_396 : decode code 396 = .ok (.iaload, 1) := by decide +kernel
theorem d_law_397 : decode code 397 = .ok (.aload_n 0, 1) := by decide +kernel
theorem d_law_398 : decode code 398 = .ok (.iload_n 3, 1) := by decide +kernel
theorem d_law_399 : decode code 399 = .ok (.iconst 3, 1) := by decide +kernel
theorem d_law_400 : decode code 400 = .ok (.iadd, 1) := by decide +kernel
theorem d_law_401 : decode code 401 = .ok (.iaload, 1) := by decide +kernel
theorem d_law_402 : decode code 402 = .ok (.invokevirtual 59, 3) := by decide +kernel
theorem d_law_405 : decode code 405 = .ok (.aload_n 2, 1) := by decide +kernel
theorem d_law_406 : decode code 406 = .ok (.aload_n 0, 1) := by decide +kernel
theorem d_law_407 : decode code 407 = .ok (.iload_n 3, 1) := by decide +kernel
theorem d_law_408 : decode code 408 = .ok (.iconst 1, 1) := by decide +kernel
theorem d_law_409 : decode code 409 = .ok (.iadd, 1) := by decide +kernel
theorem d_law_410 : decode code 410 = .ok (.iaload, 1) := by decide +kernel
theorem d_law_411 : decode code 411 = .ok (.aload_n 0, 1) := by decide +kernel
theorem d_law_412 : decode code 412 = .ok (.iload_n 3, 1) := by decide +kernel
theorem d_law_413 : decode code 413 = .ok (.iconst 2, 1) := by decide +kernel
theorem d_law_414 : decode code 414 = .ok (.iadd, 1) := by decide +kernel
theorem d_law_415 : decode code 415 = .ok (.iaload, 1) := by decide +kernel
theorem d_law_416 : decode code 416 = .ok (.aload_n 0, 1) := by decide +kernel
theorem d_law_417 : decode code 417 = .ok (.iload_n 3, 1) := by decide +kernel
theorem d_law_418 : decode code 418 = .ok (.iconst 3, 1) := by decide +kernel
theorem d_law_419 : decode code 419 = .ok (.iadd, 1) := by decide +kernel
theorem d_law_420 : decode code 420 = .ok (.iaload, 1) := by decide +kernel
theorem d_law_421 : decode code 421 = .ok (.invokevirtual 63, 3) := by decide +kernel
theorem d_law_424 : decode code 424 = .ok (.if_icmp .eq 117, 3) := by decide +kernel
theorem d_law_427 : decode code 427 = .ok (.iconst 0, 1) := by decide +kernel
theorem d_law_428 : decode code 428 = .ok (.ireturn, 1) := by decide +kernel
theorem d_law_429 : decode code 429 = .ok (.aload_n 1, 1) := by decide +kernel
theorem d_law_430 : decode code 430 = .ok (.invokevirtual 64, 3) := by decide +kernel
theorem d_law_433 : decode code 433 = .ok (.aload_n 2, 1) := by decide +kernel
theorem d_law_434 : decode code 434 = .ok (.invokevirtual 68, 3) := by decide +kernel
theorem d_law_437 : decode code 437 = .ok (.if_icmp .eq 104, 3) := by decide +kernel
theorem d_law_440 : decode code 440 = .ok (.iconst 0, 1) := by decide +kernel
theorem d_law_441 : decode code 441 = .ok (.ireturn, 1) := by decide +kernel
theorem d_law_442 : decode code 442 = .ok (.aload_n 1, 1) := by decide +kernel
theorem d_law_443 : decode code 443 = .ok (.aload_n 0, 1) := by decide +kernel
theorem d_law_444 : decode code 444 = .ok (.iload_n 3, 1) := by decide +kernel
theorem d_law_445 : decode code 445 = .ok (.iconst 1, 1) := by decide +kernel
theorem d_law_446 : decode code 446 = .ok (.iadd, 1) := by decide +kernel
theorem d_law_447 : decode code 447 = .ok (.iaload, 1) := by decide +kernel
theorem d_law_448 : decode code 448 = .ok (.aload_n 0, 1) := by decide +kernel
theorem d_law_449 : decode code 449 = .ok (.iload_n 3, 1) := by decide +kernel
theorem d_law_450 : decode code 450 = .ok (.iconst 2, 1) := by decide +kernel
theorem d_law_451 : decode code 451 = .ok (.iadd, 1) := by decide +kernel
theorem d_law_452 : decode code 452 = .ok (.iaload, 1) := by decide +kernel
theorem d_law_453 : decode code 453 = .ok (.invokevirtual 69, 3) := by decide +kernel
theorem d_law_456 : decode code 456 = .ok (.aload_n 2, 1) := by decide +kernel
theorem d_law_457 : decode code 457 = .ok (.aload_n 0, 1) := by decide +kernel
theorem d_law_458 : decode code 458 = .ok (.iload_n 3, 1) := by decide +kernel
theorem d_law_459 : decode code 459 = .ok (.iconst 1, 1) := by decide +kernel
theorem d_law_460 : decode code 460 = .ok (.iadd, 1) := by decide +kernel
theorem d_law_461 : decode code 461 = .ok (.iaload, 1) := by decide +kernel
theorem d_law_462 : decode code 462 = .ok (.aload_n 0, 1) := by decide +kernel
theorem d_law_463 : decode code 463 = .ok (.iload_n 3, 1) := by decide +kernel
theorem d_law_464 : decode code 464 = .ok (.iconst 2, 1) := by decide +kernel
theorem d_law_465 : decode code 465 = .ok (.iadd, 1) := by decide +kernel
theorem d_law_466 : decode code 466 = .ok (.iaload, 1) := by decide +kernel
theorem d_law_467 : decode code 467 = .ok (.invokevirtual 72, 3) := by decide +kernel
theorem d_law_470 : decode code 470 = .ok (.if_icmp .eq 71, 3) := by decide +kernel
theorem d_law_473 : decode code 473 = .ok (.iconst 0, 1) := by decide +kernel
theorem d_law_474 : decode code 474 = .ok (.ireturn, 1) := by decide +kernel
theorem d_law_475 : decode code 475 = .ok (.aload_n 1, 1) := by decide +kernel
theorem d_law_476 : decode code 476 = .ok (.aload_n 0, 1) := by decide +kernel
theorem d_law_477 : decode code 477 = .ok (.iload_n 3, 1) := by decide +kernel
theorem d_law_478 : decode code 478 = .ok (.iconst 1, 1) := by decide +kernel
theorem d_law_479 : decode code 479 = .ok (.iadd, 1) := by decide +kernel
theorem d_law_480 : decode code 480 = .ok (.iaload, 1) := by decide +kernel
theorem d_law_481 : decode code 481 = .ok (.invokevirtual 73, 3) := by decide +kernel
theorem d_law_484 : decode code 484 = .ok (.aload_n 2, 1) := by decide +kernel
theorem d_law_485 : decode code 485 = .ok (.aload_n 0, 1) := by decide +kernel
theorem d_law_486 : decode code 486 = .ok (.iload_n 3, 1) := by decide +kernel
theorem d_law_487 : decode code 487 = .ok (.iconst 1, 1) := by decide +kernel
theorem d_law_488 : decode code 488 = .ok (.iadd, 1) := by decide +kernel
theorem d_law_489 : decode code 489 = .ok (.iaload, 1) := by decide +kernel
theorem d_law_490 : decode code 490 = .ok (.invokevirtual 76, 3) := by decide +kernel
theorem d_law_493 : decode code 493 = .ok (.if_icmp .eq 48, 3) := by decide +kernel
theorem d_law_496 : decode code 496 = .ok (.iconst 0, 1) := by decide +kernel
theorem d_law_497 : decode code 497 = .ok (.ireturn, 1) := by decide +kernel
theorem d_law_498 : decode code 498 = .ok (.aload_n 1, 1) := by decide +kernel
theorem d_law_499 : decode code 499 = .ok (.aload_n 0, 1) := by decide +kernel
theorem d_law_500 : decode code 500 = .ok (.iload_n 3, 1) := by decide +kernel
theorem d_law_501 : decode code 501 = .ok (.iconst 1, 1) := by decide +kernel
theorem d_law_502 : decode code 502 = .ok (.iadd, 1) := by decide +kernel
theorem d_law_503 : decode code 503 = .ok (.iaload, 1) := by decide +kernel
theorem d_law_504 : decode code 504 = .ok (.aload_n 0, 1) := by decide +kernel
theorem d_law_505 : decode code 505 = .ok (.iload_n 3, 1) := by decide +kernel
theorem d_law_506 : decode code 506 = .ok (.iconst 2, 1) := by decide +kernel
theorem d_law_507 : decode code 507 = .ok (.iadd, 1) := by decide +kernel
theorem d_law_508 : decode code 508 = .ok (.iaload, 1) := by decide +kernel
theorem d_law_509 : decode code 509 = .ok (.aload_n 0, 1) := by decide +kernel
theorem d_law_510 : decode code 510 = .ok (.iload_n 3, 1) := by decide +kernel
theorem d_law_511 : decode code 511 = .ok (.iconst 3, 1) := by decide +kernel
theorem d_law_512 : decode code 512 = .ok (.iadd, 1) := by decide +kernel
theorem d_law_513 : decode code 513 = .ok (.iaload, 1) := by decide +kernel
theorem d_law_514 : decode code 514 = .ok (.invokevirtual 77, 3) := by decide +kernel
theorem d_law_517 : decode code 517 = .ok (.aload_n 2, 1) := by decide +kernel
theorem d_law_518 : decode code 518 = .ok (.aload_n 0, 1) := by decide +kernel
theorem d_law_519 : decode code 519 = .ok (.iload_n 3, 1) := by decide +kernel
theorem d_law_520 : decode code 520 = .ok (.iconst 1, 1) := by decide +kernel
theorem d_law_521 : decode code 521 = .ok (.iadd, 1) := by decide +kernel
theorem d_law_522 : decode code 522 = .ok (.iaload, 1) := by decide +kernel
theorem d_law_523 : decode code 523 = .ok (.aload_n 0, 1) := by decide +kernel
theorem d_law_524 : decode code 524 = .ok (.iload_n 3, 1) := by decide +kernel
theorem d_law_525 : decode code 525 = .ok (.iconst 2, 1) := by decide +kernel
theorem d_law_526 : decode code 526 = .ok (.iadd, 1) := by decide +kernel
theorem d_law_527 : decode code 527 = .ok (.iaload, 1) := by decide +kernel
theorem d_law_528 : decode code 528 = .ok (.aload_n 0, 1) := by decide +kernel
theorem d_law_529 : decode code 529 = .ok (.iload_n 3, 1) := by decide +kernel
theorem d_law_530 : decode code 530 = .ok (.iconst 3, 1) := by decide +kernel
theorem d_law_531 : decode code 531 = .ok (.iadd, 1) := by decide +kernel
theorem d_law_532 : decode code 532 = .ok (.iaload, 1) := by decide +kernel
theorem d_law_533 : decode code 533 = .ok (.invokevirtual 81, 3) := by decide +kernel
theorem d_law_536 : decode code 536 = .ok (.if_icmp .eq 5, 3) := by decide +kernel
theorem d_law_539 : decode code 539 = .ok (.iconst 0, 1) := by decide +kernel
theorem d_law_540 : decode code 540 = .ok (.ireturn, 1) := by decide +kernel
theorem d_law_541 : decode code 541 = .ok (.iinc 3 4, 3) := by decide +kernel
theorem d_law_544 : decode code 544 = .ok (.goto (-506), 3) := by decide +kernel
theorem d_law_547 : decode code 547 = .ok (.iconst 1, 1) := by decide +kernel
theorem d_law_548 : decode code 548 = .ok (.ireturn, 1) := by decide +kernel
end
section
/-! rows of my own: machine rows over natural numbers, one form of contract, one row a call -/
def nA (g : Nat → Nat) : Nat → Int32 := fun k => nI (g k)
def lA (g : Nat → Nat) : Nat → Int64 := fun k => lN (g k)
theorem nA_up (g : Nat → Nat) (i x : Nat) : upd (nA g) i (nI x) = nA (va_up g i x) := by
  funext j
  simp only [upd, nA, va_up]
  split <;> rfl
theorem lA_up (g : Nat → Nat) (i x : Nat) : vp_updL (lA g) i (lN x) = lA (va_up g i x) := by
  funext j
  simp only [vp_updL, lA, va_up]
  split <;> rfl
section NR
variable {p : Program} {l : Launch} {e : Env} {R : Room} {s : State} {m : MethodId} {args : Array Value} {below : List Frame} {meth : Method} {c : Code} {H : Heap} {locs : List Loc} {cells slots : Nat} {Q : State → Prop} {pc : Nat} {ls : Array Slot} {rest : List Value} {cc : ByteArray}
theorem nr_iadd (hx : p.tables.exec = Jvm.exec) (hb : c.code = cc) {a b : Nat} (hd : decode cc pc = .ok (.iadd, 1)) (k : W p l e R s m args below meth c H locs cells slots Q (F0 m (pc + 1) ls (.int (nI (a + b)) :: rest))) : W p l e R s m args below meth c H locs cells slots Q (F0 m pc ls (.int (nI b) :: .int (nI a) :: rest)) :=
  lv_iadd hx hb hd (by rw [nI_add]; exact k)
theorem nr_isub (hx : p.tables.exec = Jvm.exec) (hb : c.code = cc) {a b : Nat} (hd : decode cc pc = .ok (.isub, 1)) (h : b ≤ a) (k : W p l e R s m args below meth c H locs cells slots Q (F0 m (pc + 1) ls (.int (nI (a - b)) :: rest))) : W p l e R s m args below meth c H locs cells slots Q (F0 m pc ls (.int (nI b) :: .int (nI a) :: rest)) :=
  lv_isub hx hb hd (by rw [pk_sub h]; exact k)
theorem nr_imul (hx : p.tables.exec = Jvm.exec) (hb : c.code = cc) {a b : Nat} (hd : decode cc pc = .ok (.imul, 1)) (k : W p l e R s m args below meth c H locs cells slots Q (F0 m (pc + 1) ls (.int (nI (a * b)) :: rest))) : W p l e R s m args below meth c H locs cells slots Q (F0 m pc ls (.int (nI b) :: .int (nI a) :: rest)) :=
  lv_imul hx hb hd (by rw [pk_mul]; exact k)
theorem nr_irem (hx : p.tables.exec = Jvm.exec) (hb : c.code = cc) {a b : Nat} (hd : decode cc pc = .ok (.irem, 1)) (ha : a < 2 ^ 31) (h0 : 0 < b) (h1 : b < 2 ^ 31) (k : W p l e R s m args below meth c H locs cells slots Q (F0 m (pc + 1) ls (.int (nI (a % b)) :: rest))) : W p l e R s m args below meth c H locs cells slots Q (F0 m pc ls (.int (nI b) :: .int (nI a) :: rest)) :=
  lv_irem hx hb hd (nI_ne0 h0 h1) (by rw [pk_rem ha h0 h1]; exact k)
theorem nr_idiv (hx : p.tables.exec = Jvm.exec) (hb : c.code = cc) {a b : Nat} (hd : decode cc pc = .ok (.idiv, 1)) (ha : a < 2 ^ 31) (h0 : 0 < b) (h1 : b < 2 ^ 31) (k : W p l e R s m args below meth c H locs cells slots Q (F0 m (pc + 1) ls (.int (nI (a / b)) :: rest))) : W p l e R s m args below meth c H locs cells slots Q (F0 m pc ls (.int (nI b) :: .int (nI a) :: rest)) :=
  lv_idiv hx hb hd (nI_ne0 h0 h1) (by rw [pk_div ha h0 h1]; exact k)
theorem nr_icmp_ge (hx : p.tables.exec = Jvm.exec) (hb : c.code = cc) {a b : Nat} {off : Int} {tgt : Nat} (hd : decode cc pc = .ok (.if_icmp .ge off, 3)) (ht : (pc : Int) + off = (tgt : Int)) (ha : a < 2 ^ 31) (hb2 : b < 2 ^ 31) (kt : b ≤ a → W p l e R s m args below meth c H locs cells slots Q (F0 m tgt ls rest)) (kf : a < b → W p l e R s m args below meth c H locs cells slots Q (F0 m (pc + 3) ls rest)) : W p l e R s m args below meth c H locs cells slots Q (F0 m pc ls (.int (nI b) :: .int (nI a) :: rest)) :=
  lv_icmp_ge hx hb hd ht (fun h => kt ((nI_leI hb2 ha).mp h)) (fun h => kf (Nat.lt_of_not_le (fun q => h ((nI_leI hb2 ha).mpr q))))
theorem nr_icmp_le (hx : p.tables.exec = Jvm.exec) (hb : c.code = cc) {a b : Nat} {off : Int} {tgt : Nat} (hd : decode cc pc = .ok (.if_icmp .le off, 3)) (ht : (pc : Int) + off = (tgt : Int)) (ha : a < 2 ^ 31) (hb2 : b < 2 ^ 31) (kt : a ≤ b → W p l e R s m args below meth c H locs cells slots Q (F0 m tgt ls rest)) (kf : b < a → W p l e R s m args below meth c H locs cells slots Q (F0 m (pc + 3) ls rest)) : W p l e R s m args below meth c H locs cells slots Q (F0 m pc ls (.int (nI b) :: .int (nI a) :: rest)) :=
  lv_icmp_le hx hb hd ht (fun h => kt ((nI_leI ha hb2).mp h)) (fun h => kf (Nat.lt_of_not_le (fun q => h ((nI_leI ha hb2).mpr q))))
theorem nr_icmp_lt (hx : p.tables.exec = Jvm.exec) (hb : c.code = cc) {a b : Nat} {off : Int} {tgt : Nat} (hd : decode cc pc = .ok (.if_icmp .lt off, 3)) (ht : (pc : Int) + off = (tgt : Int)) (ha : a < 2 ^ 31) (hb2 : b < 2 ^ 31) (kt : a < b → W p l e R s m args below meth c H locs cells slots Q (F0 m tgt ls rest)) (kf : b ≤ a → W p l e R s m args below meth c H locs cells slots Q (F0 m (pc + 3) ls rest)) : W p l e R s m args below meth c H locs cells slots Q (F0 m pc ls (.int (nI b) :: .int (nI a) :: rest)) :=
  lv_icmp_lt hx hb hd ht (fun h => kt ((nI_ltI ha hb2).mp h)) (fun h => kf (Nat.le_of_not_lt (fun q => h ((nI_ltI ha hb2).mpr q))))
theorem nr_icmp_gt (hx : p.tables.exec = Jvm.exec) (hb : c.code = cc) {a b : Nat} {off : Int} {tgt : Nat} (hd : decode cc pc = .ok (.if_icmp .gt off, 3)) (ht : (pc : Int) + off = (tgt : Int)) (ha : a < 2 ^ 31) (hb2 : b < 2 ^ 31) (kt : b < a → W p l e R s m args below meth c H locs cells slots Q (F0 m tgt ls rest)) (kf : a ≤ b → W p l e R s m args below meth c H locs cells slots Q (F0 m (pc + 3) ls rest)) : W p l e R s m args below meth c H locs cells slots Q (F0 m pc ls (.int (nI b) :: .int (nI a) :: rest)) :=
  lv_icmp_gt hx hb hd ht (fun h => kt ((nI_ltI hb2 ha).mp h)) (fun h => kf (Nat.le_of_not_lt (fun q => h ((nI_ltI hb2 ha).mpr q))))
theorem nr_icmp_eq (hx : p.tables.exec = Jvm.exec) (hb : c.code = cc) {a b : Nat} {off : Int} {tgt : Nat} (hd : decode cc pc = .ok (.if_icmp .eq off, 3)) (ht : (pc : Int) + off = (tgt : Int)) (ha : a < 2 ^ 31) (hb2 : b < 2 ^ 31) (kt : a = b → W p l e R s m args below meth c H locs cells slots Q (F0 m tgt ls rest)) (kf : a ≠ b → W p l e R s m args below meth c H locs cells slots Q (F0 m (pc + 3) ls rest)) : W p l e R s m args below meth c H locs cells slots Q (F0 m pc ls (.int (nI b) :: .int (nI a) :: rest)) :=
  lv_icmp_eq hx hb hd ht (fun h => kt ((nI_eq ha hb2).mp h)) (fun h => kf (fun q => h ((nI_eq ha hb2).mpr q)))
theorem nr_icmp_ne (hx : p.tables.exec = Jvm.exec) (hb : c.code = cc) {a b : Nat} {off : Int} {tgt : Nat} (hd : decode cc pc = .ok (.if_icmp .ne off, 3)) (ht : (pc : Int) + off = (tgt : Int)) (ha : a < 2 ^ 31) (hb2 : b < 2 ^ 31) (kt : a ≠ b → W p l e R s m args below meth c H locs cells slots Q (F0 m tgt ls rest)) (kf : a = b → W p l e R s m args below meth c H locs cells slots Q (F0 m (pc + 3) ls rest)) : W p l e R s m args below meth c H locs cells slots Q (F0 m pc ls (.int (nI b) :: .int (nI a) :: rest)) :=
  lv_icmp_ne hx hb hd ht (fun h => kt (fun q => h ((nI_eq ha hb2).mpr q))) (fun h => kf ((nI_eq ha hb2).mp h))
theorem nr_if_lt (hx : p.tables.exec = Jvm.exec) (hb : c.code = cc) {a : Nat} {off : Int} {tgt : Nat} (hd : decode cc pc = .ok (.ifCond .lt off, 3)) (ht : (pc : Int) + off = (tgt : Int)) (ha : a < 2 ^ 31) (kf : W p l e R s m args below meth c H locs cells slots Q (F0 m (pc + 3) ls rest)) : W p l e R s m args below meth c H locs cells slots Q (F0 m pc ls (.int (nI a) :: rest)) :=
  lv_if_lt hx hb hd ht (fun h => absurd h (nI_pos ha)) (fun _ => kf)
theorem nr_if_ge (hx : p.tables.exec = Jvm.exec) (hb : c.code = cc) {a : Nat} {off : Int} {tgt : Nat} (hd : decode cc pc = .ok (.ifCond .ge off, 3)) (ht : (pc : Int) + off = (tgt : Int)) (ha : a < 2 ^ 31) (kt : W p l e R s m args below meth c H locs cells slots Q (F0 m tgt ls rest)) : W p l e R s m args below meth c H locs cells slots Q (F0 m pc ls (.int (nI a) :: rest)) :=
  lv_if_ge hx hb hd ht (fun _ => kt) (fun h => absurd (nI_pos' ha) h)
theorem nI_z {a : Nat} (ha : a < 2 ^ 31) : nI a = 0 ↔ a = 0 := by
  rw [← nI_0]
  exact nI_eq ha (by decide)
theorem nr_if_eq (hx : p.tables.exec = Jvm.exec) (hb : c.code = cc) {a : Nat} {off : Int} {tgt : Nat} (hd : decode cc pc = .ok (.ifCond .eq off, 3)) (ht : (pc : Int) + off = (tgt : Int)) (ha : a < 2 ^ 31) (kt : a = 0 → W p l e R s m args below meth c H locs cells slots Q (F0 m tgt ls rest)) (kf : 0 < a → W p l e R s m args below meth c H locs cells slots Q (F0 m (pc + 3) ls rest)) : W p l e R s m args below meth c H locs cells slots Q (F0 m pc ls (.int (nI a) :: rest)) :=
  lv_if_eq hx hb hd ht (fun h => kt ((nI_z ha).mp h)) (fun h => kf (Nat.pos_of_ne_zero (fun q => h ((nI_z ha).mpr q))))
theorem nr_if_ne (hx : p.tables.exec = Jvm.exec) (hb : c.code = cc) {a : Nat} {off : Int} {tgt : Nat} (hd : decode cc pc = .ok (.ifCond .ne off, 3)) (ht : (pc : Int) + off = (tgt : Int)) (ha : a < 2 ^ 31) (kt : 0 < a → W p l e R s m args below meth c H locs cells slots Q (F0 m tgt ls rest)) (kf : a = 0 → W p l e R s m args below meth c H locs cells slots Q (F0 m (pc + 3) ls rest)) : W p l e R s m args below meth c H locs cells slots Q (F0 m pc ls (.int (nI a) :: rest)) :=
  lv_if_ne hx hb hd ht (fun h => kt (Nat.pos_of_ne_zero (fun q => h ((nI_z ha).mpr q)))) (fun h => kf ((nI_z ha).mp h))
theorem nr_if_gt (hx : p.tables.exec = Jvm.exec) (hb : c.code = cc) {a : Nat} {off : Int} {tgt : Nat} (hd : decode cc pc = .ok (.ifCond .gt off, 3)) (ht : (pc : Int) + off = (tgt : Int)) (ha : a < 2 ^ 31) (kt : 0 < a → W p l e R s m args below meth c H locs cells slots Q (F0 m tgt ls rest)) (kf : a = 0 → W p l e R s m args below meth c H locs cells slots Q (F0 m (pc + 3) ls rest)) : W p l e R s m args below meth c H locs cells slots Q (F0 m pc ls (.int (nI a) :: rest)) :=
  lv_if_gt hx hb hd ht (fun h => kt ((nI_ltI (by decide) ha).mp (by rw [nI_0]; exact h))) (fun h => kf (Nat.eq_zero_of_not_pos (fun q => h (by rw [← nI_0]; exact (nI_ltI (by decide) ha).mpr q))))
theorem nr_if_le (hx : p.tables.exec = Jvm.exec) (hb : c.code = cc) {a : Nat} {off : Int} {tgt : Nat} (hd : decode cc pc = .ok (.ifCond .le off, 3)) (ht : (pc : Int) + off = (tgt : Int)) (ha : a < 2 ^ 31) (kt : a = 0 → W p l e R s m args below meth c H locs cells slots Q (F0 m tgt ls rest)) (kf : 0 < a → W p l e R s m args below meth c H locs cells slots Q (F0 m (pc + 3) ls rest)) : W p l e R s m args below meth c H locs cells slots Q (F0 m pc ls (.int (nI a) :: rest)) :=
  lv_if_le hx hb hd ht (fun h => kt (Nat.le_zero.mp ((nI_leI (b := 0) ha (by decide)).mp (by rw [nI_0]; exact h)))) (fun h => kf (Nat.pos_of_ne_zero (fun q => h (by rw [q, nI_0]; exact Int32.le_refl 0))))
theorem nr_iinc (hx : p.tables.exec = Jvm.exec) (hb : c.code = cc) {i nL k : Nat} {a : Nat} {lv lv' : List (Nat × Value)} (hd : decode cc pc = .ok (.iinc i 1, 3)) (h : lv_has ls nL lv) (hk : lv[k]? = some (i, .int (nI a))) (hn : i < nL) (hl : (i, Value.int (nI (a + 1))) :: lv.filter (fun q => !(q.1 == i) && !(q.1 + 1 == i && q.2.category == 2)) = lv')
    (kk : ∀ ls' : Array Slot, lv_has ls' nL lv' → W p l e R s m args below meth c H locs cells slots Q (F0 m (pc + 3) ls' rest)) : W p l e R s m args below meth c H locs cells slots Q (F0 m pc ls rest) :=
  lv_iinc hx hb hd h hk (nI_1 a) hn hl kk
theorem nr_iincm (hx : p.tables.exec = Jvm.exec) (hb : c.code = cc) {i nL k : Nat} {a : Nat} {lv lv' : List (Nat × Value)} (hd : decode cc pc = .ok (.iinc i (-1), 3)) (h : lv_has ls nL lv) (hk : lv[k]? = some (i, .int (nI a))) (ha : 0 < a) (hn : i < nL) (hl : (i, Value.int (nI (a - 1))) :: lv.filter (fun q => !(q.1 == i) && !(q.1 + 1 == i && q.2.category == 2)) = lv')
    (kk : ∀ ls' : Array Slot, lv_has ls' nL lv' → W p l e R s m args below meth c H locs cells slots Q (F0 m (pc + 3) ls' rest)) : W p l e R s m args below meth c H locs cells slots Q (F0 m pc ls rest) :=
  lv_iinc hx hb hd h hk (show nI a + (-1) = nI (a - 1) from sb_m1 ha) hn hl kk
end NR
section NV
variable {p : Program} {l : Launch} {e : Env} {R : Room} {s : State} {m : MethodId} {args : Array Value} {below : List Frame} {meth : Method} {c : Code} {H H0 : Heap} {locs : List Loc} {cells slots : Nat} {Q : State → Prop} {pc : Nat} {ls : Array Slot} {rest : List Value} {cc : ByteArray} {D : va_G} {cl : List vw_C} {tys : List (ClassId × FieldType)} {ws : va_W} {A : Nat → Prop} {a : Nat}
theorem nr_iald (hx : p.tables.exec = Jvm.exec) (hb : c.code = cc) (hK : va_K D cl tys s) (hP : va_P D cl ws H) (q0 t0 : Nat) {cA : ClassId} {n : Nat} {f : Nat → Int32} (ha : ws[q0]? = some (a, .inl (cA, n, .inl f))) (ht : tys[t0]? = some (cA, .int)) {i : Nat} (hi : i < n) (hn : n < 2 ^ 31) (hdg : decode cc pc = .ok (.iaload, 1))
    (kk : W p l e R s m args below meth c H locs cells slots Q (F0 m (pc + 1) ls (.int (f i) :: rest))) : W p l e R s m args below meth c H locs cells slots Q (F0 m pc ls (.int (nI i) :: .ref a :: rest)) :=
  va_iald hx hb hK hP q0 t0 ha ht (vp_in_nI hi hn) hdg (by rw [nI_clamp (Nat.lt_trans hi hn)]; exact kk)
theorem nr_iast (hx : p.tables.exec = Jvm.exec) (hb : c.code = cc) (hK : va_K D cl tys s) (hP : va_P D cl ws H) (hD : va_D A ws) (hS : va_S A H0 H locs) (q0 t0 : Nat) {cA : ClassId} {n : Nat} {g : Nat → Nat} (ha : ws[q0]? = some (a, .inl (cA, n, .inl (nA g)))) (ht : tys[t0]? = some (cA, .int)) {i x : Nat} (hi : i < n) (hn : n < 2 ^ 31) (hdg : decode cc pc = .ok (.iastore, 1))
    (kk : ∀ (H1 : Heap) (locs1 : List Loc), va_P D cl (ws.set q0 (a, .inl (cA, n, .inl (nA (va_up g i x))))) H1 → va_D A (ws.set q0 (a, .inl (cA, n, .inl (nA (va_up g i x))))) → va_S A H0 H1 locs1 → W p l e R s m args below meth c H1 locs1 cells slots Q (F0 m (pc + 1) ls rest)) : W p l e R s m args below meth c H locs cells slots Q (F0 m pc ls (.int (nI x) :: .int (nI i) :: .ref a :: rest)) :=
  va_iast hx hb hK hP hD hS q0 t0 ha ht (vp_in_nI hi hn) hdg (by rw [nI_clamp (Nat.lt_trans hi hn), nA_up]; exact kk)
theorem nr_lald (hx : p.tables.exec = Jvm.exec) (hb : c.code = cc) (hK : va_K D cl tys s) (hP : va_P D cl ws H) (q0 t0 : Nat) {cA : ClassId} {n : Nat} {f : Nat → Int64} (ha : ws[q0]? = some (a, .inl (cA, n, .inr (.inl f)))) (ht : tys[t0]? = some (cA, .long)) {i : Nat} (hi : i < n) (hn : n < 2 ^ 31) (hdg : decode cc pc = .ok (.laload, 1))
    (kk : W p l e R s m args below meth c H locs cells slots Q (F0 m (pc + 1) ls (.long (f i) :: rest))) : W p l e R s m args below meth c H locs cells slots Q (F0 m pc ls (.int (nI i) :: .ref a :: rest)) :=
  va_lald hx hb hK hP q0 t0 ha ht (vp_in_nI hi hn) hdg (by rw [nI_clamp (Nat.lt_trans hi hn)]; exact kk)
theorem nr_last (hx : p.tables.exec = Jvm.exec) (hb : c.code = cc) (hK : va_K D cl tys s) (hP : va_P D cl ws H) (hD : va_D A ws) (hS : va_S A H0 H locs) (q0 t0 : Nat) {cA : ClassId} {n : Nat} {g : Nat → Nat} (ha : ws[q0]? = some (a, .inl (cA, n, .inr (.inl (lA g))))) (ht : tys[t0]? = some (cA, .long)) {i x : Nat} (hi : i < n) (hn : n < 2 ^ 31) (hdg : decode cc pc = .ok (.lastore, 1))
    (kk : ∀ (H1 : Heap) (locs1 : List Loc), va_P D cl (ws.set q0 (a, .inl (cA, n, .inr (.inl (lA (va_up g i x)))))) H1 → va_D A (ws.set q0 (a, .inl (cA, n, .inr (.inl (lA (va_up g i x)))))) → va_S A H0 H1 locs1 → W p l e R s m args below meth c H1 locs1 cells slots Q (F0 m (pc + 1) ls rest)) : W p l e R s m args below meth c H locs cells slots Q (F0 m pc ls (.long (lN x) :: .int (nI i) :: .ref a :: rest)) :=
  va_last hx hb hK hP hD hS q0 t0 ha ht (vp_in_nI hi hn) hdg (by rw [nI_clamp (Nat.lt_trans hi hn), lA_up]; exact kk)
theorem nr_ialdN (hx : p.tables.exec = Jvm.exec) (hb : c.code = cc) (hK : va_K D cl tys s) (hP : va_P D cl ws H) (q0 t0 : Nat) {cA : ClassId} {n : Nat} {g : Nat → Nat} (ha : ws[q0]? = some (a, .inl (cA, n, .inl (nA g)))) (ht : tys[t0]? = some (cA, .int)) {i : Nat} (hi : i < n) (hn : n < 2 ^ 31) (hdg : decode cc pc = .ok (.iaload, 1))
    (kk : W p l e R s m args below meth c H locs cells slots Q (F0 m (pc + 1) ls (.int (nI (g i)) :: rest))) : W p l e R s m args below meth c H locs cells slots Q (F0 m pc ls (.int (nI i) :: .ref a :: rest)) :=
  nr_iald hx hb hK hP q0 t0 ha ht hi hn hdg kk
theorem nr_laldN (hx : p.tables.exec = Jvm.exec) (hb : c.code = cc) (hK : va_K D cl tys s) (hP : va_P D cl ws H) (q0 t0 : Nat) {cA : ClassId} {n : Nat} {g : Nat → Nat} (ha : ws[q0]? = some (a, .inl (cA, n, .inr (.inl (lA g))))) (ht : tys[t0]? = some (cA, .long)) {i : Nat} (hi : i < n) (hn : n < 2 ^ 31) (hdg : decode cc pc = .ok (.laload, 1))
    (kk : W p l e R s m args below meth c H locs cells slots Q (F0 m (pc + 1) ls (.long (lN (g i)) :: rest))) : W p l e R s m args below meth c H locs cells slots Q (F0 m pc ls (.int (nI i) :: .ref a :: rest)) :=
  nr_lald hx hb hK hP q0 t0 ha ht hi hn hdg kk
end NV
end
section
/-! bits over natural numbers (wb_ and nx_ rows began as rows of kit/laws/BITS.to-paste) -/
theorem nx_and (a b : Nat) : nI a &&& nI b = nI (a &&& b) := by
  apply Int32.toBitVec_inj.1
  show BitVec.ofNat 32 a &&& BitVec.ofNat 32 b = BitVec.ofNat 32 (a &&& b)
  apply BitVec.eq_of_getLsbD_eq
  intro i hi
  simp [hi]
theorem nx_or (a b : Nat) : nI a ||| nI b = nI (a ||| b) := by
  apply Int32.toBitVec_inj.1
  show BitVec.ofNat 32 a ||| BitVec.ofNat 32 b = BitVec.ofNat 32 (a ||| b)
  apply BitVec.eq_of_getLsbD_eq
  intro i hi
  simp [hi]
theorem nx_xor (a b : Nat) : nI a ^^^ nI b = nI (a ^^^ b) := by
  apply Int32.toBitVec_inj.1
  show BitVec.ofNat 32 a ^^^ BitVec.ofNat 32 b = BitVec.ofNat 32 (a ^^^ b)
  apply BitVec.eq_of_getLsbD_eq
  intro i hi
  simp [hi]
theorem nx_sl : ∀ n, n < 32 → ((nI n &&& 31).toBitVec.smod 32).toNat = n := by decide +kernel
theorem nx_su : ∀ n, n < 32 → (((nI n).toUInt32 &&& Int32.toUInt32 31).toBitVec % 32).toNat = n := by decide +kernel
theorem nx_shl (a : Nat) {k : Nat} (hk : k < 32) : nI a <<< (nI k &&& 31) = nI (a * 2 ^ k) := by
  apply Int32.toBitVec_inj.1
  apply BitVec.eq_of_toNat_eq
  rw [pk_shl (nI a) _ k (nx_sl k hk)]
  show (BitVec.ofNat 32 a).toNat * 2 ^ k % 2 ^ 32 = (BitVec.ofNat 32 (a * 2 ^ k)).toNat
  rw [BitVec.toNat_ofNat, BitVec.toNat_ofNat, Nat.mul_mod, Nat.mod_mod, ← Nat.mul_mod]
theorem nx_ushr {a k : Nat} (ha : a < 2 ^ 32) (hk : k < 32) : ((nI a).toUInt32 >>> ((nI k).toUInt32 &&& Int32.toUInt32 31)).toInt32 = nI (a / 2 ^ k) := pk_ushrN ha _ k (nx_su k hk)
theorem wb_tb (n : Nat) : (lN n).toBitVec = BitVec.ofNat 64 n := rfl
theorem wb_inj {a b : Int64} (h : a.toBitVec = b.toBitVec) : a = b := Int64.toBitVec_inj.mp h
theorem wb_tn {n : Nat} (h : n < 2 ^ 64) : (lN n).toBitVec.toNat = n := by rw [wb_tb, BitVec.toNat_ofNat, Nat.mod_eq_of_lt h]
theorem wb_of (x : Int64) : ∃ n, n < 2 ^ 64 ∧ x = lN n := ⟨x.toBitVec.toNat, x.toBitVec.isLt, wb_inj (by rw [wb_tb]; simp)⟩
theorem wb_of32 (x : Int32) : ∃ n, n < 2 ^ 32 ∧ x = nI n := ⟨x.toBitVec.toNat, x.toBitVec.isLt, Int32.toBitVec_inj.mp (by show _ = BitVec.ofNat 32 _; simp)⟩
theorem wb_c : ∀ k, k < 64 → ((nI k).toInt64 &&& 63) = lN k := by decide +kernel
theorem wb_cu : ∀ k, k < 64 → ((nI k).toInt64.toUInt64 &&& Int64.toUInt64 63) = UInt64.ofNat k := by decide +kernel
theorem wb_sm : ∀ k, k < 64 → (BitVec.ofNat 64 k).smod 64 = BitVec.ofNat 64 k := by decide +kernel
theorem wb_shr {n k : Nat} (hn : n < 2 ^ 64) (hk : k < 64) : ((lN n).toUInt64 >>> ((nI k).toInt64.toUInt64 &&& Int64.toUInt64 63)).toInt64 = lN (n / 2 ^ k) := by
  rw [wb_cu k hk]
  apply wb_inj
  apply BitVec.eq_of_toNat_eq
  show ((lN n).toUInt64 >>> UInt64.ofNat k).toNat = (BitVec.ofNat 64 _).toNat
  have h1 : (UInt64.ofNat k).toNat = k := by
    show (BitVec.ofNat 64 k).toNat = k
    rw [BitVec.toNat_ofNat, Nat.mod_eq_of_lt (by omega)]
  have h2 : (lN n).toUInt64.toNat = n := wb_tn hn
  rw [UInt64.toNat_shiftRight, h1, h2, Nat.mod_eq_of_lt hk, Nat.shiftRight_eq_div_pow, BitVec.toNat_ofNat, Nat.mod_eq_of_lt (Nat.lt_of_le_of_lt (Nat.div_le_self _ _) hn)]
theorem wb_shl (n : Nat) {k : Nat} (hk : k < 64) : lN n <<< ((nI k).toInt64 &&& 63) = lN (n * 2 ^ k) := by
  rw [wb_c k hk]
  apply wb_inj
  rw [Int64.toBitVec_shiftLeft, wb_tb, wb_tb, wb_tb, wb_sm k hk]
  apply BitVec.eq_of_toNat_eq
  rw [BitVec.shiftLeft_eq', BitVec.toNat_shiftLeft, BitVec.toNat_ofNat, BitVec.toNat_ofNat, BitVec.toNat_ofNat, Nat.mod_eq_of_lt (show k < 2 ^ 64 by omega), Nat.shiftLeft_eq, Nat.mul_mod, Nat.mod_mod, ← Nat.mul_mod]
theorem lN_xor (a b : Nat) : lN a ^^^ lN b = lN (a ^^^ b) := by
  apply wb_inj
  rw [Int64.toBitVec_xor, wb_tb, wb_tb, wb_tb]
  apply BitVec.eq_of_getLsbD_eq
  intro i hi
  simp [BitVec.getLsbD_ofNat, Nat.testBit_xor, hi]
theorem lN_and (a b : Nat) : lN a &&& lN b = lN (a &&& b) := by
  apply wb_inj
  rw [Int64.toBitVec_and, wb_tb, wb_tb, wb_tb]
  apply BitVec.eq_of_getLsbD_eq
  intro i hi
  simp [BitVec.getLsbD_ofNat, Nat.testBit_and, hi]
theorem lN_or (a b : Nat) : lN a ||| lN b = lN (a ||| b) := by
  apply wb_inj
  rw [Int64.toBitVec_or, wb_tb, wb_tb, wb_tb]
  apply BitVec.eq_of_getLsbD_eq
  intro i hi
  simp [BitVec.getLsbD_ofNat, Nat.testBit_or, hi]
theorem lN_neg {a : Nat} (h : a ≤ 2 ^ 64) : -(lN a) = lN (2 ^ 64 - a) := by
  apply wb_inj
  rw [Int64.toBitVec_neg, wb_tb, wb_tb]
  apply BitVec.eq_of_toNat_eq
  rw [BitVec.toNat_neg, BitVec.toNat_ofNat, BitVec.toNat_ofNat]
  omega
theorem lN_inj {a b : Nat} (ha : a < 2 ^ 64) (hb : b < 2 ^ 64) : lN a = lN b ↔ a = b :=
  ⟨fun h => by rw [← wb_tn ha, ← wb_tn hb, h], fun h => by rw [h]⟩
theorem lg_cmp_z (x y : Int64) : lg_cmp x y = 0 ↔ x = y := by
  unfold lg_cmp
  by_cases h1 : x > y
  · rw [if_pos h1]
    exact ⟨fun h => absurd h (by decide), fun h => by subst h; exact absurd h1 (Int64.lt_irrefl)⟩
  · rw [if_neg h1]
    by_cases h2 : x = y
    · rw [if_pos h2]
      exact ⟨fun _ => h2, fun _ => rfl⟩
    · rw [if_neg h2]
      exact ⟨fun h => absurd h (by decide), fun h => absurd h h2⟩
section NB
variable {p : Program} {l : Launch} {e : Env} {R : Room} {s : State} {m : MethodId} {args : Array Value} {below : List Frame} {meth : Method} {c : Code} {H : Heap} {locs : List Loc} {cells slots : Nat} {Q : State → Prop} {pc : Nat} {ls : Array Slot} {rest : List Value} {cc : ByteArray}
theorem nr_iand (hx : p.tables.exec = Jvm.exec) (hb : c.code = cc) {a b : Nat} (hd : decode cc pc = .ok (.iand, 1)) (k : W p l e R s m args below meth c H locs cells slots Q (F0 m (pc + 1) ls (.int (nI (a &&& b)) :: rest))) : W p l e R s m args below meth c H locs cells slots Q (F0 m pc ls (.int (nI b) :: .int (nI a) :: rest)) :=
  lv_iand hx hb hd (by rw [nx_and]; exact k)
theorem nr_ior (hx : p.tables.exec = Jvm.exec) (hb : c.code = cc) {a b : Nat} (hd : decode cc pc = .ok (.ior, 1)) (k : W p l e R s m args below meth c H locs cells slots Q (F0 m (pc + 1) ls (.int (nI (a ||| b)) :: rest))) : W p l e R s m args below meth c H locs cells slots Q (F0 m pc ls (.int (nI b) :: .int (nI a) :: rest)) :=
  lv_ior hx hb hd (by rw [nx_or]; exact k)
theorem nr_ixor (hx : p.tables.exec = Jvm.exec) (hb : c.code = cc) {a b : Nat} (hd : decode cc pc = .ok (.ixor, 1)) (k : W p l e R s m args below meth c H locs cells slots Q (F0 m (pc + 1) ls (.int (nI (a ^^^ b)) :: rest))) : W p l e R s m args below meth c H locs cells slots Q (F0 m pc ls (.int (nI b) :: .int (nI a) :: rest)) :=
  lv_ixor hx hb hd (by rw [nx_xor]; exact k)
theorem nr_ishl (hx : p.tables.exec = Jvm.exec) (hb : c.code = cc) {a b : Nat} (hd : decode cc pc = .ok (.ishl, 1)) (h : b < 32) (k : W p l e R s m args below meth c H locs cells slots Q (F0 m (pc + 1) ls (.int (nI (a * 2 ^ b)) :: rest))) : W p l e R s m args below meth c H locs cells slots Q (F0 m pc ls (.int (nI b) :: .int (nI a) :: rest)) :=
  lv_ishl hx hb hd (by rw [nx_shl a h]; exact k)
theorem nr_iushr (hx : p.tables.exec = Jvm.exec) (hb : c.code = cc) {a b : Nat} (hd : decode cc pc = .ok (.iushr, 1)) (ha : a < 2 ^ 32) (h : b < 32) (k : W p l e R s m args below meth c H locs cells slots Q (F0 m (pc + 1) ls (.int (nI (a / 2 ^ b)) :: rest))) : W p l e R s m args below meth c H locs cells slots Q (F0 m pc ls (.int (nI b) :: .int (nI a) :: rest)) :=
  lv_iushr hx hb hd (nx_ushr ha h) k
theorem nr_land (hx : p.tables.exec = Jvm.exec) (hb : c.code = cc) {a b : Nat} (hd : decode cc pc = .ok (.land, 1)) (k : W p l e R s m args below meth c H locs cells slots Q (F0 m (pc + 1) ls (.long (lN (a &&& b)) :: rest))) : W p l e R s m args below meth c H locs cells slots Q (F0 m pc ls (.long (lN b) :: .long (lN a) :: rest)) :=
  lv_land hx hb hd (by rw [lN_and]; exact k)
theorem nr_lor (hx : p.tables.exec = Jvm.exec) (hb : c.code = cc) {a b : Nat} (hd : decode cc pc = .ok (.lor, 1)) (k : W p l e R s m args below meth c H locs cells slots Q (F0 m (pc + 1) ls (.long (lN (a ||| b)) :: rest))) : W p l e R s m args below meth c H locs cells slots Q (F0 m pc ls (.long (lN b) :: .long (lN a) :: rest)) :=
  lv_lor hx hb hd (by rw [lN_or]; exact k)
theorem nr_lxor (hx : p.tables.exec = Jvm.exec) (hb : c.code = cc) {a b : Nat} (hd : decode cc pc = .ok (.lxor, 1)) (k : W p l e R s m args below meth c H locs cells slots Q (F0 m (pc + 1) ls (.long (lN (a ^^^ b)) :: rest))) : W p l e R s m args below meth c H locs cells slots Q (F0 m pc ls (.long (lN b) :: .long (lN a) :: rest)) :=
  lv_lxor hx hb hd (by rw [lN_xor]; exact k)
theorem nr_lsub (hx : p.tables.exec = Jvm.exec) (hb : c.code = cc) {a b : Nat} (hd : decode cc pc = .ok (.lsub, 1)) (h : b ≤ a) (k : W p l e R s m args below meth c H locs cells slots Q (F0 m (pc + 1) ls (.long (lN (a - b)) :: rest))) : W p l e R s m args below meth c H locs cells slots Q (F0 m pc ls (.long (lN b) :: .long (lN a) :: rest)) :=
  lv_lsub hx hb hd (by rw [lN_sub h]; exact k)
theorem nr_lneg (hx : p.tables.exec = Jvm.exec) (hb : c.code = cc) {a : Nat} (hd : decode cc pc = .ok (.lneg, 1)) (h : a ≤ 2 ^ 64) (k : W p l e R s m args below meth c H locs cells slots Q (F0 m (pc + 1) ls (.long (lN (2 ^ 64 - a)) :: rest))) : W p l e R s m args below meth c H locs cells slots Q (F0 m pc ls (.long (lN a) :: rest)) :=
  lv_lneg hx hb hd (by rw [lN_neg h]; exact k)
theorem nr_lshl (hx : p.tables.exec = Jvm.exec) (hb : c.code = cc) {a b : Nat} (hd : decode cc pc = .ok (.lshl, 1)) (h : b < 64) (k : W p l e R s m args below meth c H locs cells slots Q (F0 m (pc + 1) ls (.long (lN (a * 2 ^ b)) :: rest))) : W p l e R s m args below meth c H locs cells slots Q (F0 m pc ls (.int (nI b) :: .long (lN a) :: rest)) :=
  lv_lshl hx hb hd (wb_shl a h) k
theorem nr_lshl1 (hx : p.tables.exec = Jvm.exec) (hb : c.code = cc) {b : Nat} (hd : decode cc pc = .ok (.lshl, 1)) (h : b < 64) (k : W p l e R s m args below meth c H locs cells slots Q (F0 m (pc + 1) ls (.long (lN (2 ^ b)) :: rest))) : W p l e R s m args below meth c H locs cells slots Q (F0 m pc ls (.int (nI b) :: .long (lN 1) :: rest)) :=
  lv_lshl hx hb hd (by rw [wb_shl 1 h, Nat.one_mul]) k
theorem nr_lushr (hx : p.tables.exec = Jvm.exec) (hb : c.code = cc) {a b : Nat} (hd : decode cc pc = .ok (.lushr, 1)) (ha : a < 2 ^ 64) (h : b < 64) (k : W p l e R s m args below meth c H locs cells slots Q (F0 m (pc + 1) ls (.long (lN (a / 2 ^ b)) :: rest))) : W p l e R s m args below meth c H locs cells slots Q (F0 m pc ls (.int (nI b) :: .long (lN a) :: rest)) :=
  lv_lushr hx hb hd (wb_shr ha h) k
theorem nr_lcmp_eq (hx : p.tables.exec = Jvm.exec) (hb : c.code = cc) {a b : Nat} {off : Int} {tgt : Nat} (hd1 : decode cc pc = .ok (.lcmp, 1)) (hd2 : decode cc (pc + 1) = .ok (.ifCond .eq off, 3)) (ht : ((pc + 1 : Nat) : Int) + off = (tgt : Int)) (ha : a < 2 ^ 64) (hb2 : b < 2 ^ 64) (kt : a = b → W p l e R s m args below meth c H locs cells slots Q (F0 m tgt ls rest)) (kf : a ≠ b → W p l e R s m args below meth c H locs cells slots Q (F0 m (pc + 1 + 3) ls rest)) : W p l e R s m args below meth c H locs cells slots Q (F0 m pc ls (.long (lN b) :: .long (lN a) :: rest)) :=
  W.lcmp hx hb hd1 (lv_if_eq hx hb hd2 ht (fun h => kt ((lN_inj ha hb2).mp ((lg_cmp_z _ _).mp h))) (fun h => kf (fun q => h ((lg_cmp_z _ _).mpr ((lN_inj ha hb2).mpr q)))))
theorem nr_lcmp_ne (hx : p.tables.exec = Jvm.exec) (hb : c.code = cc) {a b : Nat} {off : Int} {tgt : Nat} (hd1 : decode cc pc = .ok (.lcmp, 1)) (hd2 : decode cc (pc + 1) = .ok (.ifCond .ne off, 3)) (ht : ((pc + 1 : Nat) : Int) + off = (tgt : Int)) (ha : a < 2 ^ 64) (hb2 : b < 2 ^ 64) (kt : a ≠ b → W p l e R s m args below meth c H locs cells slots Q (F0 m tgt ls rest)) (kf : a = b → W p l e R s m args below meth c H locs cells slots Q (F0 m (pc + 1 + 3) ls rest)) : W p l e R s m args below meth c H locs cells slots Q (F0 m pc ls (.long (lN b) :: .long (lN a) :: rest)) :=
  W.lcmp hx hb hd1 (lv_if_ne hx hb hd2 ht (fun h => kt (fun q => h ((lg_cmp_z _ _).mpr ((lN_inj ha hb2).mpr q)))) (fun h => kf ((lN_inj ha hb2).mp ((lg_cmp_z _ _).mp h))))
theorem nr_land1 (hx : p.tables.exec = Jvm.exec) (hb : c.code = cc) {a : Nat} (hd : decode cc pc = .ok (.land, 1)) (k : W p l e R s m args below meth c H locs cells slots Q (F0 m (pc + 1) ls (.long (lN (a % 2)) :: rest))) : W p l e R s m args below meth c H locs cells slots Q (F0 m pc ls (.long (lN 1) :: .long (lN a) :: rest)) :=
  nr_land hx hb hd (by rw [Nat.and_one_is_mod]; exact k)
theorem nr_iand1 (hx : p.tables.exec = Jvm.exec) (hb : c.code = cc) {a : Nat} (hd : decode cc pc = .ok (.iand, 1)) (k : W p l e R s m args below meth c H locs cells slots Q (F0 m (pc + 1) ls (.int (nI (a % 2)) :: rest))) : W p l e R s m args below meth c H locs cells slots Q (F0 m pc ls (.int (nI 1) :: .int (nI a) :: rest)) :=
  nr_iand hx hb hd (by rw [Nat.and_one_is_mod]; exact k)
theorem nr_ladd (hx : p.tables.exec = Jvm.exec) (hb : c.code = cc) {a b : Nat} (hd : decode cc pc = .ok (.ladd, 1)) (k : W p l e R s m args below meth c H locs cells slots Q (F0 m (pc + 1) ls (.long (lN (a + b)) :: rest))) : W p l e R s m args below meth c H locs cells slots Q (F0 m pc ls (.long (lN b) :: .long (lN a) :: rest)) :=
  lv_ladd hx hb hd (by rw [lN_add]; exact k)
theorem nr_l2i (hx : p.tables.exec = Jvm.exec) (hb : c.code = cc) {a : Nat} (hd : decode cc pc = .ok (.l2i, 1)) (k : W p l e R s m args below meth c H locs cells slots Q (F0 m (pc + 1) ls (.int (nI a) :: rest))) : W p l e R s m args below meth c H locs cells slots Q (F0 m pc ls (.long (lN a) :: rest)) :=
  lv_l2i hx hb hd (lN_i a) k
/-- the distance of two numbers -/
theorem nr_abs0 {a b : Nat} (ha : a < 2 ^ 30) (hb : b < 2 ^ 30) : (if (0 : Int32) ≤ nI a - nI b then nI a - nI b else 0 - (nI a - nI b)) = nI (a - b + (b - a)) := by
  have e := pk_sub_toInt ha hb
  by_cases h : b ≤ a
  · rw [pk_sub h, if_pos (nI_pos' (by omega))]
    congr 1
    omega
  · have h2 : a < b := by omega
    have n : ¬ (0 : Int32) ≤ nI a - nI b := fun q => by
      have := pk_sneg (a := a) hb h2
      exact absurd this (by simpa using q)
    rw [if_neg n]
    apply Int32.toInt_inj.mp
    rw [Int32.zero_sub, ← Int32.neg_sub, Int32.neg_neg, pk_sub (by omega : a ≤ b)]
    congr 1
    congr 1
    omega
end NB
end
section
/-! one form of contract for every method, its entry, its ends, and one row a call; Om: the words that all methods share -/
theorem om_good : ∀ w ∈ Om, (w.onTables && w.keeps) = true ∨ ∃ ty, w = .arrayClass ty := fun w h => good_of_word (List.mem_filter.mp h).2
/-- the one link between nest mates -/
abbrev NW : Cond := .methodLinkNest "TourForms$TourSearch" 46 ⟨"TourForms", "isPiece", "(I)Z"⟩ "TourForms"
theorem om_step {c0 c1 : Cond} (h : c1 ∈ Om) : GoodIn (c0 :: Om) (c1 :: Om) := by
  intro w hw
  rcases List.mem_cons.mp hw with rfl | h2
  · exact ⟨List.mem_cons_of_mem _ h, om_good _ h⟩
  · exact ⟨List.mem_cons_of_mem _ h2, om_good _ h2⟩
def cP (D : va_G) (ws : va_W) (ty : List (ClassId × FieldType)) (av : List Value) (sz : Nat) : Array Value → State → Prop := va_Pc av (fun U => U.heap.size = sz ∧ va_P D classes ws U.heap ∧ va_K D classes ty U ∧ va_D (fun _ => True) ws ∧ va_Nw NW U)
def cB (D : va_G) (ty : List (ClassId × FieldType)) (A : Nat → Prop) : va_W → State → Prop := fun u t => va_P D classes u t.heap ∧ va_K D classes ty t ∧ va_D A u
abbrev qI (D : va_G) (ty : List (ClassId × FieldType)) (post : Int32 → va_W → Prop) (A : Nat → Prop) : Array Value → State → Outcome → State → Prop := va_Qi post (cB D ty A) A
abbrev qL (D : va_G) (ty : List (ClassId × FieldType)) (post : Int64 → va_W → Prop) (A : Nat → Prop) : Array Value → State → Outcome → State → Prop := va_Ql post (cB D ty A) A
abbrev qV (D : va_G) (ty : List (ClassId × FieldType)) (post : va_W → Prop) (A : Nat → Prop) : Array Value → State → Outcome → State → Prop := va_Qv post (cB D ty A) A
abbrev CI (l : Launch) (y : MethodName) (w : List Cond) (rm : Room) (D : va_G) (ws : va_W) (ty : List (ClassId × FieldType)) (av : List Value) (post : Int32 → va_W → Prop) : Prop := ∀ sz, Met l y w rm (cP D ws ty av sz) (qI D ty post (va_A ws sz)) 0 0 (va_A ws sz)
abbrev CL (l : Launch) (y : MethodName) (w : List Cond) (rm : Room) (D : va_G) (ws : va_W) (ty : List (ClassId × FieldType)) (av : List Value) (post : Int64 → va_W → Prop) : Prop := ∀ sz, Met l y w rm (cP D ws ty av sz) (qL D ty post (va_A ws sz)) 0 0 (va_A ws sz)
abbrev CV (l : Launch) (y : MethodName) (w : List Cond) (rm : Room) (D : va_G) (ws : va_W) (ty : List (ClassId × FieldType)) (av : List Value) (post : va_W → Prop) : Prop := ∀ sz, Met l y w rm (cP D ws ty av sz) (qV D ty post (va_A ws sz)) 0 0 (va_A ws sz)
/-- what holds all through a method -/
def En (p : Program) (s : State) (m : MethodId) (args : Array Value) (meth : Method) (c : Code) (cc : ByteArray) (nL : Nat) (w : List Cond) (own : String) (ret : Option FieldType) (A : Nat → Prop) (D : va_G) (ty : List (ClassId × FieldType)) : Prop :=
  p.tables.exec = Jvm.exec ∧ c.code = cc ∧ c.maxLocals = nL ∧ s.vm.findClass own = some m.cls ∧ (∀ q ∈ w, q.before args s = true) ∧ meth.sig.returnType = ret ∧ meth.locks = false ∧ (∀ q : Nat, s.heap.size ≤ q → A q) ∧ va_K D classes ty s ∧ va_Nw NW s
theorem en_of {l : Launch} {y : MethodName} {w w' : List Cond} {rm : Room} {cc : ByteArray} {maxL : Nat} {ret : Option FieldType} {D : va_G} {ws : va_W} {ty : List (ClassId × FieldType)} {av : List Value} {mc ms : Nat} {Qc : (Nat → Prop) → Array Value → State → Outcome → State → Prop}
    (hy : plainName y.cls = true) (hw : w = .code y cc maxL ret :: w') (hlen : (lg_sl av).length ≤ maxL)
    (body : ∀ (p : Program) (e : Env) (s : State) (m : MethodId) (below : List Frame) (meth : Method) (c : Code) (A : Nat → Prop), En p s m av.toArray meth c cc maxL w y.cls ret A D ty → meth.name = y.name → va_P D classes ws s.heap → va_D A ws → va_S A s.heap s.heap [] → ∀ ls : Array Slot, lv_has ls maxL (lv_args 0 av) →
      W p l e rm s m av.toArray below meth c s.heap [] 0 0 (MQ below (Qc A) av.toArray s mc ms A) (F0 m 0 ls [])) (sz : Nat) :
    Met l y w rm (cP D ws ty av sz) (Qc (va_A ws sz)) mc ms (va_A ws sz) := by
  refine Met.ofW (cc := cc) (maxL := maxL) (ret := ret) hy hw ?_
  intro p e s m args below meth c s₁ B hml hv
  obtain ⟨rfl, hsz, hP, hK, hD0, hN⟩ := hv
  subst hsz
  have hts := atoms_spec (ws := w) B.pre
  have hown : s.vm.findClass y.cls = some m.cls := findClass_of_methodNamed B.named
  have hD := hD0.self (sz := s.heap.size)
  have hl := lv_entry av (n := maxL) hlen
  rw [lg_entry_eq]
  exact body p e s m below meth c (va_A ws s.heap.size) ⟨B.exec, B.bytes, hml, hown, hts, B.returns, B.notSynchronized, fun q h => Or.inr h, hK, hN⟩ (name_of_methodNamed B.named B.method).1 hP hD va_S.rf _ hl
/-- a method that the words know: its code, and that it can be called on its class -/
def MV (y : MethodName) (bytes : ByteArray) (maxL : Nat) (rt : Option FieldType) (n : Nat) : Prop := Cond.code y bytes maxL rt ∈ Om ∧ Cond.instanceMethod y ∈ Om ∧ Cond.selects y.cls y y ∈ Om ∧ Cond.initialized y.cls ∈ Om ∧ y.cls ≠ "java/lang/invoke/MethodHandle" ∧ y.cls ≠ "java/lang/invoke/VarHandle" ∧ (parseMethodDescriptor y.desc).map (fun d => d.parameters.length) = some n
def MS (y : MethodName) (bytes : ByteArray) (maxL : Nat) (rt : Option FieldType) (n : Nat) : Prop := Cond.code y bytes maxL rt ∈ Om ∧ Cond.static y ∈ Om ∧ Cond.initialized y.cls ∈ Om ∧ y.cls ≠ "java/lang/invoke/MethodHandle" ∧ y.cls ≠ "java/lang/invoke/VarHandle" ∧ (parseMethodDescriptor y.desc).map (fun d => d.parameters.length) = some n
def MI (y : MethodName) (bytes : ByteArray) (maxL : Nat) (n : Nat) : Prop := Cond.code y bytes maxL none ∈ Om ∧ Cond.instanceMethod y ∈ Om ∧ y.name = "<init>" ∧ Cond.initialized y.cls ∈ Om ∧ y.cls ≠ "java/lang/invoke/MethodHandle" ∧ y.cls ≠ "java/lang/invoke/VarHandle" ∧ (parseMethodDescriptor y.desc).map (fun d => d.parameters.length) = some n
theorem cP_blind {D : va_G} {ws : va_W} {ty : List (ClassId × FieldType)} {av : List Value} {sz : Nat} : FrameBlind (cP D ws ty av sz) := by
  intro a U g mk q
  obtain ⟨q0, q1, qP, qK, qD, qN⟩ := q
  exact ⟨q0, q1, qP, va_K.moved (u := U) (U := U.calling g mk a) (Vm.Alike.refl U.vm) qK, qD, va_Nw.same (u := U) (U := U.calling g mk a) rfl rfl qN⟩
theorem cP_pre {s : State} {H : Heap} {D : va_G} {ws : va_W} {ty : List (ClassId × FieldType)} {av : List Value} {A : Nat → Prop} (hP : va_P D classes ws H) (hK : va_K D classes ty s) (hD : va_D A ws) (hN : va_Nw NW s) : ∀ U : State, U.heap = H → s.WarmedH U.vm → cP D ws ty av H.size av.toArray U :=
  fun U hU hW => ⟨rfl, by rw [hU], by rw [hU]; exact hP, va_K.moved hW.alike hK, hD.weaken (fun _ _ _ _ => trivial), va_Nw.warmM hW hN⟩
section CR
variable {p : Program} {l : Launch} {e : Env} {R : Room} {s : State} {m : MethodId} {args : Array Value} {below : List Frame} {meth : Method} {c : Code} {H : Heap} {locs : List Loc} {cells slots : Nat} {Q : State → Prop} {pc : Nat} {ls : Array Slot} {rest : List Value} {cc : ByteArray} {D : va_G} {ty : List (ClassId × FieldType)} {ws wc wr : va_W} {A : Nat → Prop} {nL : Nat} {w : List Cond} {own : String} {ret : Option FieldType} {mc ms : Nat}
theorem rt_i {post : Int32 → va_W → Prop} (E : En p s m args meth c cc nL w own (some .int) A D ty) (hP : va_P D classes ws H) (hD : va_D A ws) (hS : va_S A s.heap H locs) {v : Int32} (hpost : post v ws) (hd : decode cc pc = .ok (.ireturn, 1)) : W p l e R s m args below meth c H locs cells slots (MQ below (qI D ty post A) args s cells slots A) (F0 m pc ls [.int v]) := by
  obtain ⟨hx, hb, hml, hown, hts, hr, hlk, hA, hK, hN⟩ := E
  exact W.iret hx hb hr (fun t ht hW => ⟨⟨v, ws, rfl, hpost, by rw [ht]; exact hP, va_K.moved hW.alike hK, hD⟩, hS.F ht⟩) hS.2.2 hd hlk
theorem rt_z {post : Int32 → va_W → Prop} (E : En p s m args meth c cc nL w own (some .boolean) A D ty) (hP : va_P D classes ws H) (hD : va_D A ws) (hS : va_S A s.heap H locs) {v : Int32} (hv : v = 0 ∨ v = 1) (hpost : post v ws) (hd : decode cc pc = .ok (.ireturn, 1)) : W p l e R s m args below meth c H locs cells slots (MQ below (qI D ty post A) args s cells slots A) (F0 m pc ls [.int v]) := by
  obtain ⟨hx, hb, hml, hown, hts, hr, hlk, hA, hK, hN⟩ := E
  exact W.zret hx hb hr (by rcases hv with rfl | rfl <;> decide) (fun t ht hW => ⟨⟨v, ws, rfl, hpost, by rw [ht]; exact hP, va_K.moved hW.alike hK, hD⟩, hS.F ht⟩) hS.2.2 hd hlk
theorem rt_l {post : Int64 → va_W → Prop} (E : En p s m args meth c cc nL w own (some .long) A D ty) (hP : va_P D classes ws H) (hD : va_D A ws) (hS : va_S A s.heap H locs) {v : Int64} (hpost : post v ws) (hd : decode cc pc = .ok (.lreturn, 1)) : W p l e R s m args below meth c H locs cells slots (MQ below (qL D ty post A) args s cells slots A) (F0 m pc ls [.long v]) := by
  obtain ⟨hx, hb, hml, hown, hts, hr, hlk, hA, hK, hN⟩ := E
  exact W.lret hx hb hr (fun t ht hW => ⟨⟨v, ws, rfl, hpost, by rw [ht]; exact hP, va_K.moved hW.alike hK, hD⟩, hS.F ht⟩) hS.2.2 hd hlk
theorem rt_v {post : va_W → Prop} (E : En p s m args meth c cc nL w own none A D ty) (hP : va_P D classes ws H) (hD : va_D A ws) (hS : va_S A s.heap H locs) (hpost : post ws) (hd : decode cc pc = .ok (.return_, 1)) : W p l e R s m args below meth c H locs cells slots (MQ below (qV D ty post A) args s cells slots A) (F0 m pc ls []) := by
  obtain ⟨hx, hb, hml, hown, hts, hr, hlk, hA, hK, hN⟩ := E
  exact W.vret hx hb hr (fun t ht hW => ⟨⟨ws, rfl, hpost, by rw [ht]; exact hP, va_K.moved hW.alike hK, hD⟩, hS.F ht⟩) hS.2.2 hd hlk
/-- behind a call: the other cells first, then what came back -/
theorem af_i {post : Int32 → va_W → Prop} {a : Array Value} {st0 : List Value} (isC isR : List Nat) (hP : va_P D classes ws H) (hD : va_D A ws) (hS : va_S A s.heap H locs) (hA : ∀ q : Nat, s.heap.size ≤ q → A q) (hC : isC.map (fun i => ws[i]?) = wc.map some) (hR : isR.map (fun i => ws[i]?) = wr.map some) (hn : va_nd isR = true) (hdis : ∀ i ∈ isR, i ∉ isC)
    (hr : va_Run p l e R s m args below meth c H locs cells slots 0 0 (F0 m pc ls st0) rest (qI D ty post (va_A wc H.size) a) (va_A wc H.size))
    (kk : ∀ (r : Int32) (u : va_W) (H1 : Heap) (locs1 : List Loc), post r u → va_P D classes (wr ++ u) H1 → va_D A (wr ++ u) → va_S A s.heap H1 locs1 → W p l e R s m args below meth c H1 locs1 cells slots Q (F0 m (pc + 3) ls (.int r :: rest))) : W p l e R s m args below meth c H locs cells slots Q (F0 m pc ls st0) := by
  have hFc := va_free hD hS hA isC hC
  refine va_calli hr hS (fun q _ h => hFc q h) hFc (fun r u t H1 locs1 ht hvm hw hB hz1 hk1 hS1 => ?_)
  obtain ⟨hP1, hK1, hD1⟩ := hB
  rw [ht] at hP1
  obtain ⟨hP2, hD2⟩ := va_join hP hD isC isR hC hR hn hdis hk1 hFc hP1 hD1
  exact kk r u H1 locs1 hw hP2 hD2 hS1
theorem af_l {post : Int64 → va_W → Prop} {a : Array Value} {st0 : List Value} (isC isR : List Nat) (hP : va_P D classes ws H) (hD : va_D A ws) (hS : va_S A s.heap H locs) (hA : ∀ q : Nat, s.heap.size ≤ q → A q) (hC : isC.map (fun i => ws[i]?) = wc.map some) (hR : isR.map (fun i => ws[i]?) = wr.map some) (hn : va_nd isR = true) (hdis : ∀ i ∈ isR, i ∉ isC)
    (hr : va_Run p l e R s m args below meth c H locs cells slots 0 0 (F0 m pc ls st0) rest (qL D ty post (va_A wc H.size) a) (va_A wc H.size))
    (kk : ∀ (r : Int64) (u : va_W) (H1 : Heap) (locs1 : List Loc), post r u → va_P D classes (wr ++ u) H1 → va_D A (wr ++ u) → va_S A s.heap H1 locs1 → W p l e R s m args below meth c H1 locs1 cells slots Q (F0 m (pc + 3) ls (.long r :: rest))) : W p l e R s m args below meth c H locs cells slots Q (F0 m pc ls st0) := by
  have hFc := va_free hD hS hA isC hC
  refine va_calll hr hS (fun q _ h => hFc q h) hFc (fun r u t H1 locs1 ht hvm hw hB hz1 hk1 hS1 => ?_)
  obtain ⟨hP1, hK1, hD1⟩ := hB
  rw [ht] at hP1
  obtain ⟨hP2, hD2⟩ := va_join hP hD isC isR hC hR hn hdis hk1 hFc hP1 hD1
  exact kk r u H1 locs1 hw hP2 hD2 hS1
theorem af_v {post : va_W → Prop} {a : Array Value} {st0 : List Value} (isC isR : List Nat) (hP : va_P D classes ws H) (hD : va_D A ws) (hS : va_S A s.heap H locs) (hA : ∀ q : Nat, s.heap.size ≤ q → A q) (hC : isC.map (fun i => ws[i]?) = wc.map some) (hR : isR.map (fun i => ws[i]?) = wr.map some) (hn : va_nd isR = true) (hdis : ∀ i ∈ isR, i ∉ isC)
    (hr : va_Run p l e R s m args below meth c H locs cells slots mc ms (F0 m pc ls st0) rest (qV D ty post (va_A wc H.size) a) (va_A wc H.size))
    (kk : ∀ (u : va_W) (H1 : Heap) (locs1 : List Loc), post u → va_P D classes (wr ++ u) H1 → va_D A (wr ++ u) → va_S A s.heap H1 locs1 → W p l e R s m args below meth c H1 locs1 (cells + mc) (slots + ms) Q (F0 m (pc + 3) ls rest)) : W p l e R s m args below meth c H locs cells slots Q (F0 m pc ls st0) := by
  have hFc := va_free hD hS hA isC hC
  refine va_callv hr hS (fun q _ h => hFc q h) hFc (fun u t H1 locs1 ht hvm hw hB hz1 hk1 hS1 => ?_)
  obtain ⟨hP1, hK1, hD1⟩ := hB
  rw [ht] at hP1
  obtain ⟨hP2, hD2⟩ := va_join hP hD isC isR hC hR hn hdis hk1 hFc hP1 hD1
  exact kk u H1 locs1 hw hP2 hD2 hS1
variable {c0 : Cond} {y : MethodName} {bytes : ByteArray} {maxL n index : Nat} {rt : Option FieldType} {rm : Room} {b : Addr} {As : List Value} {Qc : Array Value → State → Outcome → State → Prop} {st0 : List Value} {host : String} {ci q0 : Nat} {fs : List Value} {T : u_T} {N : Nat}
theorem rn_V (E : En p s m args meth c cc nL (c0 :: Om) own ret A D ty) (f : MV y bytes maxL rt n) (hlink : Cond.methodLink own index y ∈ Om) (hM : Met l y (.code y bytes maxL rt :: Om) rm (cP D wc ty (.ref b :: As) H.size) Qc mc ms (va_A wc H.size)) (hrm : rm.cells = mc ∧ rm.slots = ms ∧ rm.frames + 1 ≤ R.frames ∧ 8 + (maxL + 11) + rm.locals ≤ R.locals)
    (hP : va_P D classes wc H) (hD : va_D A wc) (he : wc[q0]? = some (b, .inr (ci, fs))) (hci : classes[ci]? = some (y.cls, T, N)) (hn : As.length = n) (hsize : ls.size = nL) (hstk : st0 = As.reverse ++ .ref b :: rest) (hW : (rest.map fun v => v.category).sum ≤ 8) (hf : cells + mc ≤ R.cells ∧ slots + ms ≤ R.slots) (hdg : decode cc pc = .ok (.invokevirtual index, 3)) :
    va_Run p l e R s m args below meth c H locs cells slots mc ms (F0 m pc ls st0) rest (Qc (Value.ref b :: As).toArray) (va_A wc H.size) := by
  obtain ⟨hx, hb, hml, hown, hts, hr, hlk, hA, hK, hN⟩ := E
  obtain ⟨f1, f2, f3, f4, f5, f6, f7⟩ := f
  have ho : ∀ q ∈ Om, q.before args s = true := fun q h => hts q (List.mem_cons_of_mem _ h)
  exact va_runV ⟨hx, hb, hml, hown, hts⟩ hM ⟨callB_of n hts (om_step f1) rfl hrm.1 hrm.2.1 (ho _ f4) (ho _ hlink) ⟨f5, f6, f7⟩ hrm.2.2, ho _ f2, ho _ f3⟩ ⟨cP_blind, va_recv hK hP hci he, cP_pre hP hK hD hN⟩ rfl hn hsize hstk (lv_room hW) hdg hf
theorem rn_VN (E : En p s m args meth c cc nL (c0 :: Om) own ret A D ty) (f : MV y bytes maxL rt n) (hlink : va_Nw (Cond.methodLinkNest own index y host) s) (hM : Met l y (.code y bytes maxL rt :: Om) rm (cP D wc ty (.ref b :: As) H.size) Qc mc ms (va_A wc H.size)) (hrm : rm.cells = mc ∧ rm.slots = ms ∧ rm.frames + 1 ≤ R.frames ∧ 8 + (maxL + 11) + rm.locals ≤ R.locals)
    (hP : va_P D classes wc H) (hD : va_D A wc) (he : wc[q0]? = some (b, .inr (ci, fs))) (hci : classes[ci]? = some (y.cls, T, N)) (hn : As.length = n) (hsize : ls.size = nL) (hstk : st0 = As.reverse ++ .ref b :: rest) (hW : (rest.map fun v => v.category).sum ≤ 8) (hf : cells + mc ≤ R.cells ∧ slots + ms ≤ R.slots) (hdg : decode cc pc = .ok (.invokevirtual index, 3)) :
    va_Run p l e R s m args below meth c H locs cells slots mc ms (F0 m pc ls st0) rest (Qc (Value.ref b :: As).toArray) (va_A wc H.size) := by
  obtain ⟨hx, hb, hml, hown, hts, hr, hlk, hA, hK, hN⟩ := E
  obtain ⟨f1, f2, f3, f4, f5, f6, f7⟩ := f
  have ho : ∀ q ∈ Om, q.before args s = true := fun q h => hts q (List.mem_cons_of_mem _ h)
  exact va_runVN ⟨hx, hb, hml, hown, hts⟩ hM ⟨va_cnB n hts (om_step f1) rfl hrm.1 hrm.2.1 hlink (ho _ f4) ⟨f5, f6, f7⟩ hrm.2.2, ho _ f2, ho _ f3⟩ ⟨cP_blind, va_recv hK hP hci he, cP_pre hP hK hD hN⟩ rfl hn hsize hstk (lv_room hW) hdg hf
theorem rn_S (E : En p s m args meth c cc nL (c0 :: Om) own ret A D ty) (f : MS y bytes maxL rt n) (hlink : Cond.methodLink own index y ∈ Om) (hM : Met l y (.code y bytes maxL rt :: Om) rm (cP D wc ty As H.size) Qc mc ms (va_A wc H.size)) (hrm : rm.cells = mc ∧ rm.slots = ms ∧ rm.frames + 1 ≤ R.frames ∧ 8 + (maxL + 11) + rm.locals ≤ R.locals)
    (hP : va_P D classes wc H) (hD : va_D A wc) (hn : As.length = n) (hsize : ls.size = nL) (hstk : st0 = As.reverse ++ rest) (hW : (rest.map fun v => v.category).sum ≤ 8) (hf : cells + mc ≤ R.cells ∧ slots + ms ≤ R.slots) (hdg : decode cc pc = .ok (.invokestatic index, 3)) :
    va_Run p l e R s m args below meth c H locs cells slots mc ms (F0 m pc ls st0) rest (Qc As.toArray) (va_A wc H.size) := by
  obtain ⟨hx, hb, hml, hown, hts, hr, hlk, hA, hK, hN⟩ := E
  obtain ⟨f1, f2, f4, f5, f6, f7⟩ := f
  have ho : ∀ q ∈ Om, q.before args s = true := fun q h => hts q (List.mem_cons_of_mem _ h)
  exact va_runS ⟨hx, hb, hml, hown, hts⟩ hM ⟨callB_of n hts (om_step f1) rfl hrm.1 hrm.2.1 (ho _ f4) (ho _ hlink) ⟨f5, f6, f7⟩ hrm.2.2, ho _ f2⟩ ⟨cP_blind, cP_pre hP hK hD hN⟩ rfl hn hsize hstk (lv_room hW) hdg hf
theorem rn_SN (E : En p s m args meth c cc nL (c0 :: Om) own ret A D ty) (f : MS y bytes maxL rt n) (hlink : va_Nw (Cond.methodLinkNest own index y host) s) (hM : Met l y (.code y bytes maxL rt :: Om) rm (cP D wc ty As H.size) Qc mc ms (va_A wc H.size)) (hrm : rm.cells = mc ∧ rm.slots = ms ∧ rm.frames + 1 ≤ R.frames ∧ 8 + (maxL + 11) + rm.locals ≤ R.locals)
    (hP : va_P D classes wc H) (hD : va_D A wc) (hn : As.length = n) (hsize : ls.size = nL) (hstk : st0 = As.reverse ++ rest) (hW : (rest.map fun v => v.category).sum ≤ 8) (hf : cells + mc ≤ R.cells ∧ slots + ms ≤ R.slots) (hdg : decode cc pc = .ok (.invokestatic index, 3)) :
    va_Run p l e R s m args below meth c H locs cells slots mc ms (F0 m pc ls st0) rest (Qc As.toArray) (va_A wc H.size) := by
  obtain ⟨hx, hb, hml, hown, hts, hr, hlk, hA, hK, hN⟩ := E
  obtain ⟨f1, f2, f4, f5, f6, f7⟩ := f
  have ho : ∀ q ∈ Om, q.before args s = true := fun q h => hts q (List.mem_cons_of_mem _ h)
  exact va_runSN ⟨hx, hb, hml, hown, hts⟩ hM ⟨va_cnB n hts (om_step f1) rfl hrm.1 hrm.2.1 hlink (ho _ f4) ⟨f5, f6, f7⟩ hrm.2.2, ho _ f2, trivial⟩ ⟨cP_blind, cP_pre hP hK hD hN⟩ rfl hn hsize hstk (lv_room hW) hdg hf
theorem rn_I (E : En p s m args meth c cc nL (c0 :: Om) own ret A D ty) (f : MI y bytes maxL n) (hlink : Cond.methodLink own index y ∈ Om) (hM : Met l y (.code y bytes maxL none :: Om) rm (cP D wc ty (.ref b :: As) H.size) Qc mc ms (va_A wc H.size)) (hrm : rm.cells = mc ∧ rm.slots = ms ∧ rm.frames + 1 ≤ R.frames ∧ 8 + (maxL + 11) + rm.locals ≤ R.locals)
    (hP : va_P D classes wc H) (hD : va_D A wc) (hn : As.length = n) (hsize : ls.size = nL) (hstk : st0 = As.reverse ++ .ref b :: rest) (hW : (rest.map fun v => v.category).sum ≤ 8) (hf : cells + mc ≤ R.cells ∧ slots + ms ≤ R.slots) (hdg : decode cc pc = .ok (.invokespecial index, 3)) :
    va_Run p l e R s m args below meth c H locs cells slots mc ms (F0 m pc ls st0) rest (Qc (Value.ref b :: As).toArray) (va_A wc H.size) := by
  obtain ⟨hx, hb, hml, hown, hts, hr, hlk, hA, hK, hN⟩ := E
  obtain ⟨f1, f2, f3, f4, f5, f6, f7⟩ := f
  have ho : ∀ q ∈ Om, q.before args s = true := fun q h => hts q (List.mem_cons_of_mem _ h)
  exact va_runI ⟨hx, hb, hml, hown, hts⟩ hM ⟨callB_of n hts (om_step f1) rfl hrm.1 hrm.2.1 (ho _ f4) (ho _ hlink) ⟨f5, f6, f7⟩ hrm.2.2, f3, ho _ f2⟩ ⟨cP_blind, cP_pre hP hK hD hN⟩ rfl hn hsize hstk (lv_room hW) hdg hf
end CR
end
section
theorem kf_TF_18 : Cond.fieldLink R_TF 18 "TourForms" "board" "LTourForms$Board;" ∈ Om := om_at (List.mem_of_getElem? (i := 204) (by decide +kernel)) rfl
theorem kf_TF_25 : Cond.fieldLink R_TF 25 "TourForms" "search" "LTourForms$TourSearch;" ∈ Om := om_at (List.mem_of_getElem? (i := 205) (by decide +kernel)) rfl
theorem kf_TF_32 : Cond.fieldLink R_TF 32 "TourForms" "queenSearch" "LTourForms$QueenSearch;" ∈ Om := om_at (List.mem_of_getElem? (i := 206) (by decide +kernel)) rfl
theorem kf_TF_39 : Cond.fieldLink R_TF 39 "TourForms" "rectangle" "LTourForms$Rectangle;" ∈ Om := om_at (List.mem_of_getElem? (i := 207) (by decide +kernel)) rfl
theorem kf_TF_43 : Cond.fieldLink R_TF 43 "TourForms" "startCell" "I" ∈ Om := om_at (List.mem_of_getElem? (i := 208) (by decide +kernel)) rfl
theorem kf_BD_7 : Cond.fieldLink R_BD 7 "TourForms$Board" "width" "I" ∈ Om := om_at (List.mem_of_getElem? (i := 65) (by decide +kernel)) rfl
theorem kf_BD_13 : Cond.fieldLink R_BD 13 "TourForms$Board" "height" "I" ∈ Om := om_at (List.mem_of_getElem? (i := 66) (by decide +kernel)) rfl
theorem kf_BD_16 : Cond.fieldLink R_BD 16 "TourForms$Board" "cells" "I" ∈ Om := om_at (List.mem_of_getElem? (i := 67) (by decide +kernel)) rfl
theorem kf_BD_19 : Cond.fieldLink R_BD 19 "TourForms$Board" "free" "J" ∈ Om := om_at (List.mem_of_getElem? (i := 68) (by decide +kernel)) rfl
theorem kf_QS_9 : Cond.fieldLink R_QS 9 "TourForms$QueenSearch" "rows" "[I" ∈ Om := om_at (List.mem_of_getElem? (i := 136) (by decide +kernel)) rfl
theorem kf_QS_21 : Cond.fieldLink R_QS 21 "TourForms$QueenSearch" "width" "I" ∈ Om := om_at (List.mem_of_getElem? (i := 134) (by decide +kernel)) rfl
theorem kf_QS_25 : Cond.fieldLink R_QS 25 "TourForms$QueenSearch" "height" "I" ∈ Om := om_at (List.mem_of_getElem? (i := 135) (by decide +kernel)) rfl
theorem kf_QS_28 : Cond.fieldLink R_QS 28 "TourForms$QueenSearch" "free" "J" ∈ Om := om_at (List.mem_of_getElem? (i := 137) (by decide +kernel)) rfl
theorem kf_QS_32 : Cond.fieldLink R_QS 32 "TourForms$QueenSearch" "waysSeen" "I" ∈ Om := om_at (List.mem_of_getElem? (i := 138) (by decide +kernel)) rfl
theorem kf_RC_9 : Cond.fieldLink R_RC 9 "TourForms$Rectangle" "fixed" "[I" ∈ Om := om_at (List.mem_of_getElem? (i := 162) (by decide +kernel)) rfl
theorem kf_RC_15 : Cond.fieldLink R_RC 15 "TourForms$Rectangle" "least" "[I" ∈ Om := om_at (List.mem_of_getElem? (i := 163) (by decide +kernel)) rfl
theorem kf_RC_18 : Cond.fieldLink R_RC 18 "TourForms$Rectangle" "tried" "[I" ∈ Om := om_at (List.mem_of_getElem? (i := 164) (by decide +kernel)) rfl
theorem kf_RC_21 : Cond.fieldLink R_RC 21 "TourForms$Rectangle" "witness" "[I" ∈ Om := om_at (List.mem_of_getElem? (i := 165) (by decide +kernel)) rfl
theorem kf_RC_24 : Cond.fieldLink R_RC 24 "TourForms$Rectangle" "columnOf" "[I" ∈ Om := om_at (List.mem_of_getElem? (i := 166) (by decide +kernel)) rfl
theorem kf_RC_27 : Cond.fieldLink R_RC 27 "TourForms$Rectangle" "rowOf" "[I" ∈ Om := om_at (List.mem_of_getElem? (i := 167) (by decide +kernel)) rfl
theorem kf_RC_30 : Cond.fieldLink R_RC 30 "TourForms$Rectangle" "usedInColumn" "[I" ∈ Om := om_at (List.mem_of_getElem? (i := 168) (by decide +kernel)) rfl
theorem kf_RC_33 : Cond.fieldLink R_RC 33 "TourForms$Rectangle" "usedInRow" "[I" ∈ Om := om_at (List.mem_of_getElem? (i := 169) (by decide +kernel)) rfl
theorem kf_RC_36 : Cond.fieldLink R_RC 36 "TourForms$Rectangle" "possibleInColumn" "[I" ∈ Om := om_at (List.mem_of_getElem? (i := 170) (by decide +kernel)) rfl
theorem kf_RC_39 : Cond.fieldLink R_RC 39 "TourForms$Rectangle" "possibleInRow" "[I" ∈ Om := om_at (List.mem_of_getElem? (i := 171) (by decide +kernel)) rfl
theorem kf_RC_48 : Cond.fieldLink R_RC 48 "TourForms$Rectangle" "cells" "I" ∈ Om := om_at (List.mem_of_getElem? (i := 158) (by decide +kernel)) rfl
theorem kf_RC_55 : Cond.fieldLink R_RC 55 "TourForms$Rectangle" "greatest" "I" ∈ Om := om_at (List.mem_of_getElem? (i := 159) (by decide +kernel)) rfl
theorem kf_RC_58 : Cond.fieldLink R_RC 58 "TourForms$Rectangle" "shorterSide" "I" ∈ Om := om_at (List.mem_of_getElem? (i := 160) (by decide +kernel)) rfl
theorem kf_RC_61 : Cond.fieldLink R_RC 61 "TourForms$Rectangle" "all" "I" ∈ Om := om_at (List.mem_of_getElem? (i := 161) (by decide +kernel)) rfl
theorem kf_RC_64 : Cond.fieldLink R_RC 64 "TourForms$Rectangle" "found" "Z" ∈ Om := om_at (List.mem_of_getElem? (i := 172) (by decide +kernel)) rfl
theorem kf_TS_9 : Cond.fieldLink R_TS 9 "TourForms$TourSearch" "path" "[I" ∈ Om := om_at (List.mem_of_getElem? (i := 95) (by decide +kernel)) rfl
theorem kf_TS_15 : Cond.fieldLink R_TS 15 "TourForms$TourSearch" "waysOn" "[I" ∈ Om := om_at (List.mem_of_getElem? (i := 96) (by decide +kernel)) rfl
theorem kf_TS_18 : Cond.fieldLink R_TS 18 "TourForms$TourSearch" "waysOnCount" "[I" ∈ Om := om_at (List.mem_of_getElem? (i := 97) (by decide +kernel)) rfl
theorem kf_TS_21 : Cond.fieldLink R_TS 21 "TourForms$TourSearch" "waysOnTried" "[I" ∈ Om := om_at (List.mem_of_getElem? (i := 98) (by decide +kernel)) rfl
theorem kf_TS_28 : Cond.fieldLink R_TS 28 "TourForms$TourSearch" "reaches" "[J" ∈ Om := om_at (List.mem_of_getElem? (i := 94) (by decide +kernel)) rfl
theorem kf_TS_50 : Cond.fieldLink R_TS 50 "TourForms$TourSearch" "found" "Z" ∈ Om := om_at (List.mem_of_getElem? (i := 103) (by decide +kernel)) rfl
theorem kf_TS_54 : Cond.fieldLink R_TS 54 "TourForms$TourSearch" "made" "I" ∈ Om := om_at (List.mem_of_getElem? (i := 102) (by decide +kernel)) rfl
theorem kf_TS_61 : Cond.fieldLink R_TS 61 "TourForms$TourSearch" "piece" "I" ∈ Om := om_at (List.mem_of_getElem? (i := 99) (by decide +kernel)) rfl
theorem kf_TS_64 : Cond.fieldLink R_TS 64 "TourForms$TourSearch" "open" "J" ∈ Om := om_at (List.mem_of_getElem? (i := 100) (by decide +kernel)) rfl
theorem kf_TS_68 : Cond.fieldLink R_TS 68 "TourForms$TourSearch" "length" "I" ∈ Om := om_at (List.mem_of_getElem? (i := 101) (by decide +kernel)) rfl
theorem kf_MD_7 : Cond.fieldLink R_MD 7 "TourFormsModel" "barred" "[Z" ∈ Om := om_at (List.mem_of_getElem? (i := 471) (by decide +kernel)) rfl
theorem kf_MD_13 : Cond.fieldLink R_MD 13 "TourFormsModel" "visited" "[Z" ∈ Om := om_at (List.mem_of_getElem? (i := 472) (by decide +kernel)) rfl
theorem kf_MD_16 : Cond.fieldLink R_MD 16 "TourFormsModel" "tour" "[I" ∈ Om := om_at (List.mem_of_getElem? (i := 473) (by decide +kernel)) rfl
theorem kf_MD_20 : Cond.fieldLink R_MD 20 "TourFormsModel" "row" "[I" ∈ Om := om_at (List.mem_of_getElem? (i := 478) (by decide +kernel)) rfl
theorem kf_MD_23 : Cond.fieldLink R_MD 23 "TourFormsModel" "listed" "[I" ∈ Om := om_at (List.mem_of_getElem? (i := 479) (by decide +kernel)) rfl
theorem kf_MD_26 : Cond.fieldLink R_MD 26 "TourFormsModel" "givenAt" "[I" ∈ Om := om_at (List.mem_of_getElem? (i := 480) (by decide +kernel)) rfl
theorem kf_MD_29 : Cond.fieldLink R_MD 29 "TourFormsModel" "filled" "[I" ∈ Om := om_at (List.mem_of_getElem? (i := 481) (by decide +kernel)) rfl
theorem kf_MD_32 : Cond.fieldLink R_MD 32 "TourFormsModel" "found" "[I" ∈ Om := om_at (List.mem_of_getElem? (i := 482) (by decide +kernel)) rfl
theorem kf_MD_35 : Cond.fieldLink R_MD 35 "TourFormsModel" "may" "[I" ∈ Om := om_at (List.mem_of_getElem? (i := 483) (by decide +kernel)) rfl
theorem kf_MD_42 : Cond.fieldLink R_MD 42 "TourFormsModel" "width" "I" ∈ Om := om_at (List.mem_of_getElem? (i := 467) (by decide +kernel)) rfl
theorem kf_MD_46 : Cond.fieldLink R_MD 46 "TourFormsModel" "height" "I" ∈ Om := om_at (List.mem_of_getElem? (i := 468) (by decide +kernel)) rfl
theorem kf_MD_49 : Cond.fieldLink R_MD 49 "TourFormsModel" "cells" "I" ∈ Om := om_at (List.mem_of_getElem? (i := 469) (by decide +kernel)) rfl
theorem kf_MD_52 : Cond.fieldLink R_MD 52 "TourFormsModel" "numbers" "I" ∈ Om := om_at (List.mem_of_getElem? (i := 470) (by decide +kernel)) rfl
theorem kf_MD_55 : Cond.fieldLink R_MD 55 "TourFormsModel" "thrown" "I" ∈ Om := om_at (List.mem_of_getElem? (i := 477) (by decide +kernel)) rfl
theorem kf_MD_62 : Cond.fieldLink R_MD 62 "TourFormsModel" "tourLong" "I" ∈ Om := om_at (List.mem_of_getElem? (i := 475) (by decide +kernel)) rfl
theorem kf_MD_65 : Cond.fieldLink R_MD 65 "TourFormsModel" "begin" "I" ∈ Om := om_at (List.mem_of_getElem? (i := 474) (by decide +kernel)) rfl
theorem kf_MD_87 : Cond.fieldLink R_MD 87 "TourFormsModel" "steps" "I" ∈ Om := om_at (List.mem_of_getElem? (i := 476) (by decide +kernel)) rfl
theorem kf_MD_102 : Cond.fieldLink R_MD 102 "TourFormsModel" "isFound" "Z" ∈ Om := om_at (List.mem_of_getElem? (i := 484) (by decide +kernel)) rfl
theorem km_TF_1 : Cond.methodLink R_TF 1 objectInit ∈ Om := om_at (List.mem_of_getElem? (i := 47) (by decide +kernel)) rfl
theorem km_TF_7 : Cond.methodLink R_TF 7 y_TF_heldToSide ∈ Om := om_at (List.mem_of_getElem? (i := 50) (by decide +kernel)) rfl
theorem km_TF_15 : Cond.methodLink R_TF 15 y_BD_init ∈ Om := om_at (List.mem_of_getElem? (i := 61) (by decide +kernel)) rfl
theorem km_TF_24 : Cond.methodLink R_TF 24 y_TS_init ∈ Om := om_at (List.mem_of_getElem? (i := 80) (by decide +kernel)) rfl
theorem km_TF_31 : Cond.methodLink R_TF 31 y_QS_init ∈ Om := om_at (List.mem_of_getElem? (i := 129) (by decide +kernel)) rfl
theorem km_TF_38 : Cond.methodLink R_TF 38 y_RC_init ∈ Om := om_at (List.mem_of_getElem? (i := 152) (by decide +kernel)) rfl
theorem km_TF_47 : Cond.methodLink R_TF 47 y_BD_cellAt ∈ Om := om_at (List.mem_of_getElem? (i := 224) (by decide +kernel)) rfl
theorem km_TF_51 : Cond.methodLink R_TF 51 y_BD_isFree ∈ Om := om_at (List.mem_of_getElem? (i := 228) (by decide +kernel)) rfl
theorem km_TF_55 : Cond.methodLink R_TF 55 y_BD_turnBar ∈ Om := om_at (List.mem_of_getElem? (i := 236) (by decide +kernel)) rfl
theorem km_TF_59 : Cond.methodLink R_TF 59 y_TS_forget ∈ Om := om_at (List.mem_of_getElem? (i := 240) (by decide +kernel)) rfl
theorem km_TF_62 : Cond.methodLink R_TF 62 y_TF_isPiece ∈ Om := om_at (List.mem_of_getElem? (i := 252) (by decide +kernel)) rfl
theorem km_TF_66 : Cond.methodLink R_TF 66 y_TS_giveUp ∈ Om := om_at (List.mem_of_getElem? (i := 256) (by decide +kernel)) rfl
theorem km_TF_69 : Cond.methodLink R_TF 69 y_BD_freeCells ∈ Om := om_at (List.mem_of_getElem? (i := 260) (by decide +kernel)) rfl
theorem km_TF_73 : Cond.methodLink R_TF 73 y_TS_begin ∈ Om := om_at (List.mem_of_getElem? (i := 264) (by decide +kernel)) rfl
theorem km_TF_77 : Cond.methodLink R_TF 77 y_TS_run ∈ Om := om_at (List.mem_of_getElem? (i := 294) (by decide +kernel)) rfl
theorem km_TF_81 : Cond.methodLink R_TF 81 y_TS_cellOfTour ∈ Om := om_at (List.mem_of_getElem? (i := 314) (by decide +kernel)) rfl
theorem km_TF_84 : Cond.methodLink R_TF 84 y_TS_stepsMade ∈ Om := om_at (List.mem_of_getElem? (i := 322) (by decide +kernel)) rfl
theorem km_TF_88 : Cond.methodLink R_TF 88 y_BD_hasCell ∈ Om := om_at (List.mem_of_getElem? (i := 330) (by decide +kernel)) rfl
theorem km_TF_91 : Cond.methodLink R_TF 91 y_TS_reach ∈ Om := om_at (List.mem_of_getElem? (i := 331) (by decide +kernel)) rfl
theorem km_TF_95 : Cond.methodLink R_TF 95 y_LG_bitCount ∈ Om := om_at (List.mem_of_getElem? (i := 332) (by decide +kernel)) rfl
theorem km_TF_101 : Cond.methodLink R_TF 101 y_QS_countWays ∈ Om := om_at (List.mem_of_getElem? (i := 337) (by decide +kernel)) rfl
theorem km_TF_104 : Cond.methodLink R_TF 104 y_QS_rowInWay ∈ Om := om_at (List.mem_of_getElem? (i := 360) (by decide +kernel)) rfl
theorem km_TF_108 : Cond.methodLink R_TF 108 y_RC_allows ∈ Om := om_at (List.mem_of_getElem? (i := 368) (by decide +kernel)) rfl
theorem km_TF_111 : Cond.methodLink R_TF 111 y_RC_give ∈ Om := om_at (List.mem_of_getElem? (i := 372) (by decide +kernel)) rfl
theorem km_TF_114 : Cond.methodLink R_TF 114 y_RC_findLeast ∈ Om := om_at (List.mem_of_getElem? (i := 380) (by decide +kernel)) rfl
theorem km_TF_118 : Cond.methodLink R_TF 118 y_RC_foundAt ∈ Om := om_at (List.mem_of_getElem? (i := 436) (by decide +kernel)) rfl
theorem km_TF_121 : Cond.methodLink R_TF 121 y_RC_countUpTo ∈ Om := om_at (List.mem_of_getElem? (i := 444) (by decide +kernel)) rfl
theorem km_TF_124 : Cond.methodLink R_TF 124 y_MT_floorMod ∈ Om := om_at (List.mem_of_getElem? (i := 452) (by decide +kernel)) rfl
theorem km_TF_129 : Cond.methodLink R_TF 129 Lib.Math.min.name ∈ Om := om_at (List.mem_of_getElem? (i := 53) (by decide +kernel)) rfl
theorem km_TF_132 : Cond.methodLink R_TF 132 Lib.Math.max.name ∈ Om := om_at (List.mem_of_getElem? (i := 56) (by decide +kernel)) rfl
theorem km_BD_1 : Cond.methodLink R_BD 1 objectInit ∈ Om := om_at (List.mem_of_getElem? (i := 64) (by decide +kernel)) rfl
theorem km_BD_23 : Cond.methodLink R_BD 23 y_BD_hasCell ∈ Om := om_at (List.mem_of_getElem? (i := 232) (by decide +kernel)) rfl
theorem km_QS_3 : Cond.methodLink R_QS 3 objectInit ∈ Om := om_at (List.mem_of_getElem? (i := 132) (by decide +kernel)) rfl
theorem km_QS_15 : Cond.methodLink R_QS 15 Lib.Math.min.name ∈ Om := om_at (List.mem_of_getElem? (i := 133) (by decide +kernel)) rfl
theorem km_QS_35 : Cond.methodLink R_QS 35 y_QS_placeFrom ∈ Om := om_at (List.mem_of_getElem? (i := 341) (by decide +kernel)) rfl
theorem km_QS_39 : Cond.methodLink R_QS 39 y_QS_placeIn ∈ Om := om_at (List.mem_of_getElem? (i := 345) (by decide +kernel)) rfl
theorem km_QS_42 : Cond.methodLink R_QS 42 y_QS_canStand ∈ Om := om_at (List.mem_of_getElem? (i := 349) (by decide +kernel)) rfl
theorem km_QS_45 : Cond.methodLink R_QS 45 Lib.Math.abs.name ∈ Om := om_at (List.mem_of_getElem? (i := 353) (by decide +kernel)) rfl
theorem km_RC_3 : Cond.methodLink R_RC 3 objectInit ∈ Om := om_at (List.mem_of_getElem? (i := 155) (by decide +kernel)) rfl
theorem km_RC_42 : Cond.methodLink R_RC 42 Lib.Math.min.name ∈ Om := om_at (List.mem_of_getElem? (i := 156) (by decide +kernel)) rfl
theorem km_RC_52 : Cond.methodLink R_RC 52 Lib.Math.max.name ∈ Om := om_at (List.mem_of_getElem? (i := 157) (by decide +kernel)) rfl
theorem km_RC_68 : Cond.methodLink R_RC 68 y_RC_layGiven ∈ Om := om_at (List.mem_of_getElem? (i := 384) (by decide +kernel)) rfl
theorem km_RC_72 : Cond.methodLink R_RC 72 y_RC_countFrom ∈ Om := om_at (List.mem_of_getElem? (i := 396) (by decide +kernel)) rfl
theorem km_RC_75 : Cond.methodLink R_RC 75 y_RC_settle ∈ Om := om_at (List.mem_of_getElem? (i := 428) (by decide +kernel)) rfl
theorem km_RC_79 : Cond.methodLink R_RC 79 arraycopyName ∈ Om := om_at (List.mem_of_getElem? (i := 410) (by decide +kernel)) rfl
theorem km_RC_85 : Cond.methodLink R_RC 85 y_RC_choicesAt ∈ Om := om_at (List.mem_of_getElem? (i := 388) (by decide +kernel)) rfl
theorem km_RC_89 : Cond.methodLink R_RC 89 y_RC_put ∈ Om := om_at (List.mem_of_getElem? (i := 392) (by decide +kernel)) rfl
theorem km_RC_93 : Cond.methodLink R_RC 93 y_RC_take ∈ Om := om_at (List.mem_of_getElem? (i := 424) (by decide +kernel)) rfl
theorem km_RC_96 : Cond.methodLink R_RC 96 y_RC_narrowestOpenCell ∈ Om := om_at (List.mem_of_getElem? (i := 400) (by decide +kernel)) rfl
theorem km_RC_100 : Cond.methodLink R_RC 100 y_IN_bitCount ∈ Om := om_at (List.mem_of_getElem? (i := 404) (by decide +kernel)) rfl
theorem km_RC_105 : Cond.methodLink R_RC 105 y_RC_someNumberLacksPlaces ∈ Om := om_at (List.mem_of_getElem? (i := 413) (by decide +kernel)) rfl
theorem km_RC_108 : Cond.methodLink R_RC 108 y_RC_countWith ∈ Om := om_at (List.mem_of_getElem? (i := 420) (by decide +kernel)) rfl
theorem km_RC_112 : Cond.methodLink R_RC 112 y_RC_linesWith ∈ Om := om_at (List.mem_of_getElem? (i := 417) (by decide +kernel)) rfl
theorem km_TS_3 : Cond.methodLink R_TS 3 objectInit ∈ Om := om_at (List.mem_of_getElem? (i := 83) (by decide +kernel)) rfl
theorem km_TS_24 : Cond.methodLink R_TS 24 y_TS_reachesOn ∈ Om := om_at (List.mem_of_getElem? (i := 84) (by decide +kernel)) rfl
theorem km_TS_32 : Cond.methodLink R_TS 32 y_TS_reachFrom ∈ Om := om_at (List.mem_of_getElem? (i := 87) (by decide +kernel)) rfl
theorem km_TS_36 : Cond.methodLink R_TS 36 Lib.Math.max.name ∈ Om := om_at (List.mem_of_getElem? (i := 90) (by decide +kernel)) rfl
theorem km_TS_42 : Cond.methodLink R_TS 42 y_TS_goes ∈ Om := om_at (List.mem_of_getElem? (i := 91) (by decide +kernel)) rfl
theorem km_TS_46 : Cond.methodLinkNest R_TS 46 y_TF_isPiece "TourForms" ∈ lw_tbl := List.mem_of_getElem? (i := 282) (by decide +kernel)
theorem km_TS_58 : Cond.methodLink R_TS 58 y_TS_giveUp ∈ Om := om_at (List.mem_of_getElem? (i := 268) (by decide +kernel)) rfl
theorem km_TS_71 : Cond.methodLink R_TS 71 y_TS_enter ∈ Om := om_at (List.mem_of_getElem? (i := 269) (by decide +kernel)) rfl
theorem km_TS_75 : Cond.methodLink R_TS 75 y_TS_closes ∈ Om := om_at (List.mem_of_getElem? (i := 298) (by decide +kernel)) rfl
theorem km_TS_79 : Cond.methodLink R_TS 79 y_TS_nextCell ∈ Om := om_at (List.mem_of_getElem? (i := 302) (by decide +kernel)) rfl
theorem km_TS_83 : Cond.methodLink R_TS 83 y_TS_goBack ∈ Om := om_at (List.mem_of_getElem? (i := 306) (by decide +kernel)) rfl
theorem km_TS_86 : Cond.methodLink R_TS 86 y_TS_reach ∈ Om := om_at (List.mem_of_getElem? (i := 278) (by decide +kernel)) rfl
theorem km_TS_92 : Cond.methodLink R_TS 92 y_TS_listWaysOn ∈ Om := om_at (List.mem_of_getElem? (i := 274) (by decide +kernel)) rfl
theorem km_TS_95 : Cond.methodLink R_TS 95 y_LG_bitCount ∈ Om := om_at (List.mem_of_getElem? (i := 283) (by decide +kernel)) rfl
theorem km_TS_101 : Cond.methodLink R_TS 101 Lib.Math.min.name ∈ Om := om_at (List.mem_of_getElem? (i := 289) (by decide +kernel)) rfl
theorem km_TS_104 : Cond.methodLink R_TS 104 y_TS_insertWayOn ∈ Om := om_at (List.mem_of_getElem? (i := 290) (by decide +kernel)) rfl
theorem km_law_9 : Cond.methodLink "TourFormsLaw" 9 y_law_cell ∈ Om := om_at (List.mem_of_getElem? (i := 455) (by decide +kernel)) rfl
theorem km_law_15 : Cond.methodLink "TourFormsLaw" 15 y_TF_init ∈ Om := om_at (List.mem_of_getElem? (i := 44) (by decide +kernel)) rfl
theorem km_law_20 : Cond.methodLink "TourFormsLaw" 20 y_MD_init ∈ Om := om_at (List.mem_of_getElem? (i := 460) (by decide +kernel)) rfl
theorem km_law_21 : Cond.methodLink "TourFormsLaw" 21 y_TF_bar ∈ Om := om_at (List.mem_of_getElem? (i := 220) (by decide +kernel)) rfl
theorem km_law_25 : Cond.methodLink "TourFormsLaw" 25 y_MD_bar ∈ Om := om_at (List.mem_of_getElem? (i := 523) (by decide +kernel)) rfl
theorem km_law_26 : Cond.methodLink "TourFormsLaw" 26 y_TF_start ∈ Om := om_at (List.mem_of_getElem? (i := 244) (by decide +kernel)) rfl
theorem km_law_30 : Cond.methodLink "TourFormsLaw" 30 y_MD_start ∈ Om := om_at (List.mem_of_getElem? (i := 531) (by decide +kernel)) rfl
theorem km_law_31 : Cond.methodLink "TourFormsLaw" 31 y_TF_tour ∈ Om := om_at (List.mem_of_getElem? (i := 248) (by decide +kernel)) rfl
theorem km_law_35 : Cond.methodLink "TourFormsLaw" 35 y_MD_tour ∈ Om := om_at (List.mem_of_getElem? (i := 535) (by decide +kernel)) rfl
theorem km_law_36 : Cond.methodLink "TourFormsLaw" 36 y_TF_at ∈ Om := om_at (List.mem_of_getElem? (i := 310) (by decide +kernel)) rfl
theorem km_law_40 : Cond.methodLink "TourFormsLaw" 40 y_MD_at ∈ Om := om_at (List.mem_of_getElem? (i := 563) (by decide +kernel)) rfl
theorem km_law_41 : Cond.methodLink "TourFormsLaw" 41 y_TF_steps ∈ Om := om_at (List.mem_of_getElem? (i := 318) (by decide +kernel)) rfl
theorem km_law_45 : Cond.methodLink "TourFormsLaw" 45 y_MD_steps ∈ Om := om_at (List.mem_of_getElem? (i := 567) (by decide +kernel)) rfl
theorem km_law_46 : Cond.methodLink "TourFormsLaw" 46 y_TF_ways ∈ Om := om_at (List.mem_of_getElem? (i := 326) (by decide +kernel)) rfl
theorem km_law_50 : Cond.methodLink "TourFormsLaw" 50 y_MD_ways ∈ Om := om_at (List.mem_of_getElem? (i := 571) (by decide +kernel)) rfl
theorem km_law_51 : Cond.methodLink "TourFormsLaw" 51 y_TF_queens ∈ Om := om_at (List.mem_of_getElem? (i := 333) (by decide +kernel)) rfl
theorem km_law_54 : Cond.methodLink "TourFormsLaw" 54 y_MD_queens ∈ Om := om_at (List.mem_of_getElem? (i := 575) (by decide +kernel)) rfl
theorem km_law_55 : Cond.methodLink "TourFormsLaw" 55 y_TF_queen ∈ Om := om_at (List.mem_of_getElem? (i := 356) (by decide +kernel)) rfl
theorem km_law_58 : Cond.methodLink "TourFormsLaw" 58 y_MD_queen ∈ Om := om_at (List.mem_of_getElem? (i := 587) (by decide +kernel)) rfl
theorem km_law_59 : Cond.methodLink "TourFormsLaw" 59 y_TF_given ∈ Om := om_at (List.mem_of_getElem? (i := 364) (by decide +kernel)) rfl
theorem km_law_63 : Cond.methodLink "TourFormsLaw" 63 y_MD_given ∈ Om := om_at (List.mem_of_getElem? (i := 591) (by decide +kernel)) rfl
theorem km_law_64 : Cond.methodLink "TourFormsLaw" 64 y_TF_fill ∈ Om := om_at (List.mem_of_getElem? (i := 376) (by decide +kernel)) rfl
theorem km_law_68 : Cond.methodLink "TourFormsLaw" 68 y_MD_fill ∈ Om := om_at (List.mem_of_getElem? (i := 595) (by decide +kernel)) rfl
theorem km_law_69 : Cond.methodLink "TourFormsLaw" 69 y_TF_number ∈ Om := om_at (List.mem_of_getElem? (i := 432) (by decide +kernel)) rfl
theorem km_law_72 : Cond.methodLink "TourFormsLaw" 72 y_MD_number ∈ Om := om_at (List.mem_of_getElem? (i := 622) (by decide +kernel)) rfl
theorem km_law_73 : Cond.methodLink "TourFormsLaw" 73 y_TF_fills ∈ Om := om_at (List.mem_of_getElem? (i := 440) (by decide +kernel)) rfl
theorem km_law_76 : Cond.methodLink "TourFormsLaw" 76 y_MD_fills ∈ Om := om_at (List.mem_of_getElem? (i := 626) (by decide +kernel)) rfl
theorem km_law_77 : Cond.methodLink "TourFormsLaw" 77 y_TF_magic ∈ Om := om_at (List.mem_of_getElem? (i := 448) (by decide +kernel)) rfl
theorem km_law_81 : Cond.methodLink "TourFormsLaw" 81 y_MD_magic ∈ Om := om_at (List.mem_of_getElem? (i := 630) (by decide +kernel)) rfl
theorem km_MD_1 : Cond.methodLink R_MD 1 objectInit ∈ Om := om_at (List.mem_of_getElem? (i := 463) (by decide +kernel)) rfl
theorem km_MD_38 : Cond.methodLink R_MD 38 y_MD_held ∈ Om := om_at (List.mem_of_getElem? (i := 464) (by decide +kernel)) rfl
theorem km_MD_58 : Cond.methodLink R_MD 58 y_MD_isCell ∈ Om := om_at (List.mem_of_getElem? (i := 527) (by decide +kernel)) rfl
theorem km_MD_68 : Cond.methodLink R_MD 68 y_MD_apart ∈ Om := om_at (List.mem_of_getElem? (i := 552) (by decide +kernel)) rfl
theorem km_MD_72 : Cond.methodLink R_MD 72 y_MD_goes ∈ Om := om_at (List.mem_of_getElem? (i := 548) (by decide +kernel)) rfl
theorem km_MD_76 : Cond.methodLink R_MD 76 y_MD_waysOn ∈ Om := om_at (List.mem_of_getElem? (i := 559) (by decide +kernel)) rfl
theorem km_MD_79 : Cond.methodLink R_MD 79 y_MD_open ∈ Om := om_at (List.mem_of_getElem? (i := 544) (by decide +kernel)) rfl
theorem km_MD_83 : Cond.methodLink R_MD 83 y_MD_nextCell ∈ Om := om_at (List.mem_of_getElem? (i := 555) (by decide +kernel)) rfl
theorem km_MD_91 : Cond.methodLink R_MD 91 y_MD_search ∈ Om := om_at (List.mem_of_getElem? (i := 540) (by decide +kernel)) rfl
theorem km_MD_95 : Cond.methodLink R_MD 95 y_MD_stands ∈ Om := om_at (List.mem_of_getElem? (i := 583) (by decide +kernel)) rfl
theorem km_MD_99 : Cond.methodLink R_MD 99 y_MD_goThrough ∈ Om := om_at (List.mem_of_getElem? (i := 579) (by decide +kernel)) rfl
theorem km_MD_106 : Cond.methodLink R_MD 106 y_MD_free ∈ Om := om_at (List.mem_of_getElem? (i := 607) (by decide +kernel)) rfl
theorem km_MD_109 : Cond.methodLink R_MD 109 y_MD_enough ∈ Om := om_at (List.mem_of_getElem? (i := 611) (by decide +kernel)) rfl
theorem km_MD_113 : Cond.methodLink R_MD 113 y_MD_bits ∈ Om := om_at (List.mem_of_getElem? (i := 615) (by decide +kernel)) rfl
theorem km_MD_116 : Cond.methodLink R_MD 116 y_MD_goesOn ∈ Om := om_at (List.mem_of_getElem? (i := 603) (by decide +kernel)) rfl
theorem km_MD_119 : Cond.methodLink R_MD 119 y_MD_fits ∈ Om := om_at (List.mem_of_getElem? (i := 618) (by decide +kernel)) rfl
theorem km_MD_122 : Cond.methodLink R_MD 122 y_MD_fillThrough ∈ Om := om_at (List.mem_of_getElem? (i := 599) (by decide +kernel)) rfl
theorem kc_TF_13 : Cond.classLink R_TF 13 R_BD ∈ Om := om_at (List.mem_of_getElem? (i := 59) (by decide +kernel)) rfl
theorem kc_TF_22 : Cond.classLink R_TF 22 R_TS ∈ Om := om_at (List.mem_of_getElem? (i := 78) (by decide +kernel)) rfl
theorem kc_TF_29 : Cond.classLink R_TF 29 R_QS ∈ Om := om_at (List.mem_of_getElem? (i := 127) (by decide +kernel)) rfl
theorem kc_TF_36 : Cond.classLink R_TF 36 R_RC ∈ Om := om_at (List.mem_of_getElem? (i := 150) (by decide +kernel)) rfl
theorem kc_law_7 : Cond.classLink "TourFormsLaw" 7 R_TF ∈ Om := om_at (List.mem_of_getElem? (i := 42) (by decide +kernel)) rfl
theorem kc_law_18 : Cond.classLink "TourFormsLaw" 18 R_MD ∈ Om := om_at (List.mem_of_getElem? (i := 458) (by decide +kernel)) rfl
theorem ki_TF_65 : Cond.constant R_TF 65 (nI 100000) ∈ Om := om_at (List.mem_of_getElem? (i := 255) (by decide +kernel)) rfl
theorem ki_MD_90 : Cond.constant R_MD 90 (nI 100000) ∈ Om := om_at (List.mem_of_getElem? (i := 539) (by decide +kernel)) rfl
theorem ki_IN_265 : Cond.constant R_IN 265 (nI 1431655765) ∈ Om := om_at (List.mem_of_getElem? (i := 407) (by decide +kernel)) rfl
theorem ki_IN_266 : Cond.constant R_IN 266 (nI 858993459) ∈ Om := om_at (List.mem_of_getElem? (i := 408) (by decide +kernel)) rfl
theorem ki_IN_267 : Cond.constant R_IN 267 (nI 252645135) ∈ Om := om_at (List.mem_of_getElem? (i := 409) (by decide +kernel)) rfl
theorem kl_TS_90 : Cond.constantLong R_TS 90 (lN 18446744073709551615) ∈ Om := om_at (List.mem_of_getElem? (i := 273) (by decide +kernel)) rfl
theorem kl_LG_314 : Cond.constantLong R_LG 314 (lN 6148914691236517205) ∈ Om := om_at (List.mem_of_getElem? (i := 286) (by decide +kernel)) rfl
theorem kl_LG_316 : Cond.constantLong R_LG 316 (lN 3689348814741910323) ∈ Om := om_at (List.mem_of_getElem? (i := 287) (by decide +kernel)) rfl
theorem kl_LG_318 : Cond.constantLong R_LG 318 (lN 1085102592571150095) ∈ Om := om_at (List.mem_of_getElem? (i := 288) (by decide +kernel)) rfl
theorem kn_BD : Cond.instantiable R_BD 4 ∈ Om := om_at (List.mem_of_getElem? (i := 60) (by decide +kernel)) rfl
theorem kn_QS : Cond.instantiable R_QS 5 ∈ Om := om_at (List.mem_of_getElem? (i := 128) (by decide +kernel)) rfl
theorem kn_RC : Cond.instantiable R_RC 15 ∈ Om := om_at (List.mem_of_getElem? (i := 151) (by decide +kernel)) rfl
theorem kn_TS : Cond.instantiable R_TS 10 ∈ Om := om_at (List.mem_of_getElem? (i := 79) (by decide +kernel)) rfl
theorem kn_TF : Cond.instantiable R_TF 5 ∈ Om := om_at (List.mem_of_getElem? (i := 43) (by decide +kernel)) rfl
theorem kn_MD : Cond.instantiable R_MD 18 ∈ Om := om_at (List.mem_of_getElem? (i := 459) (by decide +kernel)) rfl
theorem kz_TF : Cond.initialized "TourForms" ∈ Om := om_at (List.mem_of_getElem? (i := 32) (by decide +kernel)) rfl
theorem kz_BD : Cond.initialized "TourForms$Board" ∈ Om := om_at (List.mem_of_getElem? (i := 34) (by decide +kernel)) rfl
theorem kz_QS : Cond.initialized "TourForms$QueenSearch" ∈ Om := om_at (List.mem_of_getElem? (i := 36) (by decide +kernel)) rfl
theorem kz_RC : Cond.initialized "TourForms$Rectangle" ∈ Om := om_at (List.mem_of_getElem? (i := 37) (by decide +kernel)) rfl
theorem kz_TS : Cond.initialized "TourForms$TourSearch" ∈ Om := om_at (List.mem_of_getElem? (i := 35) (by decide +kernel)) rfl
theorem kz_MD : Cond.initialized "TourFormsModel" ∈ Om := om_at (List.mem_of_getElem? (i := 38) (by decide +kernel)) rfl
theorem kz_law : Cond.initialized "TourFormsLaw" ∈ Om := om_at (List.mem_of_getElem? (i := 31) (by decide +kernel)) rfl
theorem kz_LG : Cond.initialized "java/lang/Long" ∈ Om := om_at (List.mem_of_getElem? (i := 39) (by decide +kernel)) rfl
theorem kz_IN : Cond.initialized "java/lang/Integer" ∈ Om := om_at (List.mem_of_getElem? (i := 40) (by decide +kernel)) rfl
theorem kz_MT : Cond.initialized "java/lang/Math" ∈ Om := om_at (List.mem_of_getElem? (i := 33) (by decide +kernel)) rfl
theorem kz_SY : Cond.initialized "java/lang/System" ∈ Om := om_at (List.mem_of_getElem? (i := 41) (by decide +kernel)) rfl
theorem ka_int : Cond.arrayClass .int ∈ Om := om_at (List.mem_of_getElem? (i := 125) (by decide +kernel)) rfl
theorem ka_long : Cond.arrayClass .long ∈ Om := om_at (List.mem_of_getElem? (i := 126) (by decide +kernel)) rfl
theorem ka_boolean : Cond.arrayClass .boolean ∈ Om := om_at (List.mem_of_getElem? (i := 522) (by decide +kernel)) rfl
set_option maxRecDepth 20000 in
theorem m_TF_init : MI y_TF_init b_TF_init 5 2 := ⟨om_at (List.mem_of_getElem? (i := 46) rfl) rfl, om_at (List.mem_of_getElem? (i := 45) (by decide +kernel)) rfl, rfl, kz_TF, (by decide +kernel), (by decide +kernel), (by decide +kernel)⟩
set_option maxRecDepth 20000 in
theorem m_TF_heldToSide : MS y_TF_heldToSide b_TF_heldToSide 1 (some .int) 1 := ⟨om_at (List.mem_of_getElem? (i := 52) rfl) rfl, om_at (List.mem_of_getElem? (i := 51) (by decide +kernel)) rfl, kz_TF, (by decide +kernel), (by decide +kernel), (by decide +kernel)⟩
set_option maxRecDepth 20000 in
theorem m_BD_init : MI y_BD_init b_BD_init 3 2 := ⟨om_at (List.mem_of_getElem? (i := 63) rfl) rfl, om_at (List.mem_of_getElem? (i := 62) (by decide +kernel)) rfl, rfl, kz_BD, (by decide +kernel), (by decide +kernel), (by decide +kernel)⟩
set_option maxRecDepth 20000 in
theorem m_TS_init : MI y_TS_init b_TS_init 3 2 := ⟨om_at (List.mem_of_getElem? (i := 82) rfl) rfl, om_at (List.mem_of_getElem? (i := 81) (by decide +kernel)) rfl, rfl, kz_TS, (by decide +kernel), (by decide +kernel), (by decide +kernel)⟩
set_option maxRecDepth 20000 in
theorem m_TS_reachesOn : MS y_TS_reachesOn b_TS_reachesOn 6 (some (.array .long)) 2 := ⟨om_at (List.mem_of_getElem? (i := 86) rfl) rfl, om_at (List.mem_of_getElem? (i := 85) (by decide +kernel)) rfl, kz_TS, (by decide +kernel), (by decide +kernel), (by decide +kernel)⟩
set_option maxRecDepth 20000 in
theorem m_TS_reachFrom : MS y_TS_reachFrom b_TS_reachFrom 9 (some .long) 5 := ⟨om_at (List.mem_of_getElem? (i := 89) rfl) rfl, om_at (List.mem_of_getElem? (i := 88) (by decide +kernel)) rfl, kz_TS, (by decide +kernel), (by decide +kernel), (by decide +kernel)⟩
set_option maxRecDepth 20000 in
theorem m_TS_goes : MS y_TS_goes b_TS_goes 2 (some .boolean) 2 := ⟨om_at (List.mem_of_getElem? (i := 93) rfl) rfl, om_at (List.mem_of_getElem? (i := 92) (by decide +kernel)) rfl, kz_TS, (by decide +kernel), (by decide +kernel), (by decide +kernel)⟩
set_option maxRecDepth 20000 in
theorem m_QS_init : MI y_QS_init b_QS_init 3 2 := ⟨om_at (List.mem_of_getElem? (i := 131) rfl) rfl, om_at (List.mem_of_getElem? (i := 130) (by decide +kernel)) rfl, rfl, kz_QS, (by decide +kernel), (by decide +kernel), (by decide +kernel)⟩
set_option maxRecDepth 20000 in
theorem m_RC_init : MI y_RC_init b_RC_init 5 2 := ⟨om_at (List.mem_of_getElem? (i := 154) rfl) rfl, om_at (List.mem_of_getElem? (i := 153) (by decide +kernel)) rfl, rfl, kz_RC, (by decide +kernel), (by decide +kernel), (by decide +kernel)⟩
set_option maxRecDepth 20000 in
theorem m_TF_bar : MV y_TF_bar b_TF_bar 5 (some .boolean) 3 := ⟨om_at (List.mem_of_getElem? (i := 223) rfl) rfl, om_at (List.mem_of_getElem? (i := 221) (by decide +kernel)) rfl, om_at (List.mem_of_getElem? (i := 222) (by decide +kernel)) rfl, kz_TF, (by decide +kernel), (by decide +kernel), (by decide +kernel)⟩
set_option maxRecDepth 20000 in
theorem m_BD_cellAt : MV y_BD_cellAt b_BD_cellAt 3 (some .int) 2 := ⟨om_at (List.mem_of_getElem? (i := 227) rfl) rfl, om_at (List.mem_of_getElem? (i := 225) (by decide +kernel)) rfl, om_at (List.mem_of_getElem? (i := 226) (by decide +kernel)) rfl, kz_BD, (by decide +kernel), (by decide +kernel), (by decide +kernel)⟩
set_option maxRecDepth 20000 in
theorem m_BD_isFree : MV y_BD_isFree b_BD_isFree 2 (some .boolean) 1 := ⟨om_at (List.mem_of_getElem? (i := 231) rfl) rfl, om_at (List.mem_of_getElem? (i := 229) (by decide +kernel)) rfl, om_at (List.mem_of_getElem? (i := 230) (by decide +kernel)) rfl, kz_BD, (by decide +kernel), (by decide +kernel), (by decide +kernel)⟩
set_option maxRecDepth 20000 in
theorem m_BD_hasCell : MV y_BD_hasCell b_BD_hasCell 2 (some .boolean) 1 := ⟨om_at (List.mem_of_getElem? (i := 235) rfl) rfl, om_at (List.mem_of_getElem? (i := 233) (by decide +kernel)) rfl, om_at (List.mem_of_getElem? (i := 234) (by decide +kernel)) rfl, kz_BD, (by decide +kernel), (by decide +kernel), (by decide +kernel)⟩
set_option maxRecDepth 20000 in
theorem m_BD_turnBar : MV y_BD_turnBar b_BD_turnBar 2 none 1 := ⟨om_at (List.mem_of_getElem? (i := 239) rfl) rfl, om_at (List.mem_of_getElem? (i := 237) (by decide +kernel)) rfl, om_at (List.mem_of_getElem? (i := 238) (by decide +kernel)) rfl, kz_BD, (by decide +kernel), (by decide +kernel), (by decide +kernel)⟩
set_option maxRecDepth 20000 in
theorem m_TS_forget : MV y_TS_forget b_TS_forget 1 none 0 := ⟨om_at (List.mem_of_getElem? (i := 243) rfl) rfl, om_at (List.mem_of_getElem? (i := 241) (by decide +kernel)) rfl, om_at (List.mem_of_getElem? (i := 242) (by decide +kernel)) rfl, kz_TS, (by decide +kernel), (by decide +kernel), (by decide +kernel)⟩
set_option maxRecDepth 20000 in
theorem m_TF_start : MV y_TF_start b_TF_start 4 (some .boolean) 2 := ⟨om_at (List.mem_of_getElem? (i := 247) rfl) rfl, om_at (List.mem_of_getElem? (i := 245) (by decide +kernel)) rfl, om_at (List.mem_of_getElem? (i := 246) (by decide +kernel)) rfl, kz_TF, (by decide +kernel), (by decide +kernel), (by decide +kernel)⟩
set_option maxRecDepth 20000 in
theorem m_TF_tour : MV y_TF_tour b_TF_tour 4 (some .int) 3 := ⟨om_at (List.mem_of_getElem? (i := 251) rfl) rfl, om_at (List.mem_of_getElem? (i := 249) (by decide +kernel)) rfl, om_at (List.mem_of_getElem? (i := 250) (by decide +kernel)) rfl, kz_TF, (by decide +kernel), (by decide +kernel), (by decide +kernel)⟩
set_option maxRecDepth 20000 in
theorem m_TF_isPiece : MS y_TF_isPiece b_TF_isPiece 1 (some .boolean) 1 := ⟨om_at (List.mem_of_getElem? (i := 254) rfl) rfl, om_at (List.mem_of_getElem? (i := 253) (by decide +kernel)) rfl, kz_TF, (by decide +kernel), (by decide +kernel), (by decide +kernel)⟩
set_option maxRecDepth 20000 in
theorem m_TS_giveUp : MV y_TS_giveUp b_TS_giveUp 1 none 0 := ⟨om_at (List.mem_of_getElem? (i := 259) rfl) rfl, om_at (List.mem_of_getElem? (i := 257) (by decide +kernel)) rfl, om_at (List.mem_of_getElem? (i := 258) (by decide +kernel)) rfl, kz_TS, (by decide +kernel), (by decide +kernel), (by decide +kernel)⟩
set_option maxRecDepth 20000 in
theorem m_BD_freeCells : MV y_BD_freeCells b_BD_freeCells 1 (some .long) 0 := ⟨om_at (List.mem_of_getElem? (i := 263) rfl) rfl, om_at (List.mem_of_getElem? (i := 261) (by decide +kernel)) rfl, om_at (List.mem_of_getElem? (i := 262) (by decide +kernel)) rfl, kz_BD, (by decide +kernel), (by decide +kernel), (by decide +kernel)⟩
set_option maxRecDepth 20000 in
theorem m_TS_begin : MV y_TS_begin b_TS_begin 5 none 3 := ⟨om_at (List.mem_of_getElem? (i := 267) rfl) rfl, om_at (List.mem_of_getElem? (i := 265) (by decide +kernel)) rfl, om_at (List.mem_of_getElem? (i := 266) (by decide +kernel)) rfl, kz_TS, (by decide +kernel), (by decide +kernel), (by decide +kernel)⟩
set_option maxRecDepth 20000 in
theorem m_TS_enter : MV y_TS_enter b_TS_enter 2 none 1 := ⟨om_at (List.mem_of_getElem? (i := 272) rfl) rfl, om_at (List.mem_of_getElem? (i := 271) (by decide +kernel)) rfl, om_at (List.mem_of_getElem? (i := 0) (by decide +kernel)) rfl, kz_TS, (by decide +kernel), (by decide +kernel), (by decide +kernel)⟩
set_option maxRecDepth 20000 in
theorem m_TS_listWaysOn : MV y_TS_listWaysOn b_TS_listWaysOn 11 (some .int) 2 := ⟨om_at (List.mem_of_getElem? (i := 277) rfl) rfl, om_at (List.mem_of_getElem? (i := 276) (by decide +kernel)) rfl, om_at (List.mem_of_getElem? (i := 1) (by decide +kernel)) rfl, kz_TS, (by decide +kernel), (by decide +kernel), (by decide +kernel)⟩
set_option maxRecDepth 20000 in
theorem m_TS_reach : MV y_TS_reach b_TS_reach 3 (some .long) 2 := ⟨om_at (List.mem_of_getElem? (i := 281) rfl) rfl, om_at (List.mem_of_getElem? (i := 279) (by decide +kernel)) rfl, om_at (List.mem_of_getElem? (i := 280) (by decide +kernel)) rfl, kz_TS, (by decide +kernel), (by decide +kernel), (by decide +kernel)⟩
set_option maxRecDepth 20000 in
theorem m_LG_bitCount : MS y_LG_bitCount b_LG_bitCount 2 (some .int) 1 := ⟨om_at (List.mem_of_getElem? (i := 285) rfl) rfl, om_at (List.mem_of_getElem? (i := 284) (by decide +kernel)) rfl, kz_LG, (by decide +kernel), (by decide +kernel), (by decide +kernel)⟩
set_option maxRecDepth 20000 in
theorem m_TS_insertWayOn : MV y_TS_insertWayOn b_TS_insertWayOn 5 none 3 := ⟨om_at (List.mem_of_getElem? (i := 293) rfl) rfl, om_at (List.mem_of_getElem? (i := 292) (by decide +kernel)) rfl, om_at (List.mem_of_getElem? (i := 2) (by decide +kernel)) rfl, kz_TS, (by decide +kernel), (by decide +kernel), (by decide +kernel)⟩
set_option maxRecDepth 20000 in
theorem m_TS_run : MV y_TS_run b_TS_run 6 (some .int) 2 := ⟨om_at (List.mem_of_getElem? (i := 297) rfl) rfl, om_at (List.mem_of_getElem? (i := 295) (by decide +kernel)) rfl, om_at (List.mem_of_getElem? (i := 296) (by decide +kernel)) rfl, kz_TS, (by decide +kernel), (by decide +kernel), (by decide +kernel)⟩
set_option maxRecDepth 20000 in
theorem m_TS_closes : MV y_TS_closes b_TS_closes 1 (some .boolean) 0 := ⟨om_at (List.mem_of_getElem? (i := 301) rfl) rfl, om_at (List.mem_of_getElem? (i := 300) (by decide +kernel)) rfl, om_at (List.mem_of_getElem? (i := 3) (by decide +kernel)) rfl, kz_TS, (by decide +kernel), (by decide +kernel), (by decide +kernel)⟩
set_option maxRecDepth 20000 in
theorem m_TS_nextCell : MV y_TS_nextCell b_TS_nextCell 3 (some .int) 0 := ⟨om_at (List.mem_of_getElem? (i := 305) rfl) rfl, om_at (List.mem_of_getElem? (i := 304) (by decide +kernel)) rfl, om_at (List.mem_of_getElem? (i := 4) (by decide +kernel)) rfl, kz_TS, (by decide +kernel), (by decide +kernel), (by decide +kernel)⟩
set_option maxRecDepth 20000 in
theorem m_TS_goBack : MV y_TS_goBack b_TS_goBack 1 none 0 := ⟨om_at (List.mem_of_getElem? (i := 309) rfl) rfl, om_at (List.mem_of_getElem? (i := 308) (by decide +kernel)) rfl, om_at (List.mem_of_getElem? (i := 5) (by decide +kernel)) rfl, kz_TS, (by decide +kernel), (by decide +kernel), (by decide +kernel)⟩
set_option maxRecDepth 20000 in
theorem m_TF_at : MV y_TF_at b_TF_at 2 (some .int) 1 := ⟨om_at (List.mem_of_getElem? (i := 313) rfl) rfl, om_at (List.mem_of_getElem? (i := 311) (by decide +kernel)) rfl, om_at (List.mem_of_getElem? (i := 312) (by decide +kernel)) rfl, kz_TF, (by decide +kernel), (by decide +kernel), (by decide +kernel)⟩
set_option maxRecDepth 20000 in
theorem m_TS_cellOfTour : MV y_TS_cellOfTour b_TS_cellOfTour 2 (some .int) 1 := ⟨om_at (List.mem_of_getElem? (i := 317) rfl) rfl, om_at (List.mem_of_getElem? (i := 315) (by decide +kernel)) rfl, om_at (List.mem_of_getElem? (i := 316) (by decide +kernel)) rfl, kz_TS, (by decide +kernel), (by decide +kernel), (by decide +kernel)⟩
set_option maxRecDepth 20000 in
theorem m_TF_steps : MV y_TF_steps b_TF_steps 1 (some .int) 0 := ⟨om_at (List.mem_of_getElem? (i := 321) rfl) rfl, om_at (List.mem_of_getElem? (i := 319) (by decide +kernel)) rfl, om_at (List.mem_of_getElem? (i := 320) (by decide +kernel)) rfl, kz_TF, (by decide +kernel), (by decide +kernel), (by decide +kernel)⟩
set_option maxRecDepth 20000 in
theorem m_TS_stepsMade : MV y_TS_stepsMade b_TS_stepsMade 1 (some .int) 0 := ⟨om_at (List.mem_of_getElem? (i := 325) rfl) rfl, om_at (List.mem_of_getElem? (i := 323) (by decide +kernel)) rfl, om_at (List.mem_of_getElem? (i := 324) (by decide +kernel)) rfl, kz_TS, (by decide +kernel), (by decide +kernel), (by decide +kernel)⟩
set_option maxRecDepth 20000 in
theorem m_TF_ways : MV y_TF_ways b_TF_ways 3 (some .int) 2 := ⟨om_at (List.mem_of_getElem? (i := 329) rfl) rfl, om_at (List.mem_of_getElem? (i := 327) (by decide +kernel)) rfl, om_at (List.mem_of_getElem? (i := 328) (by decide +kernel)) rfl, kz_TF, (by decide +kernel), (by decide +kernel), (by decide +kernel)⟩
set_option maxRecDepth 20000 in
theorem m_TF_queens : MV y_TF_queens b_TF_queens 1 (some .int) 0 := ⟨om_at (List.mem_of_getElem? (i := 336) rfl) rfl, om_at (List.mem_of_getElem? (i := 334) (by decide +kernel)) rfl, om_at (List.mem_of_getElem? (i := 335) (by decide +kernel)) rfl, kz_TF, (by decide +kernel), (by decide +kernel), (by decide +kernel)⟩
set_option maxRecDepth 20000 in
theorem m_QS_countWays : MV y_QS_countWays b_QS_countWays 3 (some .int) 1 := ⟨om_at (List.mem_of_getElem? (i := 340) rfl) rfl, om_at (List.mem_of_getElem? (i := 338) (by decide +kernel)) rfl, om_at (List.mem_of_getElem? (i := 339) (by decide +kernel)) rfl, kz_QS, (by decide +kernel), (by decide +kernel), (by decide +kernel)⟩
set_option maxRecDepth 20000 in
theorem m_QS_placeFrom : MV y_QS_placeFrom b_QS_placeFrom 3 (some .boolean) 2 := ⟨om_at (List.mem_of_getElem? (i := 344) rfl) rfl, om_at (List.mem_of_getElem? (i := 343) (by decide +kernel)) rfl, om_at (List.mem_of_getElem? (i := 6) (by decide +kernel)) rfl, kz_QS, (by decide +kernel), (by decide +kernel), (by decide +kernel)⟩
set_option maxRecDepth 20000 in
theorem m_QS_placeIn : MV y_QS_placeIn b_QS_placeIn 4 (some .boolean) 2 := ⟨om_at (List.mem_of_getElem? (i := 348) rfl) rfl, om_at (List.mem_of_getElem? (i := 347) (by decide +kernel)) rfl, om_at (List.mem_of_getElem? (i := 7) (by decide +kernel)) rfl, kz_QS, (by decide +kernel), (by decide +kernel), (by decide +kernel)⟩
set_option maxRecDepth 20000 in
theorem m_QS_canStand : MV y_QS_canStand b_QS_canStand 5 (some .boolean) 2 := ⟨om_at (List.mem_of_getElem? (i := 352) rfl) rfl, om_at (List.mem_of_getElem? (i := 351) (by decide +kernel)) rfl, om_at (List.mem_of_getElem? (i := 8) (by decide +kernel)) rfl, kz_QS, (by decide +kernel), (by decide +kernel), (by decide +kernel)⟩
set_option maxRecDepth 20000 in
theorem m_TF_queen : MV y_TF_queen b_TF_queen 3 (some .int) 2 := ⟨om_at (List.mem_of_getElem? (i := 359) rfl) rfl, om_at (List.mem_of_getElem? (i := 357) (by decide +kernel)) rfl, om_at (List.mem_of_getElem? (i := 358) (by decide +kernel)) rfl, kz_TF, (by decide +kernel), (by decide +kernel), (by decide +kernel)⟩
set_option maxRecDepth 20000 in
theorem m_QS_rowInWay : MV y_QS_rowInWay b_QS_rowInWay 5 (some .int) 3 := ⟨om_at (List.mem_of_getElem? (i := 363) rfl) rfl, om_at (List.mem_of_getElem? (i := 361) (by decide +kernel)) rfl, om_at (List.mem_of_getElem? (i := 362) (by decide +kernel)) rfl, kz_QS, (by decide +kernel), (by decide +kernel), (by decide +kernel)⟩
set_option maxRecDepth 20000 in
theorem m_TF_given : MV y_TF_given b_TF_given 5 (some .boolean) 3 := ⟨om_at (List.mem_of_getElem? (i := 367) rfl) rfl, om_at (List.mem_of_getElem? (i := 365) (by decide +kernel)) rfl, om_at (List.mem_of_getElem? (i := 366) (by decide +kernel)) rfl, kz_TF, (by decide +kernel), (by decide +kernel), (by decide +kernel)⟩
set_option maxRecDepth 20000 in
theorem m_RC_allows : MV y_RC_allows b_RC_allows 2 (some .boolean) 1 := ⟨om_at (List.mem_of_getElem? (i := 371) rfl) rfl, om_at (List.mem_of_getElem? (i := 369) (by decide +kernel)) rfl, om_at (List.mem_of_getElem? (i := 370) (by decide +kernel)) rfl, kz_RC, (by decide +kernel), (by decide +kernel), (by decide +kernel)⟩
set_option maxRecDepth 20000 in
theorem m_RC_give : MV y_RC_give b_RC_give 3 none 2 := ⟨om_at (List.mem_of_getElem? (i := 375) rfl) rfl, om_at (List.mem_of_getElem? (i := 373) (by decide +kernel)) rfl, om_at (List.mem_of_getElem? (i := 374) (by decide +kernel)) rfl, kz_RC, (by decide +kernel), (by decide +kernel), (by decide +kernel)⟩
set_option maxRecDepth 20000 in
theorem m_TF_fill : MV y_TF_fill b_TF_fill 1 (some .boolean) 0 := ⟨om_at (List.mem_of_getElem? (i := 379) rfl) rfl, om_at (List.mem_of_getElem? (i := 377) (by decide +kernel)) rfl, om_at (List.mem_of_getElem? (i := 378) (by decide +kernel)) rfl, kz_TF, (by decide +kernel), (by decide +kernel), (by decide +kernel)⟩
set_option maxRecDepth 20000 in
theorem m_RC_findLeast : MV y_RC_findLeast b_RC_findLeast 2 (some .boolean) 0 := ⟨om_at (List.mem_of_getElem? (i := 383) rfl) rfl, om_at (List.mem_of_getElem? (i := 381) (by decide +kernel)) rfl, om_at (List.mem_of_getElem? (i := 382) (by decide +kernel)) rfl, kz_RC, (by decide +kernel), (by decide +kernel), (by decide +kernel)⟩
set_option maxRecDepth 20000 in
theorem m_RC_layGiven : MV y_RC_layGiven b_RC_layGiven 3 (some .boolean) 0 := ⟨om_at (List.mem_of_getElem? (i := 387) rfl) rfl, om_at (List.mem_of_getElem? (i := 386) (by decide +kernel)) rfl, om_at (List.mem_of_getElem? (i := 9) (by decide +kernel)) rfl, kz_RC, (by decide +kernel), (by decide +kernel), (by decide +kernel)⟩
set_option maxRecDepth 20000 in
theorem m_RC_choicesAt : MV y_RC_choicesAt b_RC_choicesAt 2 (some .int) 1 := ⟨om_at (List.mem_of_getElem? (i := 391) rfl) rfl, om_at (List.mem_of_getElem? (i := 390) (by decide +kernel)) rfl, om_at (List.mem_of_getElem? (i := 10) (by decide +kernel)) rfl, kz_RC, (by decide +kernel), (by decide +kernel), (by decide +kernel)⟩
set_option maxRecDepth 20000 in
theorem m_RC_put : MV y_RC_put b_RC_put 3 none 2 := ⟨om_at (List.mem_of_getElem? (i := 395) rfl) rfl, om_at (List.mem_of_getElem? (i := 394) (by decide +kernel)) rfl, om_at (List.mem_of_getElem? (i := 11) (by decide +kernel)) rfl, kz_RC, (by decide +kernel), (by decide +kernel), (by decide +kernel)⟩
set_option maxRecDepth 20000 in
theorem m_RC_countFrom : MV y_RC_countFrom b_RC_countFrom 6 (some .int) 2 := ⟨om_at (List.mem_of_getElem? (i := 399) rfl) rfl, om_at (List.mem_of_getElem? (i := 398) (by decide +kernel)) rfl, om_at (List.mem_of_getElem? (i := 12) (by decide +kernel)) rfl, kz_RC, (by decide +kernel), (by decide +kernel), (by decide +kernel)⟩
set_option maxRecDepth 20000 in
theorem m_RC_narrowestOpenCell : MV y_RC_narrowestOpenCell b_RC_narrowestOpenCell 5 (some .int) 0 := ⟨om_at (List.mem_of_getElem? (i := 403) rfl) rfl, om_at (List.mem_of_getElem? (i := 402) (by decide +kernel)) rfl, om_at (List.mem_of_getElem? (i := 13) (by decide +kernel)) rfl, kz_RC, (by decide +kernel), (by decide +kernel), (by decide +kernel)⟩
set_option maxRecDepth 20000 in
theorem m_IN_bitCount : MS y_IN_bitCount b_IN_bitCount 1 (some .int) 1 := ⟨om_at (List.mem_of_getElem? (i := 406) rfl) rfl, om_at (List.mem_of_getElem? (i := 405) (by decide +kernel)) rfl, kz_IN, (by decide +kernel), (by decide +kernel), (by decide +kernel)⟩
set_option maxRecDepth 20000 in
theorem m_RC_someNumberLacksPlaces : MV y_RC_someNumberLacksPlaces b_RC_someNumberLacksPlaces 3 (some .boolean) 0 := ⟨om_at (List.mem_of_getElem? (i := 416) rfl) rfl, om_at (List.mem_of_getElem? (i := 415) (by decide +kernel)) rfl, om_at (List.mem_of_getElem? (i := 14) (by decide +kernel)) rfl, kz_RC, (by decide +kernel), (by decide +kernel), (by decide +kernel)⟩
set_option maxRecDepth 20000 in
theorem m_RC_linesWith : MS y_RC_linesWith b_RC_linesWith 7 (some .int) 2 := ⟨om_at (List.mem_of_getElem? (i := 419) rfl) rfl, om_at (List.mem_of_getElem? (i := 418) (by decide +kernel)) rfl, kz_RC, (by decide +kernel), (by decide +kernel), (by decide +kernel)⟩
set_option maxRecDepth 20000 in
theorem m_RC_countWith : MV y_RC_countWith b_RC_countWith 7 (some .int) 4 := ⟨om_at (List.mem_of_getElem? (i := 423) rfl) rfl, om_at (List.mem_of_getElem? (i := 422) (by decide +kernel)) rfl, om_at (List.mem_of_getElem? (i := 15) (by decide +kernel)) rfl, kz_RC, (by decide +kernel), (by decide +kernel), (by decide +kernel)⟩
set_option maxRecDepth 20000 in
theorem m_RC_take : MV y_RC_take b_RC_take 3 none 2 := ⟨om_at (List.mem_of_getElem? (i := 427) rfl) rfl, om_at (List.mem_of_getElem? (i := 426) (by decide +kernel)) rfl, om_at (List.mem_of_getElem? (i := 16) (by decide +kernel)) rfl, kz_RC, (by decide +kernel), (by decide +kernel), (by decide +kernel)⟩
set_option maxRecDepth 20000 in
theorem m_RC_settle : MV y_RC_settle b_RC_settle 5 none 1 := ⟨om_at (List.mem_of_getElem? (i := 431) rfl) rfl, om_at (List.mem_of_getElem? (i := 430) (by decide +kernel)) rfl, om_at (List.mem_of_getElem? (i := 17) (by decide +kernel)) rfl, kz_RC, (by decide +kernel), (by decide +kernel), (by decide +kernel)⟩
set_option maxRecDepth 20000 in
theorem m_TF_number : MV y_TF_number b_TF_number 4 (some .int) 2 := ⟨om_at (List.mem_of_getElem? (i := 435) rfl) rfl, om_at (List.mem_of_getElem? (i := 433) (by decide +kernel)) rfl, om_at (List.mem_of_getElem? (i := 434) (by decide +kernel)) rfl, kz_TF, (by decide +kernel), (by decide +kernel), (by decide +kernel)⟩
set_option maxRecDepth 20000 in
theorem m_RC_foundAt : MV y_RC_foundAt b_RC_foundAt 2 (some .int) 1 := ⟨om_at (List.mem_of_getElem? (i := 439) rfl) rfl, om_at (List.mem_of_getElem? (i := 437) (by decide +kernel)) rfl, om_at (List.mem_of_getElem? (i := 438) (by decide +kernel)) rfl, kz_RC, (by decide +kernel), (by decide +kernel), (by decide +kernel)⟩
set_option maxRecDepth 20000 in
theorem m_TF_fills : MV y_TF_fills b_TF_fills 2 (some .int) 1 := ⟨om_at (List.mem_of_getElem? (i := 443) rfl) rfl, om_at (List.mem_of_getElem? (i := 441) (by decide +kernel)) rfl, om_at (List.mem_of_getElem? (i := 442) (by decide +kernel)) rfl, kz_TF, (by decide +kernel), (by decide +kernel), (by decide +kernel)⟩
set_option maxRecDepth 20000 in
theorem m_RC_countUpTo : MV y_RC_countUpTo b_RC_countUpTo 2 (some .int) 1 := ⟨om_at (List.mem_of_getElem? (i := 447) rfl) rfl, om_at (List.mem_of_getElem? (i := 445) (by decide +kernel)) rfl, om_at (List.mem_of_getElem? (i := 446) (by decide +kernel)) rfl, kz_RC, (by decide +kernel), (by decide +kernel), (by decide +kernel)⟩
set_option maxRecDepth 20000 in
theorem m_TF_magic : MV y_TF_magic b_TF_magic 6 (some .int) 3 := ⟨om_at (List.mem_of_getElem? (i := 451) rfl) rfl, om_at (List.mem_of_getElem? (i := 449) (by decide +kernel)) rfl, om_at (List.mem_of_getElem? (i := 450) (by decide +kernel)) rfl, kz_TF, (by decide +kernel), (by decide +kernel), (by decide +kernel)⟩
set_option maxRecDepth 20000 in
theorem m_MT_floorMod : MS y_MT_floorMod b_MT_floorMod 3 (some .int) 2 := ⟨om_at (List.mem_of_getElem? (i := 454) rfl) rfl, om_at (List.mem_of_getElem? (i := 453) (by decide +kernel)) rfl, kz_MT, (by decide +kernel), (by decide +kernel), (by decide +kernel)⟩
set_option maxRecDepth 20000 in
theorem m_law_cell : MS y_law_cell b_law_cell 2 (some .int) 2 := ⟨om_at (List.mem_of_getElem? (i := 457) rfl) rfl, om_at (List.mem_of_getElem? (i := 456) (by decide +kernel)) rfl, kz_law, (by decide +kernel), (by decide +kernel), (by decide +kernel)⟩
set_option maxRecDepth 20000 in
theorem m_MD_init : MI y_MD_init b_MD_init 3 2 := ⟨om_at (List.mem_of_getElem? (i := 462) rfl) rfl, om_at (List.mem_of_getElem? (i := 461) (by decide +kernel)) rfl, rfl, kz_MD, (by decide +kernel), (by decide +kernel), (by decide +kernel)⟩
set_option maxRecDepth 20000 in
theorem m_MD_held : MS y_MD_held b_MD_held 1 (some .int) 1 := ⟨om_at (List.mem_of_getElem? (i := 466) rfl) rfl, om_at (List.mem_of_getElem? (i := 465) (by decide +kernel)) rfl, kz_MD, (by decide +kernel), (by decide +kernel), (by decide +kernel)⟩
set_option maxRecDepth 20000 in
theorem m_MD_bar : MV y_MD_bar b_MD_bar 4 (some .boolean) 3 := ⟨om_at (List.mem_of_getElem? (i := 526) rfl) rfl, om_at (List.mem_of_getElem? (i := 524) (by decide +kernel)) rfl, om_at (List.mem_of_getElem? (i := 525) (by decide +kernel)) rfl, kz_MD, (by decide +kernel), (by decide +kernel), (by decide +kernel)⟩
set_option maxRecDepth 20000 in
theorem m_MD_isCell : MV y_MD_isCell b_MD_isCell 3 (some .boolean) 2 := ⟨om_at (List.mem_of_getElem? (i := 530) rfl) rfl, om_at (List.mem_of_getElem? (i := 529) (by decide +kernel)) rfl, om_at (List.mem_of_getElem? (i := 18) (by decide +kernel)) rfl, kz_MD, (by decide +kernel), (by decide +kernel), (by decide +kernel)⟩
set_option maxRecDepth 20000 in
theorem m_MD_start : MV y_MD_start b_MD_start 3 (some .boolean) 2 := ⟨om_at (List.mem_of_getElem? (i := 534) rfl) rfl, om_at (List.mem_of_getElem? (i := 532) (by decide +kernel)) rfl, om_at (List.mem_of_getElem? (i := 533) (by decide +kernel)) rfl, kz_MD, (by decide +kernel), (by decide +kernel), (by decide +kernel)⟩
set_option maxRecDepth 20000 in
theorem m_MD_tour : MV y_MD_tour b_MD_tour 4 (some .int) 3 := ⟨om_at (List.mem_of_getElem? (i := 538) rfl) rfl, om_at (List.mem_of_getElem? (i := 536) (by decide +kernel)) rfl, om_at (List.mem_of_getElem? (i := 537) (by decide +kernel)) rfl, kz_MD, (by decide +kernel), (by decide +kernel), (by decide +kernel)⟩
set_option maxRecDepth 20000 in
theorem m_MD_search : MV y_MD_search b_MD_search 8 (some .int) 3 := ⟨om_at (List.mem_of_getElem? (i := 543) rfl) rfl, om_at (List.mem_of_getElem? (i := 542) (by decide +kernel)) rfl, om_at (List.mem_of_getElem? (i := 19) (by decide +kernel)) rfl, kz_MD, (by decide +kernel), (by decide +kernel), (by decide +kernel)⟩
set_option maxRecDepth 20000 in
theorem m_MD_open : MV y_MD_open b_MD_open 3 (some .int) 0 := ⟨om_at (List.mem_of_getElem? (i := 547) rfl) rfl, om_at (List.mem_of_getElem? (i := 546) (by decide +kernel)) rfl, om_at (List.mem_of_getElem? (i := 20) (by decide +kernel)) rfl, kz_MD, (by decide +kernel), (by decide +kernel), (by decide +kernel)⟩
set_option maxRecDepth 20000 in
theorem m_MD_goes : MV y_MD_goes b_MD_goes 6 (some .boolean) 3 := ⟨om_at (List.mem_of_getElem? (i := 551) rfl) rfl, om_at (List.mem_of_getElem? (i := 550) (by decide +kernel)) rfl, om_at (List.mem_of_getElem? (i := 21) (by decide +kernel)) rfl, kz_MD, (by decide +kernel), (by decide +kernel), (by decide +kernel)⟩
set_option maxRecDepth 20000 in
theorem m_MD_apart : MS y_MD_apart b_MD_apart 2 (some .int) 2 := ⟨om_at (List.mem_of_getElem? (i := 554) rfl) rfl, om_at (List.mem_of_getElem? (i := 553) (by decide +kernel)) rfl, kz_MD, (by decide +kernel), (by decide +kernel), (by decide +kernel)⟩
set_option maxRecDepth 20000 in
theorem m_MD_nextCell : MV y_MD_nextCell b_MD_nextCell 10 (some .int) 3 := ⟨om_at (List.mem_of_getElem? (i := 558) rfl) rfl, om_at (List.mem_of_getElem? (i := 557) (by decide +kernel)) rfl, om_at (List.mem_of_getElem? (i := 22) (by decide +kernel)) rfl, kz_MD, (by decide +kernel), (by decide +kernel), (by decide +kernel)⟩
set_option maxRecDepth 20000 in
theorem m_MD_waysOn : MV y_MD_waysOn b_MD_waysOn 5 (some .int) 2 := ⟨om_at (List.mem_of_getElem? (i := 562) rfl) rfl, om_at (List.mem_of_getElem? (i := 561) (by decide +kernel)) rfl, om_at (List.mem_of_getElem? (i := 23) (by decide +kernel)) rfl, kz_MD, (by decide +kernel), (by decide +kernel), (by decide +kernel)⟩
set_option maxRecDepth 20000 in
theorem m_MD_at : MV y_MD_at b_MD_at 2 (some .int) 1 := ⟨om_at (List.mem_of_getElem? (i := 566) rfl) rfl, om_at (List.mem_of_getElem? (i := 564) (by decide +kernel)) rfl, om_at (List.mem_of_getElem? (i := 565) (by decide +kernel)) rfl, kz_MD, (by decide +kernel), (by decide +kernel), (by decide +kernel)⟩
set_option maxRecDepth 20000 in
theorem m_MD_steps : MV y_MD_steps b_MD_steps 1 (some .int) 0 := ⟨om_at (List.mem_of_getElem? (i := 570) rfl) rfl, om_at (List.mem_of_getElem? (i := 568) (by decide +kernel)) rfl, om_at (List.mem_of_getElem? (i := 569) (by decide +kernel)) rfl, kz_MD, (by decide +kernel), (by decide +kernel), (by decide +kernel)⟩
set_option maxRecDepth 20000 in
theorem m_MD_ways : MV y_MD_ways b_MD_ways 5 (some .int) 2 := ⟨om_at (List.mem_of_getElem? (i := 574) rfl) rfl, om_at (List.mem_of_getElem? (i := 572) (by decide +kernel)) rfl, om_at (List.mem_of_getElem? (i := 573) (by decide +kernel)) rfl, kz_MD, (by decide +kernel), (by decide +kernel), (by decide +kernel)⟩
set_option maxRecDepth 20000 in
theorem m_MD_queens : MV y_MD_queens b_MD_queens 1 (some .int) 0 := ⟨om_at (List.mem_of_getElem? (i := 578) rfl) rfl, om_at (List.mem_of_getElem? (i := 576) (by decide +kernel)) rfl, om_at (List.mem_of_getElem? (i := 577) (by decide +kernel)) rfl, kz_MD, (by decide +kernel), (by decide +kernel), (by decide +kernel)⟩
set_option maxRecDepth 20000 in
theorem m_MD_goThrough : MV y_MD_goThrough b_MD_goThrough 5 (some .int) 1 := ⟨om_at (List.mem_of_getElem? (i := 582) rfl) rfl, om_at (List.mem_of_getElem? (i := 581) (by decide +kernel)) rfl, om_at (List.mem_of_getElem? (i := 24) (by decide +kernel)) rfl, kz_MD, (by decide +kernel), (by decide +kernel), (by decide +kernel)⟩
set_option maxRecDepth 20000 in
theorem m_MD_stands : MV y_MD_stands b_MD_stands 4 (some .boolean) 1 := ⟨om_at (List.mem_of_getElem? (i := 586) rfl) rfl, om_at (List.mem_of_getElem? (i := 585) (by decide +kernel)) rfl, om_at (List.mem_of_getElem? (i := 25) (by decide +kernel)) rfl, kz_MD, (by decide +kernel), (by decide +kernel), (by decide +kernel)⟩
set_option maxRecDepth 20000 in
theorem m_MD_queen : MV y_MD_queen b_MD_queen 3 (some .int) 2 := ⟨om_at (List.mem_of_getElem? (i := 590) rfl) rfl, om_at (List.mem_of_getElem? (i := 588) (by decide +kernel)) rfl, om_at (List.mem_of_getElem? (i := 589) (by decide +kernel)) rfl, kz_MD, (by decide +kernel), (by decide +kernel), (by decide +kernel)⟩
set_option maxRecDepth 20000 in
theorem m_MD_given : MV y_MD_given b_MD_given 4 (some .boolean) 3 := ⟨om_at (List.mem_of_getElem? (i := 594) rfl) rfl, om_at (List.mem_of_getElem? (i := 592) (by decide +kernel)) rfl, om_at (List.mem_of_getElem? (i := 593) (by decide +kernel)) rfl, kz_MD, (by decide +kernel), (by decide +kernel), (by decide +kernel)⟩
set_option maxRecDepth 20000 in
theorem m_MD_fill : MV y_MD_fill b_MD_fill 1 (some .boolean) 0 := ⟨om_at (List.mem_of_getElem? (i := 598) rfl) rfl, om_at (List.mem_of_getElem? (i := 596) (by decide +kernel)) rfl, om_at (List.mem_of_getElem? (i := 597) (by decide +kernel)) rfl, kz_MD, (by decide +kernel), (by decide +kernel), (by decide +kernel)⟩
set_option maxRecDepth 20000 in
theorem m_MD_fillThrough : MV y_MD_fillThrough b_MD_fillThrough 6 (some .int) 2 := ⟨om_at (List.mem_of_getElem? (i := 602) rfl) rfl, om_at (List.mem_of_getElem? (i := 601) (by decide +kernel)) rfl, om_at (List.mem_of_getElem? (i := 26) (by decide +kernel)) rfl, kz_MD, (by decide +kernel), (by decide +kernel), (by decide +kernel)⟩
set_option maxRecDepth 20000 in
theorem m_MD_goesOn : MV y_MD_goesOn b_MD_goesOn 3 (some .boolean) 1 := ⟨om_at (List.mem_of_getElem? (i := 606) rfl) rfl, om_at (List.mem_of_getElem? (i := 605) (by decide +kernel)) rfl, om_at (List.mem_of_getElem? (i := 27) (by decide +kernel)) rfl, kz_MD, (by decide +kernel), (by decide +kernel), (by decide +kernel)⟩
set_option maxRecDepth 20000 in
theorem m_MD_free : MV y_MD_free b_MD_free 6 (some .int) 2 := ⟨om_at (List.mem_of_getElem? (i := 610) rfl) rfl, om_at (List.mem_of_getElem? (i := 609) (by decide +kernel)) rfl, om_at (List.mem_of_getElem? (i := 28) (by decide +kernel)) rfl, kz_MD, (by decide +kernel), (by decide +kernel), (by decide +kernel)⟩
set_option maxRecDepth 20000 in
theorem m_MD_enough : MV y_MD_enough b_MD_enough 9 (some .boolean) 4 := ⟨om_at (List.mem_of_getElem? (i := 614) rfl) rfl, om_at (List.mem_of_getElem? (i := 613) (by decide +kernel)) rfl, om_at (List.mem_of_getElem? (i := 29) (by decide +kernel)) rfl, kz_MD, (by decide +kernel), (by decide +kernel), (by decide +kernel)⟩
set_option maxRecDepth 20000 in
theorem m_MD_bits : MS y_MD_bits b_MD_bits 3 (some .int) 1 := ⟨om_at (List.mem_of_getElem? (i := 617) rfl) rfl, om_at (List.mem_of_getElem? (i := 616) (by decide +kernel)) rfl, kz_MD, (by decide +kernel), (by decide +kernel), (by decide +kernel)⟩
set_option maxRecDepth 20000 in
theorem m_MD_fits : MV y_MD_fits b_MD_fits 7 (some .boolean) 2 := ⟨om_at (List.mem_of_getElem? (i := 621) rfl) rfl, om_at (List.mem_of_getElem? (i := 620) (by decide +kernel)) rfl, om_at (List.mem_of_getElem? (i := 30) (by decide +kernel)) rfl, kz_MD, (by decide +kernel), (by decide +kernel), (by decide +kernel)⟩
set_option maxRecDepth 20000 in
theorem m_MD_number : MV y_MD_number b_MD_number 3 (some .int) 2 := ⟨om_at (List.mem_of_getElem? (i := 625) rfl) rfl, om_at (List.mem_of_getElem? (i := 623) (by decide +kernel)) rfl, om_at (List.mem_of_getElem? (i := 624) (by decide +kernel)) rfl, kz_MD, (by decide +kernel), (by decide +kernel), (by decide +kernel)⟩
set_option maxRecDepth 20000 in
theorem m_MD_fills : MV y_MD_fills b_MD_fills 2 (some .int) 1 := ⟨om_at (List.mem_of_getElem? (i := 629) rfl) rfl, om_at (List.mem_of_getElem? (i := 627) (by decide +kernel)) rfl, om_at (List.mem_of_getElem? (i := 628) (by decide +kernel)) rfl, kz_MD, (by decide +kernel), (by decide +kernel), (by decide +kernel)⟩
set_option maxRecDepth 20000 in
theorem m_MD_magic : MV y_MD_magic b_MD_magic 7 (some .int) 3 := ⟨om_at (List.mem_of_getElem? (i := 633) rfl) rfl, om_at (List.mem_of_getElem? (i := 631) (by decide +kernel)) rfl, om_at (List.mem_of_getElem? (i := 632) (by decide +kernel)) rfl, kz_MD, (by decide +kernel), (by decide +kernel), (by decide +kernel)⟩
theorem kq_max : Cond.static Lib.Math.max.name ∈ Om ∧ Cond.code Lib.Math.max.name Lib.Math.max.code 2 (some .int) ∈ Om := ⟨om_at (List.mem_of_getElem? (i := 57) (by decide +kernel)) rfl, om_at (List.mem_of_getElem? (i := 58) (by decide +kernel)) rfl⟩
theorem kq_min : Cond.static Lib.Math.min.name ∈ Om ∧ Cond.code Lib.Math.min.name Lib.Math.min.code 2 (some .int) ∈ Om := ⟨om_at (List.mem_of_getElem? (i := 54) (by decide +kernel)) rfl, om_at (List.mem_of_getElem? (i := 55) (by decide +kernel)) rfl⟩
theorem kq_abs : Cond.static Lib.Math.abs.name ∈ Om ∧ Cond.code Lib.Math.abs.name Lib.Math.abs.code 1 (some .int) ∈ Om := ⟨om_at (List.mem_of_getElem? (i := 354) (by decide +kernel)) rfl, om_at (List.mem_of_getElem? (i := 355) (by decide +kernel)) rfl⟩
theorem kq_obj : Cond.instanceMethod objectInit ∈ Om ∧ Cond.code objectInit ⟨#[0xb1]⟩ 1 none ∈ Om := ⟨om_at (List.mem_of_getElem? (i := 48) (by decide +kernel)) rfl, om_at (List.mem_of_getElem? (i := 49) rfl) rfl⟩
theorem kq_copy : Cond.native arraycopyName ∈ Om ∧ Cond.static arraycopyName ∈ Om := ⟨om_at (List.mem_of_getElem? (i := 412) (by decide +kernel)) rfl, om_at (List.mem_of_getElem? (i := 411) (by decide +kernel)) rfl⟩
end
section
/-! how many bits: pop n a counts bits 0 to n - 1 of a; bitCount's five and six steps give it -/
def pop : Nat → Nat → Nat
  | 0, _ => 0
  | n + 1, a => a % 2 + pop n (a / 2)
theorem pop_add (k : Nat) : ∀ j a, pop (j + k) a = pop j a + pop k (a / 2 ^ j) := by
  intro j
  induction j with
  | zero => intro a; simp [pop]
  | succ j ih =>
    intro a
    rw [show j + 1 + k = (j + k) + 1 by omega, pop, ih, pop, Nat.div_div_eq_div_mul, ← Nat.pow_succ', Nat.add_assoc]
theorem pop_mod : ∀ j a, pop j (a % 2 ^ j) = pop j a := by
  intro j
  induction j with
  | zero => intro a; rfl
  | succ j ih =>
    intro a
    rw [pop, pop, Nat.pow_succ', Nat.mod_mul_right_div_self, ih, Nat.mod_mul_right_mod]
theorem pop_le : ∀ n a, pop n a ≤ n := by
  intro n
  induction n with
  | zero => intro a; exact Nat.le_refl 0
  | succ n ih => intro a; rw [pop]; have := ih (a / 2); omega
def rep (m : Nat) : Nat → Nat
  | 0 => 0
  | k + 1 => 256 * rep m k + m
theorem and256 (u v s t : Nat) (hv : v < 256) (ht : t < 256) : (256 * u + v) &&& (256 * s + t) = 256 * (u &&& s) + (v &&& t) := by
  apply Nat.eq_of_testBit_eq
  intro i
  have h1 := Nat.testBit_two_pow_mul_add u (i := 8) (b := v) hv i
  have h2 := Nat.testBit_two_pow_mul_add s (i := 8) (b := t) ht i
  have h3 := Nat.testBit_two_pow_mul_add (u &&& s) (i := 8) (b := v &&& t) (Nat.and_lt_two_pow v ht) i
  simp only [show (2 : Nat) ^ 8 = 256 from rfl] at h1 h2 h3
  rw [Nat.testBit_and, h1, h2, h3]
  split <;> simp [Nat.testBit_and]
def s1 (k a : Nat) : Nat := a - (a / 2 &&& rep 0x55 k)
def s2 (k a : Nat) : Nat := (a &&& rep 0x33 k) + (a / 4 &&& rep 0x33 k)
def s3 (k a : Nat) : Nat := (a + a / 16) &&& rep 0x0f k
theorem s_d1 : ∀ e, e < 2 → ∀ b, b < 256 → (128 * e + b / 2) &&& 0x55 = b / 2 &&& 0x55 := by decide +kernel
theorem s_d2 : ∀ e, e < 4 → ∀ b, b < 256 → (64 * e + b / 4) &&& 0x33 = b / 4 &&& 0x33 := by decide +kernel
theorem s_d3 : ∀ e, e < 5 → ∀ b, b < 256 → b % 16 ≤ 4 → b / 16 ≤ 4 → (b + (16 * e + b / 16)) % 256 &&& 0x0f = (b + b / 16) &&& 0x0f ∧ b + (16 * e + b / 16) < 256 := by decide +kernel
theorem s1_split (k q b : Nat) (hb : b < 256) : s1 (k + 1) (256 * q + b) = 256 * s1 k q + s1 1 b ∧ s1 1 b < 256 := by
  have e1 : (256 * q + b) / 2 = 256 * (q / 2) + (128 * (q % 2) + b / 2) := by omega
  have e2 := s_d1 (q % 2) (by omega) b hb
  have l1 : q / 2 &&& rep 0x55 k ≤ q := Nat.le_trans Nat.and_le_left (Nat.div_le_self _ _)
  have l2 : b / 2 &&& 0x55 ≤ b := Nat.le_trans Nat.and_le_left (Nat.div_le_self _ _)
  have r1 : rep 0x55 1 = 0x55 := rfl
  unfold s1
  rw [e1, rep, and256 _ _ _ _ (by omega) (by decide), e2, r1]
  omega
theorem s2_split (k q b : Nat) (hb : b < 256) : s2 (k + 1) (256 * q + b) = 256 * s2 k q + s2 1 b ∧ s2 1 b < 256 := by
  have e1 : (256 * q + b) / 4 = 256 * (q / 4) + (64 * (q % 4) + b / 4) := by omega
  have e2 := s_d2 (q % 4) (by omega) b hb
  have l1 : b &&& 0x33 ≤ 0x33 := Nat.and_le_right
  have l2 : b / 4 &&& 0x33 ≤ 0x33 := Nat.and_le_right
  have r1 : rep 0x33 1 = 0x33 := rfl
  unfold s2
  rw [e1, rep, and256 _ _ _ _ hb (by decide), and256 _ _ _ _ (by omega) (by decide), e2, r1]
  omega
theorem s3_split (k q b : Nat) (hb : b < 256) (h1 : b % 16 ≤ 4) (h2 : b / 16 ≤ 4) (hq : q % 16 ≤ 4) : s3 (k + 1) (256 * q + b) = 256 * s3 k q + s3 1 b := by
  have e1 : (256 * q + b) + (256 * q + b) / 16 = 256 * (q + q / 16) + (b + (16 * (q % 16) + b / 16)) := by omega
  obtain ⟨e2, e3⟩ := s_d3 (q % 16) (by omega) b hb h1 h2
  have r1 : rep 0x0f 1 = 0x0f := rfl
  rw [Nat.mod_eq_of_lt e3] at e2
  unfold s3
  rw [e1, rep, and256 _ _ _ _ e3 (by decide), e2, r1]
theorem s_byte : ∀ b, b < 256 → s2 1 (s1 1 b) < 256 ∧ s2 1 (s1 1 b) % 16 ≤ 4 ∧ s2 1 (s1 1 b) / 16 ≤ 4 ∧ s3 1 (s2 1 (s1 1 b)) = pop 8 b ∧ pop 8 b ≤ 8 := by decide +kernel
/-- the numbers of the bytes' bits, side by side -/
def pops : Nat → Nat → Nat
  | 0, _ => 0
  | k + 1, a => 256 * pops k (a / 256) + pop 8 a
theorem s_all : ∀ k a, a < 256 ^ k → s3 k (s2 k (s1 k a)) = pops k a ∧ s2 k (s1 k a) % 16 ≤ 4 := by
  intro k
  induction k with
  | zero => intro a ha; have : a = 0 := by simpa using ha
            subst this; decide
  | succ k ih =>
    intro a ha
    have hq : a / 256 < 256 ^ k := by
      rw [Nat.pow_succ] at ha
      exact Nat.div_lt_of_lt_mul (by rw [Nat.mul_comm]; exact ha)
    obtain ⟨i1, i2⟩ := ih _ hq
    have hb : a % 256 < 256 := Nat.mod_lt _ (by decide)
    obtain ⟨b1, b2, b3, b4, b5⟩ := s_byte _ hb
    have ea : a = 256 * (a / 256) + a % 256 := by omega
    obtain ⟨f1, f1b⟩ := s1_split k (a / 256) (a % 256) hb
    obtain ⟨f2, f2b⟩ := s2_split k (s1 k (a / 256)) (s1 1 (a % 256)) f1b
    have f3 := s3_split k (s2 k (s1 k (a / 256))) (s2 1 (s1 1 (a % 256))) b1 b2 b3 i2
    have e : s2 (k + 1) (s1 (k + 1) a) = 256 * s2 k (s1 k (a / 256)) + s2 1 (s1 1 (a % 256)) := by
      rw [ea, f1, f2, ← ea]
    rw [e]
    refine ⟨?_, by omega⟩
    rw [f3, i1, b4, pops, show pop 8 (a % 256) = pop 8 a from pop_mod 8 a]
theorem pop_bytes : ∀ k a, pop (8 * (k + 1)) a = pop 8 a + pop (8 * k) (a / 256) := by
  intro k a
  rw [show 8 * (k + 1) = 8 + 8 * k by omega, pop_add]
theorem pop8_le (a : Nat) : pop 8 a ≤ 8 := pop_le 8 a
/-- Long.bitCount -/
def p1 (a : Nat) : Nat := a - (a / 2 ^ 1 &&& 6148914691236517205)
def p2 (a : Nat) : Nat := (a &&& 3689348814741910323) + (a / 2 ^ 2 &&& 3689348814741910323)
def p3 (a : Nat) : Nat := (a + a / 2 ^ 4) &&& 1085102592571150095
def p4 (a : Nat) : Nat := a + a / 2 ^ 8
def p5 (a : Nat) : Nat := a + a / 2 ^ 16
def p6 (a : Nat) : Nat := a + a / 2 ^ 32
theorem p_s1 (a : Nat) : p1 a = s1 8 a := rfl
theorem p_s2 (a : Nat) : p2 a = s2 8 a := rfl
theorem p_s3 (a : Nat) : p3 a = s3 8 a := rfl
theorem p_sum (x0 x1 x2 x3 x4 x5 x6 x7 : Nat) (h0 : x0 ≤ 8) (h1 : x1 ≤ 8) (h2 : x2 ≤ 8) (h3 : x3 ≤ 8) (h4 : x4 ≤ 8) (h5 : x5 ≤ 8) (h6 : x6 ≤ 8) (h7 : x7 ≤ 8) :
    p6 (p5 (p4 (256 * (256 * (256 * (256 * (256 * (256 * (256 * (256 * 0 + x7) + x6) + x5) + x4) + x3) + x2) + x1) + x0))) % 128 = x0 + x1 + x2 + x3 + x4 + x5 + x6 + x7 := by
  have e4 : p4 (256 * (256 * (256 * (256 * (256 * (256 * (256 * (256 * 0 + x7) + x6) + x5) + x4) + x3) + x2) + x1) + x0) = 256 * (256 * (256 * (256 * (256 * (256 * (256 * x7 + (x6 + x7)) + (x5 + x6)) + (x4 + x5)) + (x3 + x4)) + (x2 + x3)) + (x1 + x2)) + (x0 + x1) := by
    unfold p4; omega
  have e5 : p5 (256 * (256 * (256 * (256 * (256 * (256 * (256 * x7 + (x6 + x7)) + (x5 + x6)) + (x4 + x5)) + (x3 + x4)) + (x2 + x3)) + (x1 + x2)) + (x0 + x1)) = 256 * (256 * (256 * (256 * (256 * (256 * (256 * x7 + (x6 + x7)) + (x5 + x6 + x7)) + (x4 + x5 + x6 + x7)) + (x3 + x4 + x5 + x6)) + (x2 + x3 + x4 + x5)) + (x1 + x2 + x3 + x4)) + (x0 + x1 + x2 + x3) := by
    unfold p5; omega
  have e6 : (256 * (256 * (256 * (256 * (256 * (256 * (256 * x7 + (x6 + x7)) + (x5 + x6 + x7)) + (x4 + x5 + x6 + x7)) + (x3 + x4 + x5 + x6)) + (x2 + x3 + x4 + x5)) + (x1 + x2 + x3 + x4)) + (x0 + x1 + x2 + x3)) / 2 ^ 32 = 256 * (256 * (256 * x7 + (x6 + x7)) + (x5 + x6 + x7)) + (x4 + x5 + x6 + x7) := by
    omega
  rw [e4, e5]
  unfold p6
  rw [e6]
  omega
theorem p_ok (a : Nat) (ha : a < 2 ^ 64) : p6 (p5 (p4 (p3 (p2 (p1 a))))) &&& 127 = pop 64 a := by
  have h : s3 8 (s2 8 (s1 8 a)) = pops 8 a := (s_all 8 a (by simpa using ha)).1
  rw [p_s1, p_s2, p_s3, h, show (127 : Nat) = 2 ^ 7 - 1 from rfl, Nat.and_two_pow_sub_one_eq_mod]
  have e := p_sum _ _ _ _ _ _ _ _ (pop8_le a) (pop8_le (a / 256)) (pop8_le (a / 256 / 256)) (pop8_le (a / 256 / 256 / 256)) (pop8_le (a / 256 / 256 / 256 / 256)) (pop8_le (a / 256 / 256 / 256 / 256 / 256)) (pop8_le (a / 256 / 256 / 256 / 256 / 256 / 256)) (pop8_le (a / 256 / 256 / 256 / 256 / 256 / 256 / 256))
  have e2 : pops 8 a = 256 * (256 * (256 * (256 * (256 * (256 * (256 * (256 * 0 + pop 8 (a / 256 / 256 / 256 / 256 / 256 / 256 / 256)) + pop 8 (a / 256 / 256 / 256 / 256 / 256 / 256)) + pop 8 (a / 256 / 256 / 256 / 256 / 256)) + pop 8 (a / 256 / 256 / 256 / 256)) + pop 8 (a / 256 / 256 / 256)) + pop 8 (a / 256 / 256)) + pop 8 (a / 256)) + pop 8 a := by
    simp only [pops]
  rw [e2, show (2 : Nat) ^ 7 = 128 from rfl, e, show (64 : Nat) = 8 * (7 + 1) from rfl, pop_bytes, show (8 * 7 : Nat) = 8 * (6 + 1) from rfl, pop_bytes, show (8 * 6 : Nat) = 8 * (5 + 1) from rfl, pop_bytes, show (8 * 5 : Nat) = 8 * (4 + 1) from rfl, pop_bytes, show (8 * 4 : Nat) = 8 * (3 + 1) from rfl, pop_bytes, show (8 * 3 : Nat) = 8 * (2 + 1) from rfl, pop_bytes, show (8 * 2 : Nat) = 8 * (1 + 1) from rfl, pop_bytes, show (8 * 1 : Nat) = 8 * (0 + 1) from rfl, pop_bytes]
  simp only [pop]
  omega
theorem p_b1 {a : Nat} (h : a < 2 ^ 64) : p1 a < 2 ^ 64 := by unfold p1; omega
theorem p_b2 (a : Nat) : p2 a < 2 ^ 64 := by
  unfold p2
  have l1 : a &&& 3689348814741910323 ≤ 3689348814741910323 := Nat.and_le_right
  have l2 : a / 2 ^ 2 &&& 3689348814741910323 ≤ 3689348814741910323 := Nat.and_le_right
  omega
theorem p_b3 (a : Nat) : p3 a ≤ 1085102592571150095 := Nat.and_le_right
theorem p_b4 {a : Nat} (h : a ≤ 1085102592571150095) : p4 a ≤ 1089341276759256150 := by unfold p4; omega
theorem p_b5 {a : Nat} (h : a ≤ 1089341276759256150) : p5 a < 2 ^ 64 := by unfold p5; omega
/-- Integer.bitCount -/
def q1 (a : Nat) : Nat := a - (a / 2 ^ 1 &&& 1431655765)
def q2 (a : Nat) : Nat := (a &&& 858993459) + (a / 2 ^ 2 &&& 858993459)
def q3 (a : Nat) : Nat := (a + a / 2 ^ 4) &&& 252645135
def q4 (a : Nat) : Nat := a + a / 2 ^ 8
def q5 (a : Nat) : Nat := a + a / 2 ^ 16
theorem q_sum (x0 x1 x2 x3 : Nat) (h0 : x0 ≤ 8) (h1 : x1 ≤ 8) (h2 : x2 ≤ 8) (h3 : x3 ≤ 8) : q5 (q4 (256 * (256 * (256 * (256 * 0 + x3) + x2) + x1) + x0)) % 64 = x0 + x1 + x2 + x3 := by
  have e4 : q4 (256 * (256 * (256 * (256 * 0 + x3) + x2) + x1) + x0) = 256 * (256 * (256 * x3 + (x2 + x3)) + (x1 + x2)) + (x0 + x1) := by
    unfold q4; omega
  have e5 : (256 * (256 * (256 * x3 + (x2 + x3)) + (x1 + x2)) + (x0 + x1)) / 2 ^ 16 = 256 * x3 + (x2 + x3) := by
    omega
  rw [e4]
  unfold q5
  rw [e5]
  omega
theorem q_ok (a : Nat) (ha : a < 2 ^ 32) : q5 (q4 (q3 (q2 (q1 a)))) &&& 63 = pop 32 a := by
  have h : s3 4 (s2 4 (s1 4 a)) = pops 4 a := (s_all 4 a (by simpa using ha)).1
  rw [show q1 a = s1 4 a from rfl, show q2 (s1 4 a) = s2 4 (s1 4 a) from rfl, show q3 (s2 4 (s1 4 a)) = s3 4 (s2 4 (s1 4 a)) from rfl, h, show (63 : Nat) = 2 ^ 6 - 1 from rfl, Nat.and_two_pow_sub_one_eq_mod]
  have e := q_sum _ _ _ _ (pop8_le a) (pop8_le (a / 256)) (pop8_le (a / 256 / 256)) (pop8_le (a / 256 / 256 / 256))
  have e2 : pops 4 a = 256 * (256 * (256 * (256 * 0 + pop 8 (a / 256 / 256 / 256)) + pop 8 (a / 256 / 256)) + pop 8 (a / 256)) + pop 8 a := by
    simp only [pops]
  rw [e2, show (2 : Nat) ^ 6 = 64 from rfl, e, show (32 : Nat) = 8 * (3 + 1) from rfl, pop_bytes, show (8 * 3 : Nat) = 8 * (2 + 1) from rfl, pop_bytes, show (8 * 2 : Nat) = 8 * (1 + 1) from rfl, pop_bytes, show (8 * 1 : Nat) = 8 * (0 + 1) from rfl, pop_bytes]
  simp only [pop]
  omega
theorem q_b1 {a : Nat} (h : a < 2 ^ 32) : q1 a < 2 ^ 32 := by unfold q1; omega
theorem q_b2 (a : Nat) : q2 a < 2 ^ 32 := by
  unfold q2
  have l1 : a &&& 858993459 ≤ 858993459 := Nat.and_le_right
  have l2 : a / 2 ^ 2 &&& 858993459 ≤ 858993459 := Nat.and_le_right
  omega
theorem q_b3 (a : Nat) : q3 a ≤ 252645135 := Nat.and_le_right
theorem q_b4 {a : Nat} (h : a ≤ 252645135) : q4 a < 2 ^ 32 := by unfold q4; omega
end
section
set_option maxHeartbeats 1000000 in
set_option maxRecDepth 100000 in
theorem c_LG_bitCount (l : Launch) (D : va_G) (cI cL : ClassId) (n : Nat) (hn : n < 2 ^ 64) : CI l y_LG_bitCount (.code y_LG_bitCount b_LG_bitCount 2 (some .int) :: Om) { frames := 0, cells := 0, slots := 0, locals := 0 } D [] [(cI, .int), (cL, .long)] [.long (lN n)] (fun r u => r = nI (pop 64 n) ∧ u = []) := by
  refine en_of (cc := b_LG_bitCount) (Qc := qI D [(cI, .int), (cL, .long)] (fun r u => r = nI (pop 64 n) ∧ u = [])) (by decide) rfl (Nat.le_of_ble_eq_true rfl) ?_
  intro p e s m below meth c A E hnm hP hD hS ls hl
  have hl : lv_has ls 2 [(0, .long (lN n))] := hl
  obtain ⟨hx, hb, hml, hown, hts, hr, hlk, hA, hK, hN⟩ := id E
  have ho : ∀ q ∈ Om, q.before _ s = true := fun q h => hts q (List.mem_cons_of_mem _ h)
  have f0 : n / 2 ^ 1 &&& 6148914691236517205 ≤ n := Nat.le_trans Nat.and_le_left (Nat.div_le_self _ _)
  have f1 := p_b1 hn
  have f2 := p_b2 (p1 n)
  have f3 := p_b3 (p2 (p1 n))
  have f4 := p_b4 f3
  have f5 := p_b5 f4
  refine lv_lload_n hx hb d_LG_bitCount_0 rfl (lv_at hl 0 rfl) ?_
  refine lv_lload_n hx hb d_LG_bitCount_1 rfl (lv_at hl 0 rfl) ?_
  refine lv_iconst (v := nI 1) hx hb d_LG_bitCount_2 (by decide) ?_
  refine nr_lushr hx hb d_LG_bitCount_3 (by omega) (by omega) ?_
  refine lv_ldc2 (v := lN 6148914691236517205) hx hb hown (ho _ kl_LG_314) d_LG_bitCount_4 ?_
  refine nr_land hx hb d_LG_bitCount_7 ?_
  refine nr_lsub hx hb d_LG_bitCount_8 (by omega) ?_
  refine lv_lstore_n (lv' := [(0, .long (lN (p1 n)))]) hx hb d_LG_bitCount_9 rfl hl (by decide) rfl (fun ls hl => ?_)
  refine lv_lload_n hx hb d_LG_bitCount_10 rfl (lv_at hl 0 rfl) ?_
  refine lv_ldc2 (v := lN 3689348814741910323) hx hb hown (ho _ kl_LG_316) d_LG_bitCount_11 ?_
  refine nr_land hx hb d_LG_bitCount_14 ?_
  refine lv_lload_n hx hb d_LG_bitCount_15 rfl (lv_at hl 0 rfl) ?_
  refine lv_iconst (v := nI 2) hx hb d_LG_bitCount_16 (by decide) ?_
  refine nr_lushr hx hb d_LG_bitCount_17 (by omega) (by omega) ?_
  refine lv_ldc2 (v := lN 3689348814741910323) hx hb hown (ho _ kl_LG_316) d_LG_bitCount_18 ?_
  refine nr_land hx hb d_LG_bitCount_21 ?_
  refine nr_ladd hx hb d_LG_bitCount_22 ?_
  refine lv_lstore_n (lv' := [(0, .long (lN (p2 (p1 n))))]) hx hb d_LG_bitCount_23 rfl hl (by decide) rfl (fun ls hl => ?_)
  refine lv_lload_n hx hb d_LG_bitCount_24 rfl (lv_at hl 0 rfl) ?_
  refine lv_lload_n hx hb d_LG_bitCount_25 rfl (lv_at hl 0 rfl) ?_
  refine lv_iconst (v := nI 4) hx hb d_LG_bitCount_26 (by decide) ?_
  refine nr_lushr hx hb d_LG_bitCount_27 (by omega) (by omega) ?_
  refine nr_ladd hx hb d_LG_bitCount_28 ?_
  refine lv_ldc2 (v := lN 1085102592571150095) hx hb hown (ho _ kl_LG_318) d_LG_bitCount_29 ?_
  refine nr_land hx hb d_LG_bitCount_32 ?_
  refine lv_lstore_n (lv' := [(0, .long (lN (p3 (p2 (p1 n)))))]) hx hb d_LG_bitCount_33 rfl hl (by decide) rfl (fun ls hl => ?_)
  refine lv_lload_n hx hb d_LG_bitCount_34 rfl (lv_at hl 0 rfl) ?_
  refine lv_lload_n hx hb d_LG_bitCount_35 rfl (lv_at hl 0 rfl) ?_
  refine lv_bipush (v := nI 8) hx hb d_LG_bitCount_36 (by decide) ?_
  refine nr_lushr hx hb d_LG_bitCount_38 (by omega) (by omega) ?_
  refine nr_ladd hx hb d_LG_bitCount_39 ?_
  refine lv_lstore_n (lv' := [(0, .long (lN (p4 (p3 (p2 (p1 n))))))]) hx hb d_LG_bitCount_40 rfl hl (by decide) rfl (fun ls hl => ?_)
  refine lv_lload_n hx hb d_LG_bitCount_41 rfl (lv_at hl 0 rfl) ?_
  refine lv_lload_n hx hb d_LG_bitCount_42 rfl (lv_at hl 0 rfl) ?_
  refine lv_bipush (v := nI 16) hx hb d_LG_bitCount_43 (by decide) ?_
  refine nr_lushr hx hb d_LG_bitCount_45 (by omega) (by omega) ?_
  refine nr_ladd hx hb d_LG_bitCount_46 ?_
  refine lv_lstore_n (lv' := [(0, .long (lN (p5 (p4 (p3 (p2 (p1 n)))))))]) hx hb d_LG_bitCount_47 rfl hl (by decide) rfl (fun ls hl => ?_)
  refine lv_lload_n hx hb d_LG_bitCount_48 rfl (lv_at hl 0 rfl) ?_
  refine lv_lload_n hx hb d_LG_bitCount_49 rfl (lv_at hl 0 rfl) ?_
  refine lv_bipush (v := nI 32) hx hb d_LG_bitCount_50 (by decide) ?_
  refine nr_lushr hx hb d_LG_bitCount_52 (by omega) (by omega) ?_
  refine nr_ladd hx hb d_LG_bitCount_53 ?_
  refine lv_lstore_n (lv' := [(0, .long (lN (p6 (p5 (p4 (p3 (p2 (p1 n))))))))]) hx hb d_LG_bitCount_54 rfl hl (by decide) rfl (fun ls hl => ?_)
  refine lv_lload_n hx hb d_LG_bitCount_55 rfl (lv_at hl 0 rfl) ?_
  refine nr_l2i hx hb d_LG_bitCount_56 ?_
  refine lv_bipush (v := nI 127) hx hb d_LG_bitCount_57 (by decide) ?_
  refine nr_iand hx hb d_LG_bitCount_59 ?_
  exact rt_i E hP hD hS ⟨by rw [p_ok n hn], rfl⟩ d_LG_bitCount_60
set_option maxHeartbeats 1000000 in
set_option maxRecDepth 100000 in
theorem c_IN_bitCount (l : Launch) (D : va_G) (cI cL : ClassId) (n : Nat) (hn : n < 2 ^ 32) : CI l y_IN_bitCount (.code y_IN_bitCount b_IN_bitCount 1 (some .int) :: Om) { frames := 0, cells := 0, slots := 0, locals := 0 } D [] [(cI, .int), (cL, .long)] [.int (nI n)] (fun r u => r = nI (pop 32 n) ∧ u = []) := by
  refine en_of (cc := b_IN_bitCount) (Qc := qI D [(cI, .int), (cL, .long)] (fun r u => r = nI (pop 32 n) ∧ u = [])) (by decide) rfl (Nat.le_of_ble_eq_true rfl) ?_
  intro p e s m below meth c A E hnm hP hD hS ls hl
  have hl : lv_has ls 1 [(0, .int (nI n))] := hl
  obtain ⟨hx, hb, hml, hown, hts, hr, hlk, hA, hK, hN⟩ := id E
  have ho : ∀ q ∈ Om, q.before _ s = true := fun q h => hts q (List.mem_cons_of_mem _ h)
  have f0 : n / 2 ^ 1 &&& 1431655765 ≤ n := Nat.le_trans Nat.and_le_left (Nat.div_le_self _ _)
  have f1 := q_b1 hn
  have f2 := q_b2 (q1 n)
  have f3 := q_b3 (q2 (q1 n))
  have f4 := q_b4 f3
  refine lv_iload_n hx hb d_IN_bitCount_0 rfl (lv_at hl 0 rfl) ?_
  refine lv_iload_n hx hb d_IN_bitCount_1 rfl (lv_at hl 0 rfl) ?_
  refine lv_iconst (v := nI 1) hx hb d_IN_bitCount_2 (by decide) ?_
  refine nr_iushr hx hb d_IN_bitCount_3 (by omega) (by omega) ?_
  refine lv_ldcw (v := nI 1431655765) hx hb hown (ho _ ki_IN_265) d_IN_bitCount_4 ?_
  refine nr_iand hx hb d_IN_bitCount_7 ?_
  refine nr_isub hx hb d_IN_bitCount_8 (by omega) ?_
  refine lv_istore_n (lv' := [(0, .int (nI (q1 n)))]) hx hb d_IN_bitCount_9 rfl hl (by decide) rfl (fun ls hl => ?_)
  refine lv_iload_n hx hb d_IN_bitCount_10 rfl (lv_at hl 0 rfl) ?_
  refine lv_ldcw (v := nI 858993459) hx hb hown (ho _ ki_IN_266) d_IN_bitCount_11 ?_
  refine nr_iand hx hb d_IN_bitCount_14 ?_
  refine lv_iload_n hx hb d_IN_bitCount_15 rfl (lv_at hl 0 rfl) ?_
  refine lv_iconst (v := nI 2) hx hb d_IN_bitCount_16 (by decide) ?_
  refine nr_iushr hx hb d_IN_bitCount_17 (by omega) (by omega) ?_
  refine lv_ldcw (v := nI 858993459) hx hb hown (ho _ ki_IN_266) d_IN_bitCount_18 ?_
  refine nr_iand hx hb d_IN_bitCount_21 ?_
  refine nr_iadd hx hb d_IN_bitCount_22 ?_
  refine lv_istore_n (lv' := [(0, .int (nI (q2 (q1 n))))]) hx hb d_IN_bitCount_23 rfl hl (by decide) rfl (fun ls hl => ?_)
  refine lv_iload_n hx hb d_IN_bitCount_24 rfl (lv_at hl 0 rfl) ?_
  refine lv_iload_n hx hb d_IN_bitCount_25 rfl (lv_at hl 0 rfl) ?_
  refine lv_iconst (v := nI 4) hx hb d_IN_bitCount_26 (by decide) ?_
  refine nr_iushr hx hb d_IN_bitCount_27 (by omega) (by omega) ?_
  refine nr_iadd hx hb d_IN_bitCount_28 ?_
  refine lv_ldcw (v := nI 252645135) hx hb hown (ho _ ki_IN_267) d_IN_bitCount_29 ?_
  refine nr_iand hx hb d_IN_bitCount_32 ?_
  refine lv_istore_n (lv' := [(0, .int (nI (q3 (q2 (q1 n)))))]) hx hb d_IN_bitCount_33 rfl hl (by decide) rfl (fun ls hl => ?_)
  refine lv_iload_n hx hb d_IN_bitCount_34 rfl (lv_at hl 0 rfl) ?_
  refine lv_iload_n hx hb d_IN_bitCount_35 rfl (lv_at hl 0 rfl) ?_
  refine lv_bipush (v := nI 8) hx hb d_IN_bitCount_36 (by decide) ?_
  refine nr_iushr hx hb d_IN_bitCount_38 (by omega) (by omega) ?_
  refine nr_iadd hx hb d_IN_bitCount_39 ?_
  refine lv_istore_n (lv' := [(0, .int (nI (q4 (q3 (q2 (q1 n))))))]) hx hb d_IN_bitCount_40 rfl hl (by decide) rfl (fun ls hl => ?_)
  refine lv_iload_n hx hb d_IN_bitCount_41 rfl (lv_at hl 0 rfl) ?_
  refine lv_iload_n hx hb d_IN_bitCount_42 rfl (lv_at hl 0 rfl) ?_
  refine lv_bipush (v := nI 16) hx hb d_IN_bitCount_43 (by decide) ?_
  refine nr_iushr hx hb d_IN_bitCount_45 (by omega) (by omega) ?_
  refine nr_iadd hx hb d_IN_bitCount_46 ?_
  refine lv_istore_n (lv' := [(0, .int (nI (q5 (q4 (q3 (q2 (q1 n)))))))]) hx hb d_IN_bitCount_47 rfl hl (by decide) rfl (fun ls hl => ?_)
  refine lv_iload_n hx hb d_IN_bitCount_48 rfl (lv_at hl 0 rfl) ?_
  refine lv_bipush (v := nI 63) hx hb d_IN_bitCount_49 (by decide) ?_
  refine nr_iand hx hb d_IN_bitCount_51 ?_
  exact rt_i E hP hD hS ⟨by rw [q_ok n hn], rfl⟩ d_IN_bitCount_52
end
section
/-! Board -/
def cA (w h : Nat) (x y : Int32) : Int32 := if x < 0 ∨ nI w ≤ x ∨ y < 0 ∨ ¬ y < nI h then -1 else x + nI w * y
def hC (n : Nat) (x : Int32) : Nat := if x < 0 ∨ nI n ≤ x then 0 else 1
theorem hC_1 (n : Nat) (x : Int32) : hC n x ≤ 1 := by unfold hC; split <;> omega
theorem bz01 {b : Nat} (h : b ≤ 1) : nI b = 0 ∨ nI b = 1 := by
  rcases (show b = 0 ∨ b = 1 by omega) with rfl | rfl <;> decide
theorem ce_lt {c r w h : Nat} (hc : c < w) (hr : r < h) (hw : w ≤ 6) (hh : h ≤ 6) : c + w * r < 36 := by
  have h1 : w * r ≤ w * 5 := Nat.mul_le_mul_left w (by omega)
  omega
theorem ce_in {c r w h : Nat} (hc : c < w) (hr : r < h) : c + w * r < w * h := by
  have h1 : w * (r + 1) ≤ w * h := Nat.mul_le_mul_left w hr
  rw [Nat.mul_add, Nat.mul_one] at h1
  omega
set_option maxHeartbeats 1000000 in
set_option maxRecDepth 100000 in
theorem c_BD_cellAt (l : Launch) (D : va_G) (cI cL : ClassId) (a w h f : Nat) (x y : Int32) : CI l y_BD_cellAt (.code y_BD_cellAt b_BD_cellAt 3 (some .int) :: Om) { frames := 0, cells := 0, slots := 0, locals := 0 } D [(a, .inr (0, [.int (nI w), .int (nI h), .int (nI (w * h)), .long (lN f)]))] [(cI, .int), (cL, .long)] [.ref a, .int x, .int y] (fun r u => r = cA w h x y ∧ u = [(a, .inr (0, [.int (nI w), .int (nI h), .int (nI (w * h)), .long (lN f)]))]) := by
  refine en_of (cc := b_BD_cellAt) (Qc := qI D [(cI, .int), (cL, .long)] (fun r u => r = cA w h x y ∧ u = [(a, .inr (0, [.int (nI w), .int (nI h), .int (nI (w * h)), .long (lN f)]))])) (by decide) rfl (Nat.le_of_ble_eq_true rfl) ?_
  intro p e s m below meth c A E hnm hP hD hS ls hl
  have hl : lv_has ls 3 [(0, .ref a), (1, .int x), (2, .int y)] := hl
  obtain ⟨hx, hb, hml, hown, hts, hr, hlk, hA, hK, hN⟩ := id E
  have ho : ∀ q ∈ Om, q.before _ s = true := fun q h => hts q (List.mem_cons_of_mem _ h)
  refine lv_iload_n hx hb d_BD_cellAt_0 rfl (lv_at hl 1 rfl) ?_
  refine lv_if_lt (tgt := 24) hx hb d_BD_cellAt_1 (by decide) (fun h_1 => ?_) (fun h_1 => ?_)
  · refine lv_iconst (v := (-1)) hx hb d_BD_cellAt_24 (by decide) ?_
    refine lv_goto (tgt := 36) hx hb d_BD_cellAt_25 (by decide) ?_
    exact rt_i E hP hD hS ⟨by unfold cA; simp [h_1], rfl⟩ d_BD_cellAt_36
  · refine lv_iload_n hx hb d_BD_cellAt_4 rfl (lv_at hl 1 rfl) ?_
    refine lv_aload_n hx hb d_BD_cellAt_5 rfl (lv_at hl 0 rfl) ?_
    refine va_get (D := D) (ci := 0) (v := .int (nI w)) (C := R_BD) (T := F_BD) (N := 4) hx hb ho j_BD hown hK hP 0 rfl rfl 0 (by decide) (ho _ kf_BD_7) (fun _ h9 => h9) rfl d_BD_cellAt_6 ?_
    refine lv_icmp_ge (tgt := 24) hx hb d_BD_cellAt_9 (by decide) (fun h_2 => ?_) (fun h_2 => ?_)
    · refine lv_iconst (v := (-1)) hx hb d_BD_cellAt_24 (by decide) ?_
      refine lv_goto (tgt := 36) hx hb d_BD_cellAt_25 (by decide) ?_
      exact rt_i E hP hD hS ⟨by unfold cA; simp [h_1, h_2], rfl⟩ d_BD_cellAt_36
    · refine lv_iload_n hx hb d_BD_cellAt_12 rfl (lv_at hl 2 rfl) ?_
      refine lv_if_lt (tgt := 24) hx hb d_BD_cellAt_13 (by decide) (fun h_3 => ?_) (fun h_3 => ?_)
      · refine lv_iconst (v := (-1)) hx hb d_BD_cellAt_24 (by decide) ?_
        refine lv_goto (tgt := 36) hx hb d_BD_cellAt_25 (by decide) ?_
        exact rt_i E hP hD hS ⟨by unfold cA; simp [h_1, h_2, h_3], rfl⟩ d_BD_cellAt_36
      · refine lv_iload_n hx hb d_BD_cellAt_16 rfl (lv_at hl 2 rfl) ?_
        refine lv_aload_n hx hb d_BD_cellAt_17 rfl (lv_at hl 0 rfl) ?_
        refine va_get (D := D) (ci := 0) (v := .int (nI h)) (C := R_BD) (T := F_BD) (N := 4) hx hb ho j_BD hown hK hP 0 rfl rfl 1 (by decide) (ho _ kf_BD_13) (fun _ h9 => h9) rfl d_BD_cellAt_18 ?_
        refine lv_icmp_lt (tgt := 28) hx hb d_BD_cellAt_21 (by decide) (fun h_4 => ?_) (fun h_4 => ?_)
        · refine lv_iload_n hx hb d_BD_cellAt_28 rfl (lv_at hl 1 rfl) ?_
          refine lv_aload_n hx hb d_BD_cellAt_29 rfl (lv_at hl 0 rfl) ?_
          refine va_get (D := D) (ci := 0) (v := .int (nI w)) (C := R_BD) (T := F_BD) (N := 4) hx hb ho j_BD hown hK hP 0 rfl rfl 0 (by decide) (ho _ kf_BD_7) (fun _ h9 => h9) rfl d_BD_cellAt_30 ?_
          refine lv_iload_n hx hb d_BD_cellAt_33 rfl (lv_at hl 2 rfl) ?_
          refine lv_imul hx hb d_BD_cellAt_34 ?_
          refine lv_iadd hx hb d_BD_cellAt_35 ?_
          exact rt_i E hP hD hS ⟨by unfold cA; simp [h_1, h_2, h_3, h_4], rfl⟩ d_BD_cellAt_36
        · refine lv_iconst (v := (-1)) hx hb d_BD_cellAt_24 (by decide) ?_
          refine lv_goto (tgt := 36) hx hb d_BD_cellAt_25 (by decide) ?_
          exact rt_i E hP hD hS ⟨by unfold cA; simp [h_1, h_2, h_3, h_4], rfl⟩ d_BD_cellAt_36
set_option maxHeartbeats 1000000 in
set_option maxRecDepth 100000 in
theorem c_BD_hasCell (l : Launch) (D : va_G) (cI cL : ClassId) (a w h f : Nat) (x : Int32) : CI l y_BD_hasCell (.code y_BD_hasCell b_BD_hasCell 2 (some .boolean) :: Om) { frames := 0, cells := 0, slots := 0, locals := 0 } D [(a, .inr (0, [.int (nI w), .int (nI h), .int (nI (w * h)), .long (lN f)]))] [(cI, .int), (cL, .long)] [.ref a, .int x] (fun r u => r = nI (hC (w * h) x) ∧ u = [(a, .inr (0, [.int (nI w), .int (nI h), .int (nI (w * h)), .long (lN f)]))]) := by
  refine en_of (cc := b_BD_hasCell) (Qc := qI D [(cI, .int), (cL, .long)] (fun r u => r = nI (hC (w * h) x) ∧ u = [(a, .inr (0, [.int (nI w), .int (nI h), .int (nI (w * h)), .long (lN f)]))])) (by decide) rfl (Nat.le_of_ble_eq_true rfl) ?_
  intro p e s m below meth c A E hnm hP hD hS ls hl
  have hl : lv_has ls 2 [(0, .ref a), (1, .int x)] := hl
  obtain ⟨hx, hb, hml, hown, hts, hr, hlk, hA, hK, hN⟩ := id E
  have ho : ∀ q ∈ Om, q.before _ s = true := fun q h => hts q (List.mem_cons_of_mem _ h)
  refine lv_iload_n hx hb d_BD_hasCell_0 rfl (lv_at hl 1 rfl) ?_
  refine lv_if_lt (tgt := 16) hx hb d_BD_hasCell_1 (by decide) (fun h_1 => ?_) (fun h_1 => ?_)
  · refine lv_iconst (v := nI 0) hx hb d_BD_hasCell_16 (by decide) ?_
    exact rt_z E hP hD hS (by decide) ⟨by unfold hC; simp [h_1], rfl⟩ d_BD_hasCell_17
  · refine lv_iload_n hx hb d_BD_hasCell_4 rfl (lv_at hl 1 rfl) ?_
    refine lv_aload_n hx hb d_BD_hasCell_5 rfl (lv_at hl 0 rfl) ?_
    refine va_get (D := D) (ci := 0) (v := .int (nI (w * h))) (C := R_BD) (T := F_BD) (N := 4) hx hb ho j_BD hown hK hP 0 rfl rfl 2 (by decide) (ho _ kf_BD_16) (fun _ h9 => h9) rfl d_BD_hasCell_6 ?_
    refine lv_icmp_ge (tgt := 16) hx hb d_BD_hasCell_9 (by decide) (fun h_2 => ?_) (fun h_2 => ?_)
    · refine lv_iconst (v := nI 0) hx hb d_BD_hasCell_16 (by decide) ?_
      exact rt_z E hP hD hS (by decide) ⟨by unfold hC; simp [h_1, h_2], rfl⟩ d_BD_hasCell_17
    · refine lv_iconst (v := nI 1) hx hb d_BD_hasCell_12 (by decide) ?_
      refine lv_goto (tgt := 17) hx hb d_BD_hasCell_13 (by decide) ?_
      exact rt_z E hP hD hS (by decide) ⟨by unfold hC; simp [h_1, h_2], rfl⟩ d_BD_hasCell_17
set_option maxHeartbeats 1000000 in
set_option maxRecDepth 100000 in
theorem c_BD_freeCells (l : Launch) (D : va_G) (cI cL : ClassId) (a w h f : Nat) : CL l y_BD_freeCells (.code y_BD_freeCells b_BD_freeCells 1 (some .long) :: Om) { frames := 0, cells := 0, slots := 0, locals := 0 } D [(a, .inr (0, [.int (nI w), .int (nI h), .int (nI (w * h)), .long (lN f)]))] [(cI, .int), (cL, .long)] [.ref a] (fun r u => r = lN f ∧ u = [(a, .inr (0, [.int (nI w), .int (nI h), .int (nI (w * h)), .long (lN f)]))]) := by
  refine en_of (cc := b_BD_freeCells) (Qc := qL D [(cI, .int), (cL, .long)] (fun r u => r = lN f ∧ u = [(a, .inr (0, [.int (nI w), .int (nI h), .int (nI (w * h)), .long (lN f)]))])) (by decide) rfl (Nat.le_of_ble_eq_true rfl) ?_
  intro p e s m below meth c A E hnm hP hD hS ls hl
  have hl : lv_has ls 1 [(0, .ref a)] := hl
  obtain ⟨hx, hb, hml, hown, hts, hr, hlk, hA, hK, hN⟩ := id E
  have ho : ∀ q ∈ Om, q.before _ s = true := fun q h => hts q (List.mem_cons_of_mem _ h)
  refine lv_aload_n hx hb d_BD_freeCells_0 rfl (lv_at hl 0 rfl) ?_
  refine va_get (D := D) (ci := 0) (v := .long (lN f)) (C := R_BD) (T := F_BD) (N := 4) hx hb ho j_BD hown hK hP 0 rfl rfl 3 (by decide) (ho _ kf_BD_19) (fun _ h9 => h9) rfl d_BD_freeCells_1 ?_
  exact rt_l E hP hD hS ⟨rfl, rfl⟩ d_BD_freeCells_4
theorem hC_in {n k : Nat} (h : k < n) (hn : n < 2 ^ 31) : hC n (nI k) = 1 := by
  unfold hC
  rw [if_neg]
  rintro (q | q)
  · exact nI_pos (by omega) q
  · exact absurd ((nI_leI hn (by omega)).mp q) (by omega)
theorem c_BD_hasIn (l : Launch) (D : va_G) (cI cL : ClassId) (a w h f k : Nat) (hk : k < w * h) (hc : w * h ≤ 36) : CI l y_BD_hasCell (.code y_BD_hasCell b_BD_hasCell 2 (some .boolean) :: Om) { frames := 0, cells := 0, slots := 0, locals := 0 } D [(a, .inr (0, [.int (nI w), .int (nI h), .int (nI (w * h)), .long (lN f)]))] [(cI, .int), (cL, .long)] [.ref a, .int (nI k)] (fun r u => r = nI 1 ∧ u = [(a, .inr (0, [.int (nI w), .int (nI h), .int (nI (w * h)), .long (lN f)]))]) := by
  have := c_BD_hasCell l D cI cL a w h f (nI k)
  rw [hC_in hk (by omega)] at this
  exact this
set_option maxHeartbeats 1000000 in
set_option maxRecDepth 100000 in
theorem c_BD_isFree (l : Launch) (D : va_G) (cI cL : ClassId) (a w h f : Nat) (k : Nat) (hk : k < w * h) (hc : w * h ≤ 36) (hf : f < 2 ^ 36) : CI l y_BD_isFree (.code y_BD_isFree b_BD_isFree 2 (some .boolean) :: Om) { frames := 1, cells := 0, slots := 0, locals := 21 } D [(a, .inr (0, [.int (nI w), .int (nI h), .int (nI (w * h)), .long (lN f)]))] [(cI, .int), (cL, .long)] [.ref a, .int (nI k)] (fun r u => r = nI (f / 2 ^ k % 2) ∧ u = [(a, .inr (0, [.int (nI w), .int (nI h), .int (nI (w * h)), .long (lN f)]))]) := by
  refine en_of (cc := b_BD_isFree) (Qc := qI D [(cI, .int), (cL, .long)] (fun r u => r = nI (f / 2 ^ k % 2) ∧ u = [(a, .inr (0, [.int (nI w), .int (nI h), .int (nI (w * h)), .long (lN f)]))])) (by decide) rfl (Nat.le_of_ble_eq_true rfl) ?_
  intro p e s m below meth c A E hnm hP hD hS ls hl
  have hl : lv_has ls 2 [(0, .ref a), (1, .int (nI k))] := hl
  obtain ⟨hx, hb, hml, hown, hts, hr, hlk, hA, hK, hN⟩ := id E
  have ho : ∀ q ∈ Om, q.before _ s = true := fun q h => hts q (List.mem_cons_of_mem _ h)
  refine lv_aload_n hx hb d_BD_isFree_0 rfl (lv_at hl 0 rfl) ?_
  refine lv_iload_n hx hb d_BD_isFree_1 rfl (lv_at hl 1 rfl) ?_
  refine af_i (wc := [(a, .inr (0, [.int (nI w), .int (nI h), .int (nI (w * h)), .long (lN f)]))]) (wr := []) (rest := []) [0] [] hP hD hS hA rfl rfl (by decide) (by decide) (rn_V E (As := [.int (nI k)]) m_BD_hasCell km_BD_23 (c_BD_hasIn l D cI cL a w h f k (by omega) (by omega) _) ⟨rfl, rfl, Nat.le_of_ble_eq_true rfl, Nat.le_of_ble_eq_true rfl⟩ (hP.sub [0] rfl) (hD.sub [0] (by decide) rfl) (q0 := 0) (ci := 0) rfl rfl rfl hl.1 rfl (Nat.le_of_ble_eq_true rfl) ⟨Nat.le_of_ble_eq_true rfl, Nat.le_of_ble_eq_true rfl⟩ d_BD_isFree_2) (fun r_2 u_1 H locs hw hP hD hS => ?_)
  obtain ⟨rfl, rfl⟩ := hw
  have hP : va_P D classes [(a, .inr (0, [.int (nI w), .int (nI h), .int (nI (w * h)), .long (lN f)]))] H := hP
  have hD : va_D A [(a, .inr (0, [.int (nI w), .int (nI h), .int (nI (w * h)), .long (lN f)]))] := hD
  refine nr_if_eq (tgt := 25) hx hb d_BD_isFree_5 (by decide) (by decide) (fun h9 => absurd h9 (by decide)) (fun _ => ?_)
  refine lv_aload_n hx hb d_BD_isFree_8 rfl (lv_at hl 0 rfl) ?_
  refine va_get (D := D) (ci := 0) (v := .long (lN f)) (C := R_BD) (T := F_BD) (N := 4) hx hb ho j_BD hown hK hP 0 rfl rfl 3 (by decide) (ho _ kf_BD_19) (fun _ h9 => h9) rfl d_BD_isFree_9 ?_
  refine lv_iload_n hx hb d_BD_isFree_12 rfl (lv_at hl 1 rfl) ?_
  refine nr_lushr hx hb d_BD_isFree_13 (by omega) (by omega) ?_
  refine lv_lconst (v := lN 1) hx hb d_BD_isFree_14 rfl ?_
  refine nr_land1 hx hb d_BD_isFree_15 ?_
  refine lv_lconst (v := lN 0) hx hb d_BD_isFree_16 rfl ?_
  refine nr_lcmp_eq (tgt := 25) hx hb d_BD_isFree_17 d_BD_isFree_18 (by decide) (by omega) (by omega) (fun h_3 => ?_) (fun h_3 => ?_)
  · refine lv_iconst (v := nI 0) hx hb d_BD_isFree_25 (by decide) ?_
    exact rt_z E hP hD hS (by decide) ⟨by congr 1; omega, rfl⟩ d_BD_isFree_26
  · refine lv_iconst (v := nI 1) hx hb d_BD_isFree_21 (by decide) ?_
    refine lv_goto (tgt := 26) hx hb d_BD_isFree_22 (by decide) ?_
    exact rt_z E hP hD hS (by decide) ⟨by congr 1; omega, rfl⟩ d_BD_isFree_26
set_option maxHeartbeats 1000000 in
set_option maxRecDepth 100000 in
theorem c_BD_turnBar (l : Launch) (D : va_G) (cI cL : ClassId) (a w h f : Nat) (k : Nat) (hk : k < w * h) (hc : w * h ≤ 36) (hf : f < 2 ^ 36) : CV l y_BD_turnBar (.code y_BD_turnBar b_BD_turnBar 2 none :: Om) { frames := 1, cells := 0, slots := 0, locals := 21 } D [(a, .inr (0, [.int (nI w), .int (nI h), .int (nI (w * h)), .long (lN f)]))] [(cI, .int), (cL, .long)] [.ref a, .int (nI k)] (fun u => u = [(a, .inr (0, [.int (nI w), .int (nI h), .int (nI (w * h)), .long (lN (f ^^^ 2 ^ k))]))]) := by
  refine en_of (cc := b_BD_turnBar) (Qc := qV D [(cI, .int), (cL, .long)] (fun u => u = [(a, .inr (0, [.int (nI w), .int (nI h), .int (nI (w * h)), .long (lN (f ^^^ 2 ^ k))]))])) (by decide) rfl (Nat.le_of_ble_eq_true rfl) ?_
  intro p e s m below meth c A E hnm hP hD hS ls hl
  have hl : lv_has ls 2 [(0, .ref a), (1, .int (nI k))] := hl
  obtain ⟨hx, hb, hml, hown, hts, hr, hlk, hA, hK, hN⟩ := id E
  have ho : ∀ q ∈ Om, q.before _ s = true := fun q h => hts q (List.mem_cons_of_mem _ h)
  refine lv_aload_n hx hb d_BD_turnBar_0 rfl (lv_at hl 0 rfl) ?_
  refine lv_iload_n hx hb d_BD_turnBar_1 rfl (lv_at hl 1 rfl) ?_
  refine af_i (wc := [(a, .inr (0, [.int (nI w), .int (nI h), .int (nI (w * h)), .long (lN f)]))]) (wr := []) (rest := []) [0] [] hP hD hS hA rfl rfl (by decide) (by decide) (rn_V E (As := [.int (nI k)]) m_BD_hasCell km_BD_23 (c_BD_hasIn l D cI cL a w h f k (by omega) (by omega) _) ⟨rfl, rfl, Nat.le_of_ble_eq_true rfl, Nat.le_of_ble_eq_true rfl⟩ (hP.sub [0] rfl) (hD.sub [0] (by decide) rfl) (q0 := 0) (ci := 0) rfl rfl rfl hl.1 rfl (Nat.le_of_ble_eq_true rfl) ⟨Nat.le_of_ble_eq_true rfl, Nat.le_of_ble_eq_true rfl⟩ d_BD_turnBar_2) (fun r_2 u_1 H locs hw hP hD hS => ?_)
  obtain ⟨rfl, rfl⟩ := hw
  have hP : va_P D classes [(a, .inr (0, [.int (nI w), .int (nI h), .int (nI (w * h)), .long (lN f)]))] H := hP
  have hD : va_D A [(a, .inr (0, [.int (nI w), .int (nI h), .int (nI (w * h)), .long (lN f)]))] := hD
  refine nr_if_eq (tgt := 20) hx hb d_BD_turnBar_5 (by decide) (by decide) (fun h9 => absurd h9 (by decide)) (fun _ => ?_)
  refine lv_aload_n hx hb d_BD_turnBar_8 rfl (lv_at hl 0 rfl) ?_
  refine lv_dup hx hb d_BD_turnBar_9 rfl ?_
  refine va_get (D := D) (ci := 0) (v := .long (lN f)) (C := R_BD) (T := F_BD) (N := 4) hx hb ho j_BD hown hK hP 0 rfl rfl 3 (by decide) (ho _ kf_BD_19) (fun _ h9 => h9) rfl d_BD_turnBar_10 ?_
  refine lv_lconst (v := lN 1) hx hb d_BD_turnBar_13 rfl ?_
  refine lv_iload_n hx hb d_BD_turnBar_14 rfl (lv_at hl 1 rfl) ?_
  refine nr_lshl1 hx hb d_BD_turnBar_15 (by omega) ?_
  refine nr_lxor hx hb d_BD_turnBar_16 ?_
  refine va_put (D := D) (ci := 0) (v := .long (lN (f ^^^ (2 ^ k)))) (ty := .long) (C := R_BD) (T := F_BD) (N := 4) hx hb ho j_BD t_BD t_BD_ok n_BD hown hK hP hD hS 0 rfl rfl 3 (by decide) (ho _ kf_BD_19) (fun _ h9 => h9) rfl (by decide +kernel) rfl rfl (Nat.le_of_ble_eq_true rfl) d_BD_turnBar_17 (fun H locs hP hD hS => ?_)
  have hP : va_P D classes [(a, .inr (0, [.int (nI w), .int (nI h), .int (nI (w * h)), .long (lN (f ^^^ (2 ^ k)))]))] H := hP
  have hD : va_D A [(a, .inr (0, [.int (nI w), .int (nI h), .int (nI (w * h)), .long (lN (f ^^^ (2 ^ k)))]))] := hD
  exact rt_v E hP hD hS rfl d_BD_turnBar_20
end
section
/-! QueenSearch -/
def qsL (rows : Nat → Nat) (col row : Nat) : Nat → Nat → Nat
  | 0, _ => 1
  | n + 1, o => if o < col ∧ o < 6 then (if rows o - row + (row - rows o) = 0 ∨ rows o - row + (row - rows o) = col - o then 0 else qsL rows col row n (o + 1)) else 1
theorem qsL_1 (rows : Nat → Nat) (col row : Nat) : ∀ n o, qsL rows col row n o ≤ 1 := by
  intro n
  induction n with
  | zero => intro o; exact Nat.le_refl 1
  | succ n ih =>
    intro o
    rw [qsL]
    split
    · split
      · omega
      · exact ih _
    · omega
/-- may a queen stand at (col, row), the queens of the columns before standing in rows -/
def qsC (w f : Nat) (rows : Nat → Nat) (col row : Nat) : Nat := if f / 2 ^ (col + w * row) % 2 = 0 then 0 else qsL rows col row 7 0
theorem qsC_1 (w f : Nat) (rows : Nat → Nat) (col row : Nat) : qsC w f rows col row ≤ 1 := by
  unfold qsC
  split
  · omega
  · exact qsL_1 _ _ _ _ _
abbrev qSt : Type := (Nat → Nat) × Nat
/-- the rows of one column, gone through from 'row' on; go: the columns behind it -/
def qsI (w h f : Nat) (go : qSt → Nat × qSt) (col : Nat) : Nat → Nat → qSt → Nat × qSt
  | 0, _, st => (0, st)
  | n + 1, row, st => if row < h then (if qsC w f st.1 col row = 0 then qsI w h f go col n (row + 1) st else (if (go (va_up st.1 col row, st.2)).1 = 0 then qsI w h f go col n (row + 1) (go (va_up st.1 col row, st.2)).2 else (1, (go (va_up st.1 col row, st.2)).2))) else (0, st)
/-- d columns are left -/
def qsP (w h f : Nat) (way : Int32) : Nat → qSt → Nat × qSt
  | 0, st => (if nI st.2 = way then 1 else 0, (st.1, st.2 + 1))
  | d + 1, st => qsI w h f (qsP w h f way d) (w - (d + 1)) 7 0 st
set_option maxHeartbeats 1000000 in
set_option maxRecDepth 100000 in
theorem L_QS_canStand {p : Program} {l : Launch} {e : Env} {s : State} {m : MethodId} {args : Array Value} {below : List Frame} {meth : Method} {c : Code} {A : Nat → Prop} {D : va_G} {cI cL : ClassId} {c0 : Cond} {post : Int32 → va_W → Prop} (a q w h f sn col row : Nat) (rows : Nat → Nat) (hc : col < w) (hr0 : row < h) (hw : w ≤ 6) (hh : h ≤ 6) (hf : f < 2 ^ 36) (hrow : ∀ k, rows k < 6) (E : En p s m args meth c b_QS_canStand 5 (c0 :: Om) R_QS (some .boolean) A D [(cI, .int), (cL, .long)]) : ∀ (n : Nat) (o : Nat), o ≤ col → col < o + n → post (nI (qsL rows col row n o)) [(a, .inr (1, [.int (nI w), .int (nI h), .ref q, .long (lN f), .int (nI sn)])), (q, .inl (cI, 6, .inl (nA rows)))] → ∀ (H : Heap) (locs : List Loc), va_P D classes [(a, .inr (1, [.int (nI w), .int (nI h), .ref q, .long (lN f), .int (nI sn)])), (q, .inl (cI, 6, .inl (nA rows)))] H → va_D A [(a, .inr (1, [.int (nI w), .int (nI h), .ref q, .long (lN f), .int (nI sn)])), (q, .inl (cI, 6, .inl (nA rows)))] → va_S A s.heap H locs → ∀ ls : Array Slot, lv_has ls 5 [(0, .ref a), (1, .int (nI col)), (2, .int (nI row)), (3, .int (nI o))] → W p l e { frames := 1, cells := 0, slots := 0, locals := 21 } s m args below meth c H locs 0 0 (MQ below (qI D [(cI, .int), (cL, .long)] post A) args s 0 0 A) (F0 m 24 ls []) := by
  obtain ⟨hx, hb, hml, hown, hts, hr, hlk, hA, hK, hN⟩ := id E
  have ho : ∀ q ∈ Om, q.before _ s = true := fun q h => hts q (List.mem_cons_of_mem _ h)
  intro n
  induction n with
  | zero =>
    intro o h1 h2 hq
    exact absurd h2 (by omega)
  | succ n ih =>
    intro o h1 h2 hq H locs hP hD hS ls hl
    refine lv_iload_n hx hb d_QS_canStand_24 rfl (lv_at hl 3 rfl) ?_
    refine lv_iload_n hx hb d_QS_canStand_25 rfl (lv_at hl 1 rfl) ?_
    refine nr_icmp_ge (tgt := 69) hx hb d_QS_canStand_26 (by decide) (by omega) (by omega) (fun h_1 => ?_) (fun h_1 => ?_)
    · refine lv_iconst (v := nI 1) hx hb d_QS_canStand_69 (by decide) ?_
      exact rt_z E hP hD hS (by decide) (by rw [qsL, if_neg (by omega)] at hq; exact hq) d_QS_canStand_70
    · refine lv_iload_n hx hb d_QS_canStand_29 rfl (lv_at hl 3 rfl) ?_
      refine lv_bipush (v := nI 6) hx hb d_QS_canStand_30 (by decide) ?_
      refine nr_icmp_ge (tgt := 69) hx hb d_QS_canStand_32 (by decide) (by omega) (by omega) (fun h9 => absurd h9 (by omega)) (fun _ => ?_)
      refine lv_aload_n hx hb d_QS_canStand_35 rfl (lv_at hl 0 rfl) ?_
      refine va_get (D := D) (ci := 1) (v := .ref q) (C := R_QS) (T := F_QS) (N := 5) hx hb ho j_QS hown hK hP 0 rfl rfl 2 (by decide) (ho _ kf_QS_9) (fun _ h9 => h9) rfl d_QS_canStand_36 ?_
      refine lv_iload_n hx hb d_QS_canStand_39 rfl (lv_at hl 3 rfl) ?_
      have hro := hrow o
      refine nr_ialdN hx hb hK hP 1 0 rfl rfl (i := o) (by omega) (by decide) d_QS_canStand_40 ?_
      refine lv_iload_n hx hb d_QS_canStand_41 rfl (lv_at hl 2 rfl) ?_
      refine lv_isub hx hb d_QS_canStand_42 ?_
      refine va_mabs hx hb (hml.trans hl.1.symm) hown (ho _ km_QS_45) (ho _ kq_abs.1) (ho _ kz_MT) (ho _ kq_abs.2) (Nat.le_of_ble_eq_true rfl) (Nat.le_of_ble_eq_true rfl) (Nat.zero_le _) (Nat.zero_le _) d_QS_canStand_43 ?_
      rw [nr_abs0 (a := (rows o)) (b := row) (by omega) (by omega)]
      refine lv_istore (lv' := [(4, .int (nI ((rows o) - row + (row - (rows o))))), (0, .ref a), (1, .int (nI col)), (2, .int (nI row)), (3, .int (nI o))]) hx hb d_QS_canStand_46 hl (by decide) rfl (fun ls hl => ?_)
      refine lv_iload hx hb d_QS_canStand_48 (lv_at hl 0 rfl) ?_
      refine nr_if_eq (tgt := 61) hx hb d_QS_canStand_50 (by decide) (by omega) (fun h_2 => ?_) (fun h_2 => ?_)
      · refine lv_iconst (v := nI 0) hx hb d_QS_canStand_61 (by decide) ?_
        exact rt_z E hP hD hS (by decide) (by rw [qsL, if_pos ⟨by omega, by omega⟩, if_pos (by omega)] at hq; exact hq) d_QS_canStand_62
      · refine lv_iload hx hb d_QS_canStand_53 (lv_at hl 0 rfl) ?_
        refine lv_iload_n hx hb d_QS_canStand_55 rfl (lv_at hl 2 rfl) ?_
        refine lv_iload_n hx hb d_QS_canStand_56 rfl (lv_at hl 4 rfl) ?_
        refine nr_isub hx hb d_QS_canStand_57 (by omega) ?_
        refine nr_icmp_ne (tgt := 63) hx hb d_QS_canStand_58 (by decide) (by omega) (by omega) (fun h_3 => ?_) (fun h_3 => ?_)
        · refine nr_iinc (lv' := [(3, .int (nI (o + 1))), (4, .int (nI ((rows o) - row + (row - (rows o))))), (0, .ref a), (1, .int (nI col)), (2, .int (nI row))]) hx hb d_QS_canStand_63 hl (k := 4) rfl (by decide) rfl (fun ls hl => ?_)
          refine lv_goto (tgt := 24) hx hb d_QS_canStand_66 (by decide) ?_
          exact ih (o + 1) (by omega) (by omega) (by rw [qsL, if_pos ⟨by omega, by omega⟩, if_neg (by omega)] at hq; exact hq) _ _ hP hD hS ls (lv_sub hl [2, 3, 4, 0] rfl)
        · refine lv_iconst (v := nI 0) hx hb d_QS_canStand_61 (by decide) ?_
          exact rt_z E hP hD hS (by decide) (by rw [qsL, if_pos ⟨by omega, by omega⟩, if_pos (by omega)] at hq; exact hq) d_QS_canStand_62
set_option maxHeartbeats 1000000 in
set_option maxRecDepth 100000 in
theorem c_QS_canStand (l : Launch) (D : va_G) (cI cL : ClassId) (a q w h f sn col row : Nat) (rows : Nat → Nat) (hc : col < w) (hr0 : row < h) (hw : w ≤ 6) (hh : h ≤ 6) (hf : f < 2 ^ 36) (hrow : ∀ k, rows k < 6) : CI l y_QS_canStand (.code y_QS_canStand b_QS_canStand 5 (some .boolean) :: Om) { frames := 1, cells := 0, slots := 0, locals := 21 } D [(a, .inr (1, [.int (nI w), .int (nI h), .ref q, .long (lN f), .int (nI sn)])), (q, .inl (cI, 6, .inl (nA rows)))] [(cI, .int), (cL, .long)] [.ref a, .int (nI col), .int (nI row)] (fun r u => r = nI (qsC w f rows col row) ∧ u = [(a, .inr (1, [.int (nI w), .int (nI h), .ref q, .long (lN f), .int (nI sn)])), (q, .inl (cI, 6, .inl (nA rows)))]) := by
  refine en_of (cc := b_QS_canStand) (Qc := qI D [(cI, .int), (cL, .long)] (fun r u => r = nI (qsC w f rows col row) ∧ u = [(a, .inr (1, [.int (nI w), .int (nI h), .ref q, .long (lN f), .int (nI sn)])), (q, .inl (cI, 6, .inl (nA rows)))])) (by decide) rfl (Nat.le_of_ble_eq_true rfl) ?_
  intro p e s m below meth c A E hnm hP hD hS ls hl
  have hl : lv_has ls 5 [(0, .ref a), (1, .int (nI col)), (2, .int (nI row))] := hl
  obtain ⟨hx, hb, hml, hown, hts, hr, hlk, hA, hK, hN⟩ := id E
  have ho : ∀ q ∈ Om, q.before _ s = true := fun q h => hts q (List.mem_cons_of_mem _ h)
  have hk := ce_lt hc hr0 hw hh
  refine lv_aload_n hx hb d_QS_canStand_0 rfl (lv_at hl 0 rfl) ?_
  refine va_get (D := D) (ci := 1) (v := .long (lN f)) (C := R_QS) (T := F_QS) (N := 5) hx hb ho j_QS hown hK hP 0 rfl rfl 3 (by decide) (ho _ kf_QS_28) (fun _ h9 => h9) rfl d_QS_canStand_1 ?_
  refine lv_iload_n hx hb d_QS_canStand_4 rfl (lv_at hl 1 rfl) ?_
  refine lv_aload_n hx hb d_QS_canStand_5 rfl (lv_at hl 0 rfl) ?_
  refine va_get (D := D) (ci := 1) (v := .int (nI w)) (C := R_QS) (T := F_QS) (N := 5) hx hb ho j_QS hown hK hP 0 rfl rfl 0 (by decide) (ho _ kf_QS_21) (fun _ h9 => h9) rfl d_QS_canStand_6 ?_
  refine lv_iload_n hx hb d_QS_canStand_9 rfl (lv_at hl 2 rfl) ?_
  refine nr_imul hx hb d_QS_canStand_10 ?_
  refine nr_iadd hx hb d_QS_canStand_11 ?_
  refine nr_lushr hx hb d_QS_canStand_12 (by omega) (by omega) ?_
  refine lv_lconst (v := lN 1) hx hb d_QS_canStand_13 rfl ?_
  refine nr_land1 hx hb d_QS_canStand_14 ?_
  refine lv_lconst (v := lN 0) hx hb d_QS_canStand_15 rfl ?_
  refine nr_lcmp_ne (tgt := 22) hx hb d_QS_canStand_16 d_QS_canStand_17 (by decide) (by omega) (by omega) (fun h_1 => ?_) (fun h_1 => ?_)
  · refine lv_iconst (v := nI 0) hx hb d_QS_canStand_22 (by decide) ?_
    refine lv_istore_n (lv' := [(3, .int (nI 0)), (0, .ref a), (1, .int (nI col)), (2, .int (nI row))]) hx hb d_QS_canStand_23 rfl hl (by decide) rfl (fun ls hl => ?_)
    exact L_QS_canStand a q w h f sn col row rows hc hr0 hw hh hf hrow E 7 0 (by omega) (by omega) ⟨by unfold qsC; rw [if_neg (by omega)], rfl⟩ _ _ hP hD hS ls (lv_sub hl [1, 2, 3, 0] rfl)
  · refine lv_iconst (v := nI 0) hx hb d_QS_canStand_20 (by decide) ?_
    exact rt_z E hP hD hS (by decide) ⟨by unfold qsC; rw [if_pos (by omega)], rfl⟩ d_QS_canStand_21
theorem qsI_1 {w h f : Nat} {go : qSt → Nat × qSt} {col : Nat} (hg : ∀ st, (∀ k, st.1 k < 6) → (go st).1 ≤ 1 ∧ ∀ k, (go st).2.1 k < 6) (hh : h ≤ 6) : ∀ n row st, (∀ k, st.1 k < 6) → (qsI w h f go col n row st).1 ≤ 1 ∧ ∀ k, (qsI w h f go col n row st).2.1 k < 6 := by
  intro n
  induction n with
  | zero => intro row st hs; exact ⟨Nat.zero_le 1, hs⟩
  | succ n ih =>
    intro row st hs
    have hu : row < h → ∀ k, (va_up st.1 col row) k < 6 := fun hr k => by
      unfold va_up
      split
      · omega
      · exact hs k
    rw [qsI]
    split
    · split
      · exact ih _ _ hs
      · split
        · exact ih _ _ (hg _ (hu (by assumption))).2
        · exact ⟨Nat.le_refl 1, (hg _ (hu (by assumption))).2⟩
    · exact ⟨Nat.zero_le 1, hs⟩
theorem qsP_1 {w h f : Nat} {way : Int32} (hh : h ≤ 6) : ∀ d st, (∀ k, st.1 k < 6) → (qsP w h f way d st).1 ≤ 1 ∧ ∀ k, (qsP w h f way d st).2.1 k < 6 := by
  intro d
  induction d with
  | zero =>
    intro st hs
    refine ⟨?_, hs⟩
    rw [qsP]
    dsimp only
    split <;> omega
  | succ d ih =>
    intro st hs
    rw [qsP]
    exact qsI_1 ih hh _ _ _ hs
set_option maxHeartbeats 1000000 in
set_option maxRecDepth 100000 in
theorem L_QS_placeIn {p : Program} {l : Launch} {e : Env} {s : State} {m : MethodId} {args : Array Value} {below : List Frame} {meth : Method} {c : Code} {A : Nat → Prop} {D : va_G} {cI cL : ClassId} {c0 : Cond} {post : Int32 → va_W → Prop} (a q w h f d : Nat) (way : Int32) (hd : d + 1 ≤ w) (hw : w ≤ 6) (hh : h ≤ 6) (hf : f < 2 ^ 36) (hF : ∀ (rows : Nat → Nat) (sn : Nat), (∀ k, rows k < 6) → CI l y_QS_placeFrom (.code y_QS_placeFrom b_QS_placeFrom 3 (some .boolean) :: Om) { frames := 2 * d + 1, cells := 0, slots := 0, locals := 50 * d + 50 } D [(a, .inr (1, [.int (nI w), .int (nI h), .ref q, .long (lN f), .int (nI sn)])), (q, .inl (cI, 6, .inl (nA rows)))] [(cI, .int), (cL, .long)] [.ref a, .int (nI (w - d)), .int way] (fun r u => r = nI (qsP w h f way d (rows, sn)).1 ∧ u = [(a, .inr (1, [.int (nI w), .int (nI h), .ref q, .long (lN f), .int (nI ((qsP w h f way d (rows, sn)).2.2))])), (q, .inl (cI, 6, .inl (nA ((qsP w h f way d (rows, sn)).2.1))))])) (E : En p s m args meth c b_QS_placeIn 4 (c0 :: Om) R_QS (some .boolean) A D [(cI, .int), (cL, .long)]) : ∀ (n : Nat) (rows : Nat → Nat) (sn : Nat) (row : Nat), (∀ k, rows k < 6) → row ≤ h → h < row + n → post (nI (qsI w h f (qsP w h f way d) (w - (d + 1)) n row (rows, sn)).1) [(a, .inr (1, [.int (nI w), .int (nI h), .ref q, .long (lN f), .int (nI ((qsI w h f (qsP w h f way d) (w - (d + 1)) n row (rows, sn)).2.2))])), (q, .inl (cI, 6, .inl (nA ((qsI w h f (qsP w h f way d) (w - (d + 1)) n row (rows, sn)).2.1))))] → ∀ (H : Heap) (locs : List Loc), va_P D classes [(a, .inr (1, [.int (nI w), .int (nI h), .ref q, .long (lN f), .int (nI sn)])), (q, .inl (cI, 6, .inl (nA rows)))] H → va_D A [(a, .inr (1, [.int (nI w), .int (nI h), .ref q, .long (lN f), .int (nI sn)])), (q, .inl (cI, 6, .inl (nA rows)))] → va_S A s.heap H locs → ∀ ls : Array Slot, lv_has ls 4 [(0, .ref a), (1, .int (nI (w - (d + 1)))), (2, .int way), (3, .int (nI row))] → W p l e { frames := 2 * (d + 1), cells := 0, slots := 0, locals := 50 * (d + 1) + 22 } s m args below meth c H locs 0 0 (MQ below (qI D [(cI, .int), (cL, .long)] post A) args s 0 0 A) (F0 m 16 ls []) := by
  obtain ⟨hx, hb, hml, hown, hts, hr, hlk, hA, hK, hN⟩ := id E
  have ho : ∀ q ∈ Om, q.before _ s = true := fun q h => hts q (List.mem_cons_of_mem _ h)
  intro n
  induction n with
  | zero =>
    intro rows sn row hrow h1 h2 hq
    exact absurd h2 (by omega)
  | succ n ih =>
    intro rows sn row hrow h1 h2 hq H locs hP hD hS ls hl
    refine lv_iload_n hx hb d_QS_placeIn_16 rfl (lv_at hl 3 rfl) ?_
    refine lv_aload_n hx hb d_QS_placeIn_17 rfl (lv_at hl 0 rfl) ?_
    refine va_get (D := D) (ci := 1) (v := .int (nI h)) (C := R_QS) (T := F_QS) (N := 5) hx hb ho j_QS hown hK hP 0 rfl rfl 1 (by decide) (ho _ kf_QS_25) (fun _ h9 => h9) rfl d_QS_placeIn_18 ?_
    refine nr_icmp_ge (tgt := 59) hx hb d_QS_placeIn_21 (by decide) (by omega) (by omega) (fun h_1 => ?_) (fun h_1 => ?_)
    · refine lv_iconst (v := nI 0) hx hb d_QS_placeIn_59 (by decide) ?_
      exact rt_z E hP hD hS (by decide) (by rw [qsI, if_neg (by omega)] at hq; exact hq) d_QS_placeIn_60
    · have hq1 := qsC_1 w f rows (w - (d + 1)) row
      refine lv_aload_n hx hb d_QS_placeIn_24 rfl (lv_at hl 0 rfl) ?_
      refine lv_iload_n hx hb d_QS_placeIn_25 rfl (lv_at hl 1 rfl) ?_
      refine lv_iload_n hx hb d_QS_placeIn_26 rfl (lv_at hl 3 rfl) ?_
      refine af_i (wc := [(a, .inr (1, [.int (nI w), .int (nI h), .ref q, .long (lN f), .int (nI sn)])), (q, .inl (cI, 6, .inl (nA rows)))]) (wr := []) (rest := []) [0, 1] [] hP hD hS hA rfl rfl (by decide) (by decide) (rn_V E (As := [.int (nI (w - (d + 1))), .int (nI row)]) m_QS_canStand km_QS_42 (c_QS_canStand l D cI cL a q w h f sn (w - (d + 1)) row rows (by omega) (by omega) hw hh hf hrow _) ⟨rfl, rfl, by dsimp only; omega, by dsimp only; omega⟩ (hP.sub [0, 1] rfl) (hD.sub [0, 1] (by decide) rfl) (q0 := 0) (ci := 1) rfl rfl rfl hl.1 rfl (Nat.le_of_ble_eq_true rfl) ⟨Nat.le_of_ble_eq_true rfl, Nat.le_of_ble_eq_true rfl⟩ d_QS_placeIn_27) (fun r_3 u_2 H locs hw hP hD hS => ?_)
      obtain ⟨rfl, rfl⟩ := hw
      have hP : va_P D classes [(a, .inr (1, [.int (nI w), .int (nI h), .ref q, .long (lN f), .int (nI sn)])), (q, .inl (cI, 6, .inl (nA rows)))] H := hP
      have hD : va_D A [(a, .inr (1, [.int (nI w), .int (nI h), .ref q, .long (lN f), .int (nI sn)])), (q, .inl (cI, 6, .inl (nA rows)))] := hD
      refine nr_if_eq (tgt := 53) hx hb d_QS_placeIn_30 (by decide) (by omega) (fun h_4 => ?_) (fun h_4 => ?_)
      · refine nr_iinc (lv' := [(3, .int (nI (row + 1))), (0, .ref a), (1, .int (nI (w - (d + 1)))), (2, .int way)]) hx hb d_QS_placeIn_53 hl (k := 3) rfl (by decide) rfl (fun ls hl => ?_)
        refine lv_goto (tgt := 16) hx hb d_QS_placeIn_56 (by decide) ?_
        exact ih rows sn (row + 1) hrow (by omega) (by omega) (by rw [qsI, if_pos (by omega), if_pos (by omega)] at hq; exact hq) _ _ hP hD hS ls (lv_sub hl [1, 2, 3, 0] rfl)
      · refine lv_aload_n hx hb d_QS_placeIn_33 rfl (lv_at hl 0 rfl) ?_
        refine va_get (D := D) (ci := 1) (v := .ref q) (C := R_QS) (T := F_QS) (N := 5) hx hb ho j_QS hown hK hP 0 rfl rfl 2 (by decide) (ho _ kf_QS_9) (fun _ h9 => h9) rfl d_QS_placeIn_34 ?_
        refine lv_iload_n hx hb d_QS_placeIn_37 rfl (lv_at hl 1 rfl) ?_
        refine lv_iload_n hx hb d_QS_placeIn_38 rfl (lv_at hl 3 rfl) ?_
        refine nr_iast hx hb hK hP hD hS 1 0 rfl rfl (i := w - (d + 1)) (x := row) (by omega) (by decide) d_QS_placeIn_39 (fun H locs hP hD hS => ?_)
        have hP : va_P D classes [(a, .inr (1, [.int (nI w), .int (nI h), .ref q, .long (lN f), .int (nI sn)])), (q, .inl (cI, 6, .inl (nA (va_up rows (w - (d + 1)) row))))] H := hP
        have hD : va_D A [(a, .inr (1, [.int (nI w), .int (nI h), .ref q, .long (lN f), .int (nI sn)])), (q, .inl (cI, 6, .inl (nA (va_up rows (w - (d + 1)) row))))] := hD
        refine lv_aload_n hx hb d_QS_placeIn_40 rfl (lv_at hl 0 rfl) ?_
        refine lv_iload_n hx hb d_QS_placeIn_41 rfl (lv_at hl 1 rfl) ?_
        refine lv_iconst (v := nI 1) hx hb d_QS_placeIn_42 (by decide) ?_
        refine nr_iadd hx hb d_QS_placeIn_43 ?_
        refine lv_iload_n hx hb d_QS_placeIn_44 rfl (lv_at hl 2 rfl) ?_
        have hup : ∀ k, (va_up rows (w - (d + 1)) row) k < 6 := fun k => by unfold va_up; split; (first | omega | exact hrow k); (first | omega | exact hrow k)
        have hr1 := qsP_1 (w := w) (f := f) (way := way) hh d (va_up rows (w - (d + 1)) row, sn) hup
        rw [show w - (d + 1) + 1 = w - d by omega]
        refine af_i (wc := [(a, .inr (1, [.int (nI w), .int (nI h), .ref q, .long (lN f), .int (nI sn)])), (q, .inl (cI, 6, .inl (nA (va_up rows (w - (d + 1)) row))))]) (wr := []) (rest := []) [0, 1] [] hP hD hS hA rfl rfl (by decide) (by decide) (rn_V E (As := [.int (nI (w - d)), .int way]) m_QS_placeFrom km_QS_35 (hF (va_up rows (w - (d + 1)) row) sn hup _) ⟨rfl, rfl, by dsimp only; omega, by dsimp only; omega⟩ (hP.sub [0, 1] rfl) (hD.sub [0, 1] (by decide) rfl) (q0 := 0) (ci := 1) rfl rfl rfl hl.1 rfl (Nat.le_of_ble_eq_true rfl) ⟨Nat.le_of_ble_eq_true rfl, Nat.le_of_ble_eq_true rfl⟩ d_QS_placeIn_45) (fun r_6 u_5 H locs hw hP hD hS => ?_)
        obtain ⟨rfl, rfl⟩ := hw
        have hP : va_P D classes [(a, .inr (1, [.int (nI w), .int (nI h), .ref q, .long (lN f), .int (nI ((qsP w h f way d (va_up rows (w - (d + 1)) row, sn)).2.2))])), (q, .inl (cI, 6, .inl (nA ((qsP w h f way d (va_up rows (w - (d + 1)) row, sn)).2.1))))] H := hP
        have hD : va_D A [(a, .inr (1, [.int (nI w), .int (nI h), .ref q, .long (lN f), .int (nI ((qsP w h f way d (va_up rows (w - (d + 1)) row, sn)).2.2))])), (q, .inl (cI, 6, .inl (nA ((qsP w h f way d (va_up rows (w - (d + 1)) row, sn)).2.1))))] := hD
        refine nr_if_eq (tgt := 53) hx hb d_QS_placeIn_48 (by decide) (by omega) (fun h_7 => ?_) (fun h_7 => ?_)
        · refine nr_iinc (lv' := [(3, .int (nI (row + 1))), (0, .ref a), (1, .int (nI (w - (d + 1)))), (2, .int way)]) hx hb d_QS_placeIn_53 hl (k := 3) rfl (by decide) rfl (fun ls hl => ?_)
          refine lv_goto (tgt := 16) hx hb d_QS_placeIn_56 (by decide) ?_
          exact ih ((qsP w h f way d (va_up rows (w - (d + 1)) row, sn)).2.1) ((qsP w h f way d (va_up rows (w - (d + 1)) row, sn)).2.2) (row + 1) hr1.2 (by omega) (by omega) (by rw [qsI] at hq; dsimp only at hq; rw [if_pos (by omega), if_neg (by omega), if_pos (by omega)] at hq; exact hq) _ _ hP hD hS ls (lv_sub hl [1, 2, 3, 0] rfl)
        · refine lv_iconst (v := nI 1) hx hb d_QS_placeIn_51 (by decide) ?_
          exact rt_z E hP hD hS (by decide) (by rw [qsI] at hq; dsimp only at hq; rw [if_pos (by omega), if_neg (by omega), if_neg (by omega)] at hq; exact hq) d_QS_placeIn_52
set_option maxHeartbeats 1000000 in
set_option maxRecDepth 100000 in
theorem c_QS_placeIn (l : Launch) (D : va_G) (cI cL : ClassId) (a q w h f d : Nat) (way : Int32) (hd : d + 1 ≤ w) (hw : w ≤ 6) (hh : h ≤ 6) (hf : f < 2 ^ 36) (hF : ∀ (rows : Nat → Nat) (sn : Nat), (∀ k, rows k < 6) → CI l y_QS_placeFrom (.code y_QS_placeFrom b_QS_placeFrom 3 (some .boolean) :: Om) { frames := 2 * d + 1, cells := 0, slots := 0, locals := 50 * d + 50 } D [(a, .inr (1, [.int (nI w), .int (nI h), .ref q, .long (lN f), .int (nI sn)])), (q, .inl (cI, 6, .inl (nA rows)))] [(cI, .int), (cL, .long)] [.ref a, .int (nI (w - d)), .int way] (fun r u => r = nI (qsP w h f way d (rows, sn)).1 ∧ u = [(a, .inr (1, [.int (nI w), .int (nI h), .ref q, .long (lN f), .int (nI ((qsP w h f way d (rows, sn)).2.2))])), (q, .inl (cI, 6, .inl (nA ((qsP w h f way d (rows, sn)).2.1))))])) (rows : Nat → Nat) (sn : Nat) (hrow : ∀ k, rows k < 6) : CI l y_QS_placeIn (.code y_QS_placeIn b_QS_placeIn 4 (some .boolean) :: Om) { frames := 2 * (d + 1), cells := 0, slots := 0, locals := 50 * (d + 1) + 22 } D [(a, .inr (1, [.int (nI w), .int (nI h), .ref q, .long (lN f), .int (nI sn)])), (q, .inl (cI, 6, .inl (nA rows)))] [(cI, .int), (cL, .long)] [.ref a, .int (nI (w - (d + 1))), .int way] (fun r u => r = nI (qsP w h f way (d + 1) (rows, sn)).1 ∧ u = [(a, .inr (1, [.int (nI w), .int (nI h), .ref q, .long (lN f), .int (nI ((qsP w h f way (d + 1) (rows, sn)).2.2))])), (q, .inl (cI, 6, .inl (nA ((qsP w h f way (d + 1) (rows, sn)).2.1))))]) := by
  refine en_of (cc := b_QS_placeIn) (Qc := qI D [(cI, .int), (cL, .long)] (fun r u => r = nI (qsP w h f way (d + 1) (rows, sn)).1 ∧ u = [(a, .inr (1, [.int (nI w), .int (nI h), .ref q, .long (lN f), .int (nI ((qsP w h f way (d + 1) (rows, sn)).2.2))])), (q, .inl (cI, 6, .inl (nA ((qsP w h f way (d + 1) (rows, sn)).2.1))))])) (by decide) rfl (Nat.le_of_ble_eq_true rfl) ?_
  intro p e s m below meth c A E hnm hP hD hS ls hl
  have hl : lv_has ls 4 [(0, .ref a), (1, .int (nI (w - (d + 1)))), (2, .int way)] := hl
  obtain ⟨hx, hb, hml, hown, hts, hr, hlk, hA, hK, hN⟩ := id E
  have ho : ∀ q ∈ Om, q.before _ s = true := fun q h => hts q (List.mem_cons_of_mem _ h)
  refine lv_iload_n hx hb d_QS_placeIn_0 rfl (lv_at hl 1 rfl) ?_
  refine nr_if_lt (tgt := 12) hx hb d_QS_placeIn_1 (by decide) (by omega) ?_
  refine lv_iload_n hx hb d_QS_placeIn_4 rfl (lv_at hl 1 rfl) ?_
  refine lv_aload_n hx hb d_QS_placeIn_5 rfl (lv_at hl 0 rfl) ?_
  refine va_get (D := D) (ci := 1) (v := .int (nI w)) (C := R_QS) (T := F_QS) (N := 5) hx hb ho j_QS hown hK hP 0 rfl rfl 0 (by decide) (ho _ kf_QS_21) (fun _ h9 => h9) rfl d_QS_placeIn_6 ?_
  refine nr_icmp_lt (tgt := 14) hx hb d_QS_placeIn_9 (by decide) (by omega) (by omega) (fun _ => ?_) (fun h9 => absurd h9 (by omega))
  refine lv_iconst (v := nI 0) hx hb d_QS_placeIn_14 (by decide) ?_
  refine lv_istore_n (lv' := [(3, .int (nI 0)), (0, .ref a), (1, .int (nI (w - (d + 1)))), (2, .int way)]) hx hb d_QS_placeIn_15 rfl hl (by decide) rfl (fun ls hl => ?_)
  exact L_QS_placeIn a q w h f d way hd hw hh hf hF E 7 rows sn 0 hrow (by omega) (by omega) ⟨rfl, rfl⟩ _ _ hP hD hS ls (lv_sub hl [1, 2, 3, 0] rfl)
set_option maxHeartbeats 1000000 in
set_option maxRecDepth 100000 in
theorem c_QS_place0 (l : Launch) (D : va_G) (cI cL : ClassId) (a q w h f : Nat) (way : Int32) (hw : w ≤ 6) (hh : h ≤ 6) (hf : f < 2 ^ 36) (rows : Nat → Nat) (sn : Nat) : CI l y_QS_placeFrom (.code y_QS_placeFrom b_QS_placeFrom 3 (some .boolean) :: Om) { frames := 2 * 0 + 1, cells := 0, slots := 0, locals := 50 * 0 + 50 } D [(a, .inr (1, [.int (nI w), .int (nI h), .ref q, .long (lN f), .int (nI sn)])), (q, .inl (cI, 6, .inl (nA rows)))] [(cI, .int), (cL, .long)] [.ref a, .int (nI (w - 0)), .int way] (fun r u => r = nI (qsP w h f way 0 (rows, sn)).1 ∧ u = [(a, .inr (1, [.int (nI w), .int (nI h), .ref q, .long (lN f), .int (nI ((qsP w h f way 0 (rows, sn)).2.2))])), (q, .inl (cI, 6, .inl (nA ((qsP w h f way 0 (rows, sn)).2.1))))]) := by
  refine en_of (cc := b_QS_placeFrom) (Qc := qI D [(cI, .int), (cL, .long)] (fun r u => r = nI (qsP w h f way 0 (rows, sn)).1 ∧ u = [(a, .inr (1, [.int (nI w), .int (nI h), .ref q, .long (lN f), .int (nI ((qsP w h f way 0 (rows, sn)).2.2))])), (q, .inl (cI, 6, .inl (nA ((qsP w h f way 0 (rows, sn)).2.1))))])) (by decide) rfl (Nat.le_of_ble_eq_true rfl) ?_
  intro p e s m below meth c A E hnm hP hD hS ls hl
  have hl : lv_has ls 3 [(0, .ref a), (1, .int (nI (w - 0))), (2, .int way)] := hl
  obtain ⟨hx, hb, hml, hown, hts, hr, hlk, hA, hK, hN⟩ := id E
  have ho : ∀ q ∈ Om, q.before _ s = true := fun q h => hts q (List.mem_cons_of_mem _ h)
  refine lv_iload_n hx hb d_QS_placeFrom_0 rfl (lv_at hl 1 rfl) ?_
  refine lv_aload_n hx hb d_QS_placeFrom_1 rfl (lv_at hl 0 rfl) ?_
  refine va_get (D := D) (ci := 1) (v := .int (nI w)) (C := R_QS) (T := F_QS) (N := 5) hx hb ho j_QS hown hK hP 0 rfl rfl 0 (by decide) (ho _ kf_QS_21) (fun _ h9 => h9) rfl d_QS_placeFrom_2 ?_
  refine nr_icmp_ge (tgt := 15) hx hb d_QS_placeFrom_5 (by decide) (by omega) (by omega) (fun _ => ?_) (fun h9 => absurd h9 (by omega))
  refine lv_aload_n hx hb d_QS_placeFrom_15 rfl (lv_at hl 0 rfl) ?_
  refine lv_dup hx hb d_QS_placeFrom_16 rfl ?_
  refine va_get (D := D) (ci := 1) (v := .int (nI sn)) (C := R_QS) (T := F_QS) (N := 5) hx hb ho j_QS hown hK hP 0 rfl rfl 4 (by decide) (ho _ kf_QS_32) (fun _ h9 => h9) rfl d_QS_placeFrom_17 ?_
  refine lv_iconst (v := nI 1) hx hb d_QS_placeFrom_20 (by decide) ?_
  refine nr_iadd hx hb d_QS_placeFrom_21 ?_
  refine va_put (D := D) (ci := 1) (v := .int (nI (sn + 1))) (ty := .int) (C := R_QS) (T := F_QS) (N := 5) hx hb ho j_QS t_QS t_QS_ok n_QS hown hK hP hD hS 0 rfl rfl 4 (by decide) (ho _ kf_QS_32) (fun _ h9 => h9) rfl (by decide +kernel) rfl rfl (Nat.le_of_ble_eq_true rfl) d_QS_placeFrom_22 (fun H locs hP hD hS => ?_)
  have hP : va_P D classes [(a, .inr (1, [.int (nI w), .int (nI h), .ref q, .long (lN f), .int (nI (sn + 1))])), (q, .inl (cI, 6, .inl (nA rows)))] H := hP
  have hD : va_D A [(a, .inr (1, [.int (nI w), .int (nI h), .ref q, .long (lN f), .int (nI (sn + 1))])), (q, .inl (cI, 6, .inl (nA rows)))] := hD
  refine lv_aload_n hx hb d_QS_placeFrom_25 rfl (lv_at hl 0 rfl) ?_
  refine va_get (D := D) (ci := 1) (v := .int (nI (sn + 1))) (C := R_QS) (T := F_QS) (N := 5) hx hb ho j_QS hown hK hP 0 rfl rfl 4 (by decide) (ho _ kf_QS_32) (fun _ h9 => h9) rfl d_QS_placeFrom_26 ?_
  refine lv_iconst (v := nI 1) hx hb d_QS_placeFrom_29 (by decide) ?_
  refine nr_isub hx hb d_QS_placeFrom_30 (by omega) ?_
  refine lv_iload_n hx hb d_QS_placeFrom_31 rfl (lv_at hl 2 rfl) ?_
  refine lv_icmp_ne (tgt := 39) hx hb d_QS_placeFrom_32 (by decide) (fun h_1 => ?_) (fun h_1 => ?_)
  · refine lv_iconst (v := nI 0) hx hb d_QS_placeFrom_39 (by decide) ?_
    exact rt_z E hP hD hS (by decide) ⟨by rw [qsP]; rw [Nat.add_sub_cancel] at h_1; simp [h_1], rfl⟩ d_QS_placeFrom_40
  · refine lv_iconst (v := nI 1) hx hb d_QS_placeFrom_35 (by decide) ?_
    refine lv_goto (tgt := 40) hx hb d_QS_placeFrom_36 (by decide) ?_
    exact rt_z E hP hD hS (by decide) ⟨by rw [qsP]; rw [Nat.add_sub_cancel] at h_1; simp [h_1], rfl⟩ d_QS_placeFrom_40
set_option maxHeartbeats 1000000 in
set_option maxRecDepth 100000 in
theorem c_QS_placeS (l : Launch) (D : va_G) (cI cL : ClassId) (a q w h f d : Nat) (way : Int32) (hd : d + 1 ≤ w) (hw : w ≤ 6) (hh : h ≤ 6) (hf : f < 2 ^ 36) (hF : ∀ (rows : Nat → Nat) (sn : Nat), (∀ k, rows k < 6) → CI l y_QS_placeFrom (.code y_QS_placeFrom b_QS_placeFrom 3 (some .boolean) :: Om) { frames := 2 * d + 1, cells := 0, slots := 0, locals := 50 * d + 50 } D [(a, .inr (1, [.int (nI w), .int (nI h), .ref q, .long (lN f), .int (nI sn)])), (q, .inl (cI, 6, .inl (nA rows)))] [(cI, .int), (cL, .long)] [.ref a, .int (nI (w - d)), .int way] (fun r u => r = nI (qsP w h f way d (rows, sn)).1 ∧ u = [(a, .inr (1, [.int (nI w), .int (nI h), .ref q, .long (lN f), .int (nI ((qsP w h f way d (rows, sn)).2.2))])), (q, .inl (cI, 6, .inl (nA ((qsP w h f way d (rows, sn)).2.1))))])) (rows : Nat → Nat) (sn : Nat) (hrow : ∀ k, rows k < 6) : CI l y_QS_placeFrom (.code y_QS_placeFrom b_QS_placeFrom 3 (some .boolean) :: Om) { frames := 2 * (d + 1) + 1, cells := 0, slots := 0, locals := 50 * (d + 1) + 50 } D [(a, .inr (1, [.int (nI w), .int (nI h), .ref q, .long (lN f), .int (nI sn)])), (q, .inl (cI, 6, .inl (nA rows)))] [(cI, .int), (cL, .long)] [.ref a, .int (nI (w - (d + 1))), .int way] (fun r u => r = nI (qsP w h f way (d + 1) (rows, sn)).1 ∧ u = [(a, .inr (1, [.int (nI w), .int (nI h), .ref q, .long (lN f), .int (nI ((qsP w h f way (d + 1) (rows, sn)).2.2))])), (q, .inl (cI, 6, .inl (nA ((qsP w h f way (d + 1) (rows, sn)).2.1))))]) := by
  refine en_of (cc := b_QS_placeFrom) (Qc := qI D [(cI, .int), (cL, .long)] (fun r u => r = nI (qsP w h f way (d + 1) (rows, sn)).1 ∧ u = [(a, .inr (1, [.int (nI w), .int (nI h), .ref q, .long (lN f), .int (nI ((qsP w h f way (d + 1) (rows, sn)).2.2))])), (q, .inl (cI, 6, .inl (nA ((qsP w h f way (d + 1) (rows, sn)).2.1))))])) (by decide) rfl (Nat.le_of_ble_eq_true rfl) ?_
  intro p e s m below meth c A E hnm hP hD hS ls hl
  have hl : lv_has ls 3 [(0, .ref a), (1, .int (nI (w - (d + 1)))), (2, .int way)] := hl
  obtain ⟨hx, hb, hml, hown, hts, hr, hlk, hA, hK, hN⟩ := id E
  have ho : ∀ q ∈ Om, q.before _ s = true := fun q h => hts q (List.mem_cons_of_mem _ h)
  have hr1 := qsP_1 (w := w) (f := f) (way := way) hh (d + 1) (rows, sn) hrow
  refine lv_iload_n hx hb d_QS_placeFrom_0 rfl (lv_at hl 1 rfl) ?_
  refine lv_aload_n hx hb d_QS_placeFrom_1 rfl (lv_at hl 0 rfl) ?_
  refine va_get (D := D) (ci := 1) (v := .int (nI w)) (C := R_QS) (T := F_QS) (N := 5) hx hb ho j_QS hown hK hP 0 rfl rfl 0 (by decide) (ho _ kf_QS_21) (fun _ h9 => h9) rfl d_QS_placeFrom_2 ?_
  refine nr_icmp_ge (tgt := 15) hx hb d_QS_placeFrom_5 (by decide) (by omega) (by omega) (fun h9 => absurd h9 (by omega)) (fun _ => ?_)
  refine lv_aload_n hx hb d_QS_placeFrom_8 rfl (lv_at hl 0 rfl) ?_
  refine lv_iload_n hx hb d_QS_placeFrom_9 rfl (lv_at hl 1 rfl) ?_
  refine lv_iload_n hx hb d_QS_placeFrom_10 rfl (lv_at hl 2 rfl) ?_
  refine af_i (wc := [(a, .inr (1, [.int (nI w), .int (nI h), .ref q, .long (lN f), .int (nI sn)])), (q, .inl (cI, 6, .inl (nA rows)))]) (wr := []) (rest := []) [0, 1] [] hP hD hS hA rfl rfl (by decide) (by decide) (rn_V E (As := [.int (nI (w - (d + 1))), .int way]) m_QS_placeIn km_QS_39 (c_QS_placeIn l D cI cL a q w h f d way hd hw hh hf hF rows sn hrow _) ⟨rfl, rfl, by dsimp only; omega, by dsimp only; omega⟩ (hP.sub [0, 1] rfl) (hD.sub [0, 1] (by decide) rfl) (q0 := 0) (ci := 1) rfl rfl rfl hl.1 rfl (Nat.le_of_ble_eq_true rfl) ⟨Nat.le_of_ble_eq_true rfl, Nat.le_of_ble_eq_true rfl⟩ d_QS_placeFrom_11) (fun r_2 u_1 H locs hw hP hD hS => ?_)
  obtain ⟨rfl, rfl⟩ := hw
  have hP : va_P D classes [(a, .inr (1, [.int (nI w), .int (nI h), .ref q, .long (lN f), .int (nI ((qsP w h f way (d + 1) (rows, sn)).2.2))])), (q, .inl (cI, 6, .inl (nA ((qsP w h f way (d + 1) (rows, sn)).2.1))))] H := hP
  have hD : va_D A [(a, .inr (1, [.int (nI w), .int (nI h), .ref q, .long (lN f), .int (nI ((qsP w h f way (d + 1) (rows, sn)).2.2))])), (q, .inl (cI, 6, .inl (nA ((qsP w h f way (d + 1) (rows, sn)).2.1))))] := hD
  exact rt_z E hP hD hS (bz01 hr1.1) ⟨rfl, rfl⟩ d_QS_placeFrom_14
theorem c_QS_placeFrom (l : Launch) (D : va_G) (cI cL : ClassId) (a q w h f : Nat) (way : Int32) (hw : w ≤ 6) (hh : h ≤ 6) (hf : f < 2 ^ 36) : ∀ d, d ≤ w → ∀ (rows : Nat → Nat) (sn : Nat), (∀ k, rows k < 6) → CI l y_QS_placeFrom (.code y_QS_placeFrom b_QS_placeFrom 3 (some .boolean) :: Om) { frames := 2 * d + 1, cells := 0, slots := 0, locals := 50 * d + 50 } D [(a, .inr (1, [.int (nI w), .int (nI h), .ref q, .long (lN f), .int (nI sn)])), (q, .inl (cI, 6, .inl (nA rows)))] [(cI, .int), (cL, .long)] [.ref a, .int (nI (w - d)), .int way] (fun r u => r = nI (qsP w h f way d (rows, sn)).1 ∧ u = [(a, .inr (1, [.int (nI w), .int (nI h), .ref q, .long (lN f), .int (nI ((qsP w h f way d (rows, sn)).2.2))])), (q, .inl (cI, 6, .inl (nA ((qsP w h f way d (rows, sn)).2.1))))]) := by
  intro d
  induction d with
  | zero => intro _ rows sn _; exact c_QS_place0 l D cI cL a q w h f way hw hh hf rows sn
  | succ d ih => intro hd rows sn hrow; exact c_QS_placeS l D cI cL a q w h f d way hd hw hh hf (ih (by omega)) rows sn hrow
set_option maxHeartbeats 1000000 in
set_option maxRecDepth 100000 in
theorem c_QS_countWays (l : Launch) (D : va_G) (cI cL : ClassId) (a q w h f sn g : Nat) (rows : Nat → Nat) (hw : w ≤ 6) (hh : h ≤ 6) (hg : g < 2 ^ 36) (hrow : ∀ k, rows k < 6) : CI l y_QS_countWays (.code y_QS_countWays b_QS_countWays 3 (some .int) :: Om) { frames := 14, cells := 0, slots := 0, locals := 400 } D [(a, .inr (1, [.int (nI w), .int (nI h), .ref q, .long (lN f), .int (nI sn)])), (q, .inl (cI, 6, .inl (nA rows)))] [(cI, .int), (cL, .long)] [.ref a, .long (lN g)] (fun r u => r = nI (qsP w h g (-1) w (rows, 0)).2.2 ∧ u = [(a, .inr (1, [.int (nI w), .int (nI h), .ref q, .long (lN g), .int (nI ((qsP w h g (-1) w (rows, 0)).2.2))])), (q, .inl (cI, 6, .inl (nA ((qsP w h g (-1) w (rows, 0)).2.1))))]) := by
  refine en_of (cc := b_QS_countWays) (Qc := qI D [(cI, .int), (cL, .long)] (fun r u => r = nI (qsP w h g (-1) w (rows, 0)).2.2 ∧ u = [(a, .inr (1, [.int (nI w), .int (nI h), .ref q, .long (lN g), .int (nI ((qsP w h g (-1) w (rows, 0)).2.2))])), (q, .inl (cI, 6, .inl (nA ((qsP w h g (-1) w (rows, 0)).2.1))))])) (by decide) rfl (Nat.le_of_ble_eq_true rfl) ?_
  intro p e s m below meth c A E hnm hP hD hS ls hl
  have hl : lv_has ls 3 [(0, .ref a), (1, .long (lN g))] := hl
  obtain ⟨hx, hb, hml, hown, hts, hr, hlk, hA, hK, hN⟩ := id E
  have ho : ∀ q ∈ Om, q.before _ s = true := fun q h => hts q (List.mem_cons_of_mem _ h)
  refine lv_aload_n hx hb d_QS_countWays_0 rfl (lv_at hl 0 rfl) ?_
  refine lv_lload_n hx hb d_QS_countWays_1 rfl (lv_at hl 1 rfl) ?_
  refine va_put (D := D) (ci := 1) (v := .long (lN g)) (ty := .long) (C := R_QS) (T := F_QS) (N := 5) hx hb ho j_QS t_QS t_QS_ok n_QS hown hK hP hD hS 0 rfl rfl 3 (by decide) (ho _ kf_QS_28) (fun _ h9 => h9) rfl (by decide +kernel) rfl rfl (Nat.le_of_ble_eq_true rfl) d_QS_countWays_2 (fun H locs hP hD hS => ?_)
  have hP : va_P D classes [(a, .inr (1, [.int (nI w), .int (nI h), .ref q, .long (lN g), .int (nI sn)])), (q, .inl (cI, 6, .inl (nA rows)))] H := hP
  have hD : va_D A [(a, .inr (1, [.int (nI w), .int (nI h), .ref q, .long (lN g), .int (nI sn)])), (q, .inl (cI, 6, .inl (nA rows)))] := hD
  refine lv_aload_n hx hb d_QS_countWays_5 rfl (lv_at hl 0 rfl) ?_
  refine lv_iconst (v := nI 0) hx hb d_QS_countWays_6 (by decide) ?_
  refine va_put (D := D) (ci := 1) (v := .int (nI 0)) (ty := .int) (C := R_QS) (T := F_QS) (N := 5) hx hb ho j_QS t_QS t_QS_ok n_QS hown hK hP hD hS 0 rfl rfl 4 (by decide) (ho _ kf_QS_32) (fun _ h9 => h9) rfl (by decide +kernel) rfl rfl (Nat.le_of_ble_eq_true rfl) d_QS_countWays_7 (fun H locs hP hD hS => ?_)
  have hP : va_P D classes [(a, .inr (1, [.int (nI w), .int (nI h), .ref q, .long (lN g), .int (nI 0)])), (q, .inl (cI, 6, .inl (nA rows)))] H := hP
  have hD : va_D A [(a, .inr (1, [.int (nI w), .int (nI h), .ref q, .long (lN g), .int (nI 0)])), (q, .inl (cI, 6, .inl (nA rows)))] := hD
  refine lv_aload_n hx hb d_QS_countWays_10 rfl (lv_at hl 0 rfl) ?_
  refine lv_iconst (v := nI 0) hx hb d_QS_countWays_11 (by decide) ?_
  refine lv_iconst (v := (-1)) hx hb d_QS_countWays_12 (by decide) ?_
  have hr1 := qsP_1 (w := w) (f := g) (way := (-1)) hh w (rows, 0) hrow
  rw [show nI 0 = nI (w - w) by rw [Nat.sub_self]]
  refine af_i (wc := [(a, .inr (1, [.int (nI w), .int (nI h), .ref q, .long (lN g), .int (nI 0)])), (q, .inl (cI, 6, .inl (nA rows)))]) (wr := []) (rest := []) [0, 1] [] hP hD hS hA rfl rfl (by decide) (by decide) (rn_V E (As := [.int (nI (w - w)), .int (-1)]) m_QS_placeFrom km_QS_35 (c_QS_placeFrom l D cI cL a q w h g (-1) hw hh hg w (Nat.le_refl w) rows 0 hrow _) ⟨rfl, rfl, by dsimp only; omega, by dsimp only; omega⟩ (hP.sub [0, 1] rfl) (hD.sub [0, 1] (by decide) rfl) (q0 := 0) (ci := 1) rfl rfl rfl hl.1 rfl (Nat.le_of_ble_eq_true rfl) ⟨Nat.le_of_ble_eq_true rfl, Nat.le_of_ble_eq_true rfl⟩ d_QS_countWays_13) (fun r_2 u_1 H locs hw hP hD hS => ?_)
  obtain ⟨rfl, rfl⟩ := hw
  have hP : va_P D classes [(a, .inr (1, [.int (nI w), .int (nI h), .ref q, .long (lN g), .int (nI ((qsP w h g (-1) w (rows, 0)).2.2))])), (q, .inl (cI, 6, .inl (nA ((qsP w h g (-1) w (rows, 0)).2.1))))] H := hP
  have hD : va_D A [(a, .inr (1, [.int (nI w), .int (nI h), .ref q, .long (lN g), .int (nI ((qsP w h g (-1) w (rows, 0)).2.2))])), (q, .inl (cI, 6, .inl (nA ((qsP w h g (-1) w (rows, 0)).2.1))))] := hD
  refine lv_pop hx hb d_QS_countWays_16 rfl ?_
  refine lv_aload_n hx hb d_QS_countWays_17 rfl (lv_at hl 0 rfl) ?_
  refine va_get (D := D) (ci := 1) (v := .int (nI ((qsP w h g (-1) w (rows, 0)).2.2))) (C := R_QS) (T := F_QS) (N := 5) hx hb ho j_QS hown hK hP 0 rfl rfl 4 (by decide) (ho _ kf_QS_32) (fun _ h9 => h9) rfl d_QS_countWays_18 ?_
  exact rt_i E hP hD hS ⟨rfl, rfl⟩ d_QS_countWays_21
set_option maxHeartbeats 1000000 in
set_option maxRecDepth 100000 in
theorem c_QS_rowOut (l : Launch) (D : va_G) (cI cL : ClassId) (a q w h f sn g : Nat) (rows : Nat → Nat) (k cl : Int32) (hout : k < 0 ∨ cl < 0 ∨ ¬ cl < nI w) : CI l y_QS_rowInWay (.code y_QS_rowInWay b_QS_rowInWay 5 (some .int) :: Om) { frames := 14, cells := 0, slots := 0, locals := 400 } D [(a, .inr (1, [.int (nI w), .int (nI h), .ref q, .long (lN f), .int (nI sn)])), (q, .inl (cI, 6, .inl (nA rows)))] [(cI, .int), (cL, .long)] [.ref a, .long (lN g), .int k, .int cl] (fun r u => r = -1 ∧ u = [(a, .inr (1, [.int (nI w), .int (nI h), .ref q, .long (lN f), .int (nI sn)])), (q, .inl (cI, 6, .inl (nA rows)))]) := by
  refine en_of (cc := b_QS_rowInWay) (Qc := qI D [(cI, .int), (cL, .long)] (fun r u => r = -1 ∧ u = [(a, .inr (1, [.int (nI w), .int (nI h), .ref q, .long (lN f), .int (nI sn)])), (q, .inl (cI, 6, .inl (nA rows)))])) (by decide) rfl (Nat.le_of_ble_eq_true rfl) ?_
  intro p e s m below meth c A E hnm hP hD hS ls hl
  have hl : lv_has ls 5 [(0, .ref a), (1, .long (lN g)), (3, .int k), (4, .int cl)] := hl
  obtain ⟨hx, hb, hml, hown, hts, hr, hlk, hA, hK, hN⟩ := id E
  have ho : ∀ q ∈ Om, q.before _ s = true := fun q h => hts q (List.mem_cons_of_mem _ h)
  refine lv_iload_n hx hb d_QS_rowInWay_0 rfl (lv_at hl 2 rfl) ?_
  refine lv_if_lt (tgt := 18) hx hb d_QS_rowInWay_1 (by decide) (fun h_1 => ?_) (fun h_1 => ?_)
  · refine lv_iconst (v := (-1)) hx hb d_QS_rowInWay_18 (by decide) ?_
    exact rt_i E hP hD hS ⟨rfl, rfl⟩ d_QS_rowInWay_19
  · refine lv_iload hx hb d_QS_rowInWay_4 (lv_at hl 3 rfl) ?_
    refine lv_if_lt (tgt := 18) hx hb d_QS_rowInWay_6 (by decide) (fun h_2 => ?_) (fun h_2 => ?_)
    · refine lv_iconst (v := (-1)) hx hb d_QS_rowInWay_18 (by decide) ?_
      exact rt_i E hP hD hS ⟨rfl, rfl⟩ d_QS_rowInWay_19
    · refine lv_iload hx hb d_QS_rowInWay_9 (lv_at hl 3 rfl) ?_
      refine lv_aload_n hx hb d_QS_rowInWay_11 rfl (lv_at hl 0 rfl) ?_
      refine va_get (D := D) (ci := 1) (v := .int (nI w)) (C := R_QS) (T := F_QS) (N := 5) hx hb ho j_QS hown hK hP 0 rfl rfl 0 (by decide) (ho _ kf_QS_21) (fun _ h9 => h9) rfl d_QS_rowInWay_12 ?_
      refine lv_icmp_lt (tgt := 20) hx hb d_QS_rowInWay_15 (by decide) (fun h_3 => ?_) (fun h_3 => ?_)
      · exact absurd hout (by rintro (q | q | q) <;> contradiction)
      · refine lv_iconst (v := (-1)) hx hb d_QS_rowInWay_18 (by decide) ?_
        exact rt_i E hP hD hS ⟨rfl, rfl⟩ d_QS_rowInWay_19
set_option maxHeartbeats 1000000 in
set_option maxRecDepth 100000 in
theorem c_QS_rowIn (l : Launch) (D : va_G) (cI cL : ClassId) (a q w h f sn g cl : Nat) (rows : Nat → Nat) (k : Int32) (hk : ¬ k < 0) (hcl : cl < w) (hw : w ≤ 6) (hh : h ≤ 6) (hg : g < 2 ^ 36) (hrow : ∀ k, rows k < 6) : CI l y_QS_rowInWay (.code y_QS_rowInWay b_QS_rowInWay 5 (some .int) :: Om) { frames := 14, cells := 0, slots := 0, locals := 400 } D [(a, .inr (1, [.int (nI w), .int (nI h), .ref q, .long (lN f), .int (nI sn)])), (q, .inl (cI, 6, .inl (nA rows)))] [(cI, .int), (cL, .long)] [.ref a, .long (lN g), .int k, .int (nI cl)] (fun r u => r = (if (qsP w h g k w (rows, 0)).1 = 0 then -1 else nI ((qsP w h g k w (rows, 0)).2.1 cl)) ∧ u = [(a, .inr (1, [.int (nI w), .int (nI h), .ref q, .long (lN g), .int (nI ((qsP w h g k w (rows, 0)).2.2))])), (q, .inl (cI, 6, .inl (nA ((qsP w h g k w (rows, 0)).2.1))))]) := by
  refine en_of (cc := b_QS_rowInWay) (Qc := qI D [(cI, .int), (cL, .long)] (fun r u => r = (if (qsP w h g k w (rows, 0)).1 = 0 then -1 else nI ((qsP w h g k w (rows, 0)).2.1 cl)) ∧ u = [(a, .inr (1, [.int (nI w), .int (nI h), .ref q, .long (lN g), .int (nI ((qsP w h g k w (rows, 0)).2.2))])), (q, .inl (cI, 6, .inl (nA ((qsP w h g k w (rows, 0)).2.1))))])) (by decide) rfl (Nat.le_of_ble_eq_true rfl) ?_
  intro p e s m below meth c A E hnm hP hD hS ls hl
  have hl : lv_has ls 5 [(0, .ref a), (1, .long (lN g)), (3, .int k), (4, .int (nI cl))] := hl
  obtain ⟨hx, hb, hml, hown, hts, hr, hlk, hA, hK, hN⟩ := id E
  have ho : ∀ q ∈ Om, q.before _ s = true := fun q h => hts q (List.mem_cons_of_mem _ h)
  refine lv_iload_n hx hb d_QS_rowInWay_0 rfl (lv_at hl 2 rfl) ?_
  refine lv_if_lt (tgt := 18) hx hb d_QS_rowInWay_1 (by decide) (fun h9 => absurd h9 hk) (fun _ => ?_)
  refine lv_iload hx hb d_QS_rowInWay_4 (lv_at hl 3 rfl) ?_
  refine nr_if_lt (tgt := 18) hx hb d_QS_rowInWay_6 (by decide) (by omega) ?_
  refine lv_iload hx hb d_QS_rowInWay_9 (lv_at hl 3 rfl) ?_
  refine lv_aload_n hx hb d_QS_rowInWay_11 rfl (lv_at hl 0 rfl) ?_
  refine va_get (D := D) (ci := 1) (v := .int (nI w)) (C := R_QS) (T := F_QS) (N := 5) hx hb ho j_QS hown hK hP 0 rfl rfl 0 (by decide) (ho _ kf_QS_21) (fun _ h9 => h9) rfl d_QS_rowInWay_12 ?_
  refine nr_icmp_lt (tgt := 20) hx hb d_QS_rowInWay_15 (by decide) (by omega) (by omega) (fun _ => ?_) (fun h9 => absurd h9 (by omega))
  refine lv_aload_n hx hb d_QS_rowInWay_20 rfl (lv_at hl 0 rfl) ?_
  refine lv_lload_n hx hb d_QS_rowInWay_21 rfl (lv_at hl 1 rfl) ?_
  refine va_put (D := D) (ci := 1) (v := .long (lN g)) (ty := .long) (C := R_QS) (T := F_QS) (N := 5) hx hb ho j_QS t_QS t_QS_ok n_QS hown hK hP hD hS 0 rfl rfl 3 (by decide) (ho _ kf_QS_28) (fun _ h9 => h9) rfl (by decide +kernel) rfl rfl (Nat.le_of_ble_eq_true rfl) d_QS_rowInWay_22 (fun H locs hP hD hS => ?_)
  have hP : va_P D classes [(a, .inr (1, [.int (nI w), .int (nI h), .ref q, .long (lN g), .int (nI sn)])), (q, .inl (cI, 6, .inl (nA rows)))] H := hP
  have hD : va_D A [(a, .inr (1, [.int (nI w), .int (nI h), .ref q, .long (lN g), .int (nI sn)])), (q, .inl (cI, 6, .inl (nA rows)))] := hD
  refine lv_aload_n hx hb d_QS_rowInWay_25 rfl (lv_at hl 0 rfl) ?_
  refine lv_iconst (v := nI 0) hx hb d_QS_rowInWay_26 (by decide) ?_
  refine va_put (D := D) (ci := 1) (v := .int (nI 0)) (ty := .int) (C := R_QS) (T := F_QS) (N := 5) hx hb ho j_QS t_QS t_QS_ok n_QS hown hK hP hD hS 0 rfl rfl 4 (by decide) (ho _ kf_QS_32) (fun _ h9 => h9) rfl (by decide +kernel) rfl rfl (Nat.le_of_ble_eq_true rfl) d_QS_rowInWay_27 (fun H locs hP hD hS => ?_)
  have hP : va_P D classes [(a, .inr (1, [.int (nI w), .int (nI h), .ref q, .long (lN g), .int (nI 0)])), (q, .inl (cI, 6, .inl (nA rows)))] H := hP
  have hD : va_D A [(a, .inr (1, [.int (nI w), .int (nI h), .ref q, .long (lN g), .int (nI 0)])), (q, .inl (cI, 6, .inl (nA rows)))] := hD
  refine lv_aload_n hx hb d_QS_rowInWay_30 rfl (lv_at hl 0 rfl) ?_
  refine lv_iconst (v := nI 0) hx hb d_QS_rowInWay_31 (by decide) ?_
  refine lv_iload_n hx hb d_QS_rowInWay_32 rfl (lv_at hl 2 rfl) ?_
  have hr1 := qsP_1 (w := w) (f := g) (way := k) hh w (rows, 0) hrow
  rw [show nI 0 = nI (w - w) by rw [Nat.sub_self]]
  refine af_i (wc := [(a, .inr (1, [.int (nI w), .int (nI h), .ref q, .long (lN g), .int (nI 0)])), (q, .inl (cI, 6, .inl (nA rows)))]) (wr := []) (rest := []) [0, 1] [] hP hD hS hA rfl rfl (by decide) (by decide) (rn_V E (As := [.int (nI (w - w)), .int k]) m_QS_placeFrom km_QS_35 (c_QS_placeFrom l D cI cL a q w h g k hw hh hg w (Nat.le_refl w) rows 0 hrow _) ⟨rfl, rfl, by dsimp only; omega, by dsimp only; omega⟩ (hP.sub [0, 1] rfl) (hD.sub [0, 1] (by decide) rfl) (q0 := 0) (ci := 1) rfl rfl rfl hl.1 rfl (Nat.le_of_ble_eq_true rfl) ⟨Nat.le_of_ble_eq_true rfl, Nat.le_of_ble_eq_true rfl⟩ d_QS_rowInWay_33) (fun r_2 u_1 H locs hw hP hD hS => ?_)
  obtain ⟨rfl, rfl⟩ := hw
  have hP : va_P D classes [(a, .inr (1, [.int (nI w), .int (nI h), .ref q, .long (lN g), .int (nI ((qsP w h g k w (rows, 0)).2.2))])), (q, .inl (cI, 6, .inl (nA ((qsP w h g k w (rows, 0)).2.1))))] H := hP
  have hD : va_D A [(a, .inr (1, [.int (nI w), .int (nI h), .ref q, .long (lN g), .int (nI ((qsP w h g k w (rows, 0)).2.2))])), (q, .inl (cI, 6, .inl (nA ((qsP w h g k w (rows, 0)).2.1))))] := hD
  refine nr_if_eq (tgt := 49) hx hb d_QS_rowInWay_36 (by decide) (by omega) (fun h_3 => ?_) (fun h_3 => ?_)
  · refine lv_iconst (v := (-1)) hx hb d_QS_rowInWay_49 (by decide) ?_
    exact rt_i E hP hD hS ⟨by first | rw [if_pos (by omega)] | rw [if_neg (by omega)], rfl⟩ d_QS_rowInWay_50
  · refine lv_aload_n hx hb d_QS_rowInWay_39 rfl (lv_at hl 0 rfl) ?_
    refine va_get (D := D) (ci := 1) (v := .ref q) (C := R_QS) (T := F_QS) (N := 5) hx hb ho j_QS hown hK hP 0 rfl rfl 2 (by decide) (ho _ kf_QS_9) (fun _ h9 => h9) rfl d_QS_rowInWay_40 ?_
    refine lv_iload hx hb d_QS_rowInWay_43 (lv_at hl 3 rfl) ?_
    refine nr_ialdN hx hb hK hP 1 0 rfl rfl (i := cl) (by omega) (by decide) d_QS_rowInWay_45 ?_
    refine lv_goto (tgt := 50) hx hb d_QS_rowInWay_46 (by decide) ?_
    exact rt_i E hP hD hS ⟨by first | rw [if_pos (by omega)] | rw [if_neg (by omega)], rfl⟩ d_QS_rowInWay_50
end
section
/-! Rectangle: its small methods -/
theorem nr_ishl1 {p : Program} {l : Launch} {e : Env} {R : Room} {s : State} {m : MethodId} {args : Array Value} {below : List Frame} {meth : Method} {c : Code} {H : Heap} {locs : List Loc} {cells slots : Nat} {Q : State → Prop} {pc : Nat} {ls : Array Slot} {rest : List Value} {cc : ByteArray} (hx : p.tables.exec = Jvm.exec) (hb : c.code = cc) {b : Nat} (hd : decode cc pc = .ok (.ishl, 1)) (h : b < 32) (k : W p l e R s m args below meth c H locs cells slots Q (F0 m (pc + 1) ls (.int (nI (2 ^ b)) :: rest))) : W p l e R s m args below meth c H locs cells slots Q (F0 m pc ls (.int (nI b) :: .int (nI 1) :: rest)) :=
  nr_ishl hx hb hd h (by rw [Nat.one_mul]; exact k)
/-- the numbers that no cell of the column or the row has -/
def rCh (al : Nat) (co ro uc ur : Nat → Nat) (k : Nat) : Nat := al &&& ((uc (co k) ||| ur (ro k)) ^^^ 4294967295)
theorem rCh_le (al : Nat) (co ro uc ur : Nat → Nat) (k : Nat) : rCh al co ro uc ur k ≤ al := Nat.and_le_left
def rPut (f : Nat → Nat) (i v : Nat) : Nat → Nat := va_up f i (f i ||| 2 ^ v)
def rTake (f : Nat → Nat) (i v : Nat) : Nat → Nat := va_up f i (f i &&& (2 ^ v ^^^ 4294967295))
theorem up_lt {f : Nat → Nat} {i x b : Nat} (h : ∀ k, f k < b) (hx : x < b) : ∀ k, va_up f i x k < b := fun k => by
  unfold va_up
  split
  · exact hx
  · exact h k
theorem rPut_lt {f : Nat → Nat} {i v : Nat} (h : ∀ k, f k < 128) (hv : v < 7) : ∀ k, rPut f i v k < 128 :=
  up_lt h (Nat.or_lt_two_pow (n := 7) (h i) (Nat.pow_lt_pow_right (by decide) hv))
theorem rTake_lt {f : Nat → Nat} {i v : Nat} (h : ∀ k, f k < 128) : ∀ k, rTake f i v k < 128 :=
  up_lt h (Nat.lt_of_le_of_lt Nat.and_le_left (h i))
theorem nA_cpy (f g : Nat → Nat) (a b n : Nat) : va_cpy (nA f) (nA g) a b n = nA (va_cpy f g a b n) := by
  funext k
  simp only [va_cpy, nA]
  split <;> rfl
set_option maxHeartbeats 1000000 in
set_option maxRecDepth 100000 in
theorem c_RC_choicesAt (l : Launch) (D : va_G) (cI cL : ClassId) (a b1 b2 b3 b4 b5 b6 b7 b8 b9 b10 n g sh al fd : Nat) (fx le tr wi co ro uc ur pm qm : Nat → Nat) (k : Nat) (hk : k < 36) (hco : ∀ k, co k < 6) (hro : ∀ k, ro k < 6) : CI l y_RC_choicesAt (.code y_RC_choicesAt b_RC_choicesAt 2 (some .int) :: Om) { frames := 0, cells := 0, slots := 0, locals := 0 } D [(a, .inr (2, [.int (nI n), .int (nI g), .int (nI sh), .int (nI al), .ref b1, .ref b2, .ref b3, .ref b4, .ref b5, .ref b6, .ref b7, .ref b8, .ref b9, .ref b10, .int (nI fd)])), (b1, .inl (cI, 36, .inl (nA fx))), (b2, .inl (cI, 36, .inl (nA le))), (b3, .inl (cI, 36, .inl (nA tr))), (b4, .inl (cI, 36, .inl (nA wi))), (b5, .inl (cI, 36, .inl (nA co))), (b6, .inl (cI, 36, .inl (nA ro))), (b7, .inl (cI, 6, .inl (nA uc))), (b8, .inl (cI, 6, .inl (nA ur))), (b9, .inl (cI, 6, .inl (nA pm))), (b10, .inl (cI, 6, .inl (nA qm)))] [(cI, .int), (cL, .long)] [.ref a, .int (nI k)] (fun r u => r = nI (rCh al co ro uc ur k) ∧ u = [(a, .inr (2, [.int (nI n), .int (nI g), .int (nI sh), .int (nI al), .ref b1, .ref b2, .ref b3, .ref b4, .ref b5, .ref b6, .ref b7, .ref b8, .ref b9, .ref b10, .int (nI fd)])), (b1, .inl (cI, 36, .inl (nA fx))), (b2, .inl (cI, 36, .inl (nA le))), (b3, .inl (cI, 36, .inl (nA tr))), (b4, .inl (cI, 36, .inl (nA wi))), (b5, .inl (cI, 36, .inl (nA co))), (b6, .inl (cI, 36, .inl (nA ro))), (b7, .inl (cI, 6, .inl (nA uc))), (b8, .inl (cI, 6, .inl (nA ur))), (b9, .inl (cI, 6, .inl (nA pm))), (b10, .inl (cI, 6, .inl (nA qm)))]) := by
  refine en_of (cc := b_RC_choicesAt) (Qc := qI D [(cI, .int), (cL, .long)] (fun r u => r = nI (rCh al co ro uc ur k) ∧ u = [(a, .inr (2, [.int (nI n), .int (nI g), .int (nI sh), .int (nI al), .ref b1, .ref b2, .ref b3, .ref b4, .ref b5, .ref b6, .ref b7, .ref b8, .ref b9, .ref b10, .int (nI fd)])), (b1, .inl (cI, 36, .inl (nA fx))), (b2, .inl (cI, 36, .inl (nA le))), (b3, .inl (cI, 36, .inl (nA tr))), (b4, .inl (cI, 36, .inl (nA wi))), (b5, .inl (cI, 36, .inl (nA co))), (b6, .inl (cI, 36, .inl (nA ro))), (b7, .inl (cI, 6, .inl (nA uc))), (b8, .inl (cI, 6, .inl (nA ur))), (b9, .inl (cI, 6, .inl (nA pm))), (b10, .inl (cI, 6, .inl (nA qm)))])) (by decide) rfl (Nat.le_of_ble_eq_true rfl) ?_
  intro p e s m below meth c A E hnm hP hD hS ls hl
  have hl : lv_has ls 2 [(0, .ref a), (1, .int (nI k))] := hl
  obtain ⟨hx, hb, hml, hown, hts, hr, hlk, hA, hK, hN⟩ := id E
  have ho : ∀ q ∈ Om, q.before _ s = true := fun q h => hts q (List.mem_cons_of_mem _ h)
  have hk1 := hco k
  have hk2 := hro k
  refine lv_iload_n hx hb d_RC_choicesAt_0 rfl (lv_at hl 1 rfl) ?_
  refine nr_if_lt (tgt := 10) hx hb d_RC_choicesAt_1 (by decide) (by omega) ?_
  refine lv_iload_n hx hb d_RC_choicesAt_4 rfl (lv_at hl 1 rfl) ?_
  refine lv_bipush (v := nI 36) hx hb d_RC_choicesAt_5 (by decide) ?_
  refine nr_icmp_lt (tgt := 12) hx hb d_RC_choicesAt_7 (by decide) (by omega) (by omega) (fun _ => ?_) (fun h9 => absurd h9 (by omega))
  refine lv_aload_n hx hb d_RC_choicesAt_12 rfl (lv_at hl 0 rfl) ?_
  refine va_get (D := D) (ci := 2) (v := .int (nI al)) (C := R_RC) (T := F_RC) (N := 15) hx hb ho j_RC hown hK hP 0 rfl rfl 3 (by decide) (ho _ kf_RC_61) (fun _ h9 => h9) rfl d_RC_choicesAt_13 ?_
  refine lv_aload_n hx hb d_RC_choicesAt_16 rfl (lv_at hl 0 rfl) ?_
  refine va_get (D := D) (ci := 2) (v := .ref b7) (C := R_RC) (T := F_RC) (N := 15) hx hb ho j_RC hown hK hP 0 rfl rfl 10 (by decide) (ho _ kf_RC_30) (fun _ h9 => h9) rfl d_RC_choicesAt_17 ?_
  refine lv_aload_n hx hb d_RC_choicesAt_20 rfl (lv_at hl 0 rfl) ?_
  refine va_get (D := D) (ci := 2) (v := .ref b5) (C := R_RC) (T := F_RC) (N := 15) hx hb ho j_RC hown hK hP 0 rfl rfl 8 (by decide) (ho _ kf_RC_24) (fun _ h9 => h9) rfl d_RC_choicesAt_21 ?_
  refine lv_iload_n hx hb d_RC_choicesAt_24 rfl (lv_at hl 1 rfl) ?_
  refine nr_ialdN hx hb hK hP 5 0 rfl rfl (i := k) (by omega) (by decide) d_RC_choicesAt_25 ?_
  refine nr_ialdN hx hb hK hP 7 0 rfl rfl (i := co k) (by omega) (by decide) d_RC_choicesAt_26 ?_
  refine lv_aload_n hx hb d_RC_choicesAt_27 rfl (lv_at hl 0 rfl) ?_
  refine va_get (D := D) (ci := 2) (v := .ref b8) (C := R_RC) (T := F_RC) (N := 15) hx hb ho j_RC hown hK hP 0 rfl rfl 11 (by decide) (ho _ kf_RC_33) (fun _ h9 => h9) rfl d_RC_choicesAt_28 ?_
  refine lv_aload_n hx hb d_RC_choicesAt_31 rfl (lv_at hl 0 rfl) ?_
  refine va_get (D := D) (ci := 2) (v := .ref b6) (C := R_RC) (T := F_RC) (N := 15) hx hb ho j_RC hown hK hP 0 rfl rfl 9 (by decide) (ho _ kf_RC_27) (fun _ h9 => h9) rfl d_RC_choicesAt_32 ?_
  refine lv_iload_n hx hb d_RC_choicesAt_35 rfl (lv_at hl 1 rfl) ?_
  refine nr_ialdN hx hb hK hP 6 0 rfl rfl (i := k) (by omega) (by decide) d_RC_choicesAt_36 ?_
  refine nr_ialdN hx hb hK hP 8 0 rfl rfl (i := ro k) (by omega) (by decide) d_RC_choicesAt_37 ?_
  refine nr_ior hx hb d_RC_choicesAt_38 ?_
  refine lv_iconst (v := nI 4294967295) hx hb d_RC_choicesAt_39 (by decide) ?_
  refine nr_ixor hx hb d_RC_choicesAt_40 ?_
  refine nr_iand hx hb d_RC_choicesAt_41 ?_
  exact rt_i E hP hD hS ⟨rfl, rfl⟩ d_RC_choicesAt_42
set_option maxHeartbeats 1000000 in
set_option maxRecDepth 100000 in
theorem c_RC_put (l : Launch) (D : va_G) (cI cL : ClassId) (a b1 b2 b3 b4 b5 b6 b7 b8 b9 b10 n g sh al fd : Nat) (fx le tr wi co ro uc ur pm qm : Nat → Nat) (k v : Nat) (hk : k < 36) (hv : v < 32) (hco : ∀ k, co k < 6) (hro : ∀ k, ro k < 6) : CV l y_RC_put (.code y_RC_put b_RC_put 3 none :: Om) { frames := 0, cells := 0, slots := 0, locals := 0 } D [(a, .inr (2, [.int (nI n), .int (nI g), .int (nI sh), .int (nI al), .ref b1, .ref b2, .ref b3, .ref b4, .ref b5, .ref b6, .ref b7, .ref b8, .ref b9, .ref b10, .int (nI fd)])), (b1, .inl (cI, 36, .inl (nA fx))), (b2, .inl (cI, 36, .inl (nA le))), (b3, .inl (cI, 36, .inl (nA tr))), (b4, .inl (cI, 36, .inl (nA wi))), (b5, .inl (cI, 36, .inl (nA co))), (b6, .inl (cI, 36, .inl (nA ro))), (b7, .inl (cI, 6, .inl (nA uc))), (b8, .inl (cI, 6, .inl (nA ur))), (b9, .inl (cI, 6, .inl (nA pm))), (b10, .inl (cI, 6, .inl (nA qm)))] [(cI, .int), (cL, .long)] [.ref a, .int (nI k), .int (nI v)] (fun u => u = [(a, .inr (2, [.int (nI n), .int (nI g), .int (nI sh), .int (nI al), .ref b1, .ref b2, .ref b3, .ref b4, .ref b5, .ref b6, .ref b7, .ref b8, .ref b9, .ref b10, .int (nI fd)])), (b1, .inl (cI, 36, .inl (nA fx))), (b2, .inl (cI, 36, .inl (nA le))), (b3, .inl (cI, 36, .inl (nA (va_up tr k v)))), (b4, .inl (cI, 36, .inl (nA wi))), (b5, .inl (cI, 36, .inl (nA co))), (b6, .inl (cI, 36, .inl (nA ro))), (b7, .inl (cI, 6, .inl (nA (rPut uc (co k) v)))), (b8, .inl (cI, 6, .inl (nA (rPut ur (ro k) v)))), (b9, .inl (cI, 6, .inl (nA pm))), (b10, .inl (cI, 6, .inl (nA qm)))]) := by
  refine en_of (cc := b_RC_put) (Qc := qV D [(cI, .int), (cL, .long)] (fun u => u = [(a, .inr (2, [.int (nI n), .int (nI g), .int (nI sh), .int (nI al), .ref b1, .ref b2, .ref b3, .ref b4, .ref b5, .ref b6, .ref b7, .ref b8, .ref b9, .ref b10, .int (nI fd)])), (b1, .inl (cI, 36, .inl (nA fx))), (b2, .inl (cI, 36, .inl (nA le))), (b3, .inl (cI, 36, .inl (nA (va_up tr k v)))), (b4, .inl (cI, 36, .inl (nA wi))), (b5, .inl (cI, 36, .inl (nA co))), (b6, .inl (cI, 36, .inl (nA ro))), (b7, .inl (cI, 6, .inl (nA (rPut uc (co k) v)))), (b8, .inl (cI, 6, .inl (nA (rPut ur (ro k) v)))), (b9, .inl (cI, 6, .inl (nA pm))), (b10, .inl (cI, 6, .inl (nA qm)))])) (by decide) rfl (Nat.le_of_ble_eq_true rfl) ?_
  intro p e s m below meth c A E hnm hP hD hS ls hl
  have hl : lv_has ls 3 [(0, .ref a), (1, .int (nI k)), (2, .int (nI v))] := hl
  obtain ⟨hx, hb, hml, hown, hts, hr, hlk, hA, hK, hN⟩ := id E
  have ho : ∀ q ∈ Om, q.before _ s = true := fun q h => hts q (List.mem_cons_of_mem _ h)
  have hk1 := hco k
  have hk2 := hro k
  refine lv_iload_n hx hb d_RC_put_0 rfl (lv_at hl 1 rfl) ?_
  refine nr_if_lt (tgt := 10) hx hb d_RC_put_1 (by decide) (by omega) ?_
  refine lv_iload_n hx hb d_RC_put_4 rfl (lv_at hl 1 rfl) ?_
  refine lv_bipush (v := nI 36) hx hb d_RC_put_5 (by decide) ?_
  refine nr_icmp_lt (tgt := 11) hx hb d_RC_put_7 (by decide) (by omega) (by omega) (fun _ => ?_) (fun h9 => absurd h9 (by omega))
  refine lv_aload_n hx hb d_RC_put_11 rfl (lv_at hl 0 rfl) ?_
  refine va_get (D := D) (ci := 2) (v := .ref b3) (C := R_RC) (T := F_RC) (N := 15) hx hb ho j_RC hown hK hP 0 rfl rfl 6 (by decide) (ho _ kf_RC_18) (fun _ h9 => h9) rfl d_RC_put_12 ?_
  refine lv_iload_n hx hb d_RC_put_15 rfl (lv_at hl 1 rfl) ?_
  refine lv_iload_n hx hb d_RC_put_16 rfl (lv_at hl 2 rfl) ?_
  refine nr_iast hx hb hK hP hD hS 3 0 rfl rfl (i := k) (x := v) (by omega) (by decide) d_RC_put_17 (fun H locs hP hD hS => ?_)
  have hP : va_P D classes [(a, .inr (2, [.int (nI n), .int (nI g), .int (nI sh), .int (nI al), .ref b1, .ref b2, .ref b3, .ref b4, .ref b5, .ref b6, .ref b7, .ref b8, .ref b9, .ref b10, .int (nI fd)])), (b1, .inl (cI, 36, .inl (nA fx))), (b2, .inl (cI, 36, .inl (nA le))), (b3, .inl (cI, 36, .inl (nA (va_up tr k v)))), (b4, .inl (cI, 36, .inl (nA wi))), (b5, .inl (cI, 36, .inl (nA co))), (b6, .inl (cI, 36, .inl (nA ro))), (b7, .inl (cI, 6, .inl (nA uc))), (b8, .inl (cI, 6, .inl (nA ur))), (b9, .inl (cI, 6, .inl (nA pm))), (b10, .inl (cI, 6, .inl (nA qm)))] H := hP
  have hD : va_D A [(a, .inr (2, [.int (nI n), .int (nI g), .int (nI sh), .int (nI al), .ref b1, .ref b2, .ref b3, .ref b4, .ref b5, .ref b6, .ref b7, .ref b8, .ref b9, .ref b10, .int (nI fd)])), (b1, .inl (cI, 36, .inl (nA fx))), (b2, .inl (cI, 36, .inl (nA le))), (b3, .inl (cI, 36, .inl (nA (va_up tr k v)))), (b4, .inl (cI, 36, .inl (nA wi))), (b5, .inl (cI, 36, .inl (nA co))), (b6, .inl (cI, 36, .inl (nA ro))), (b7, .inl (cI, 6, .inl (nA uc))), (b8, .inl (cI, 6, .inl (nA ur))), (b9, .inl (cI, 6, .inl (nA pm))), (b10, .inl (cI, 6, .inl (nA qm)))] := hD
  refine lv_aload_n hx hb d_RC_put_18 rfl (lv_at hl 0 rfl) ?_
  refine va_get (D := D) (ci := 2) (v := .ref b7) (C := R_RC) (T := F_RC) (N := 15) hx hb ho j_RC hown hK hP 0 rfl rfl 10 (by decide) (ho _ kf_RC_30) (fun _ h9 => h9) rfl d_RC_put_19 ?_
  refine lv_aload_n hx hb d_RC_put_22 rfl (lv_at hl 0 rfl) ?_
  refine va_get (D := D) (ci := 2) (v := .ref b5) (C := R_RC) (T := F_RC) (N := 15) hx hb ho j_RC hown hK hP 0 rfl rfl 8 (by decide) (ho _ kf_RC_24) (fun _ h9 => h9) rfl d_RC_put_23 ?_
  refine lv_iload_n hx hb d_RC_put_26 rfl (lv_at hl 1 rfl) ?_
  refine nr_ialdN hx hb hK hP 5 0 rfl rfl (i := k) (by omega) (by decide) d_RC_put_27 ?_
  refine lv_dup2_11 hx hb d_RC_put_28 rfl rfl ?_
  refine nr_ialdN hx hb hK hP 7 0 rfl rfl (i := co k) (by omega) (by decide) d_RC_put_29 ?_
  refine lv_iconst (v := nI 1) hx hb d_RC_put_30 (by decide) ?_
  refine lv_iload_n hx hb d_RC_put_31 rfl (lv_at hl 2 rfl) ?_
  refine nr_ishl1 hx hb d_RC_put_32 (by omega) ?_
  refine nr_ior hx hb d_RC_put_33 ?_
  refine nr_iast hx hb hK hP hD hS 7 0 rfl rfl (i := co k) (x := (uc (co k)) ||| (2 ^ v)) (by omega) (by decide) d_RC_put_34 (fun H locs hP hD hS => ?_)
  have hP : va_P D classes [(a, .inr (2, [.int (nI n), .int (nI g), .int (nI sh), .int (nI al), .ref b1, .ref b2, .ref b3, .ref b4, .ref b5, .ref b6, .ref b7, .ref b8, .ref b9, .ref b10, .int (nI fd)])), (b1, .inl (cI, 36, .inl (nA fx))), (b2, .inl (cI, 36, .inl (nA le))), (b3, .inl (cI, 36, .inl (nA (va_up tr k v)))), (b4, .inl (cI, 36, .inl (nA wi))), (b5, .inl (cI, 36, .inl (nA co))), (b6, .inl (cI, 36, .inl (nA ro))), (b7, .inl (cI, 6, .inl (nA (va_up uc (co k) ((uc (co k)) ||| (2 ^ v)))))), (b8, .inl (cI, 6, .inl (nA ur))), (b9, .inl (cI, 6, .inl (nA pm))), (b10, .inl (cI, 6, .inl (nA qm)))] H := hP
  have hD : va_D A [(a, .inr (2, [.int (nI n), .int (nI g), .int (nI sh), .int (nI al), .ref b1, .ref b2, .ref b3, .ref b4, .ref b5, .ref b6, .ref b7, .ref b8, .ref b9, .ref b10, .int (nI fd)])), (b1, .inl (cI, 36, .inl (nA fx))), (b2, .inl (cI, 36, .inl (nA le))), (b3, .inl (cI, 36, .inl (nA (va_up tr k v)))), (b4, .inl (cI, 36, .inl (nA wi))), (b5, .inl (cI, 36, .inl (nA co))), (b6, .inl (cI, 36, .inl (nA ro))), (b7, .inl (cI, 6, .inl (nA (va_up uc (co k) ((uc (co k)) ||| (2 ^ v)))))), (b8, .inl (cI, 6, .inl (nA ur))), (b9, .inl (cI, 6, .inl (nA pm))), (b10, .inl (cI, 6, .inl (nA qm)))] := hD
  refine lv_aload_n hx hb d_RC_put_35 rfl (lv_at hl 0 rfl) ?_
  refine va_get (D := D) (ci := 2) (v := .ref b8) (C := R_RC) (T := F_RC) (N := 15) hx hb ho j_RC hown hK hP 0 rfl rfl 11 (by decide) (ho _ kf_RC_33) (fun _ h9 => h9) rfl d_RC_put_36 ?_
  refine lv_aload_n hx hb d_RC_put_39 rfl (lv_at hl 0 rfl) ?_
  refine va_get (D := D) (ci := 2) (v := .ref b6) (C := R_RC) (T := F_RC) (N := 15) hx hb ho j_RC hown hK hP 0 rfl rfl 9 (by decide) (ho _ kf_RC_27) (fun _ h9 => h9) rfl d_RC_put_40 ?_
  refine lv_iload_n hx hb d_RC_put_43 rfl (lv_at hl 1 rfl) ?_
  refine nr_ialdN hx hb hK hP 6 0 rfl rfl (i := k) (by omega) (by decide) d_RC_put_44 ?_
  refine lv_dup2_11 hx hb d_RC_put_45 rfl rfl ?_
  refine nr_ialdN hx hb hK hP 8 0 rfl rfl (i := ro k) (by omega) (by decide) d_RC_put_46 ?_
  refine lv_iconst (v := nI 1) hx hb d_RC_put_47 (by decide) ?_
  refine lv_iload_n hx hb d_RC_put_48 rfl (lv_at hl 2 rfl) ?_
  refine nr_ishl1 hx hb d_RC_put_49 (by omega) ?_
  refine nr_ior hx hb d_RC_put_50 ?_
  refine nr_iast hx hb hK hP hD hS 8 0 rfl rfl (i := ro k) (x := (ur (ro k)) ||| (2 ^ v)) (by omega) (by decide) d_RC_put_51 (fun H locs hP hD hS => ?_)
  have hP : va_P D classes [(a, .inr (2, [.int (nI n), .int (nI g), .int (nI sh), .int (nI al), .ref b1, .ref b2, .ref b3, .ref b4, .ref b5, .ref b6, .ref b7, .ref b8, .ref b9, .ref b10, .int (nI fd)])), (b1, .inl (cI, 36, .inl (nA fx))), (b2, .inl (cI, 36, .inl (nA le))), (b3, .inl (cI, 36, .inl (nA (va_up tr k v)))), (b4, .inl (cI, 36, .inl (nA wi))), (b5, .inl (cI, 36, .inl (nA co))), (b6, .inl (cI, 36, .inl (nA ro))), (b7, .inl (cI, 6, .inl (nA (va_up uc (co k) ((uc (co k)) ||| (2 ^ v)))))), (b8, .inl (cI, 6, .inl (nA (va_up ur (ro k) ((ur (ro k)) ||| (2 ^ v)))))), (b9, .inl (cI, 6, .inl (nA pm))), (b10, .inl (cI, 6, .inl (nA qm)))] H := hP
  have hD : va_D A [(a, .inr (2, [.int (nI n), .int (nI g), .int (nI sh), .int (nI al), .ref b1, .ref b2, .ref b3, .ref b4, .ref b5, .ref b6, .ref b7, .ref b8, .ref b9, .ref b10, .int (nI fd)])), (b1, .inl (cI, 36, .inl (nA fx))), (b2, .inl (cI, 36, .inl (nA le))), (b3, .inl (cI, 36, .inl (nA (va_up tr k v)))), (b4, .inl (cI, 36, .inl (nA wi))), (b5, .inl (cI, 36, .inl (nA co))), (b6, .inl (cI, 36, .inl (nA ro))), (b7, .inl (cI, 6, .inl (nA (va_up uc (co k) ((uc (co k)) ||| (2 ^ v)))))), (b8, .inl (cI, 6, .inl (nA (va_up ur (ro k) ((ur (ro k)) ||| (2 ^ v)))))), (b9, .inl (cI, 6, .inl (nA pm))), (b10, .inl (cI, 6, .inl (nA qm)))] := hD
  exact rt_v E hP hD hS rfl d_RC_put_52
set_option maxHeartbeats 1000000 in
set_option maxRecDepth 100000 in
theorem c_RC_take (l : Launch) (D : va_G) (cI cL : ClassId) (a b1 b2 b3 b4 b5 b6 b7 b8 b9 b10 n g sh al fd : Nat) (fx le tr wi co ro uc ur pm qm : Nat → Nat) (k v : Nat) (hk : k < 36) (hv : v < 32) (hco : ∀ k, co k < 6) (hro : ∀ k, ro k < 6) : CV l y_RC_take (.code y_RC_take b_RC_take 3 none :: Om) { frames := 0, cells := 0, slots := 0, locals := 0 } D [(a, .inr (2, [.int (nI n), .int (nI g), .int (nI sh), .int (nI al), .ref b1, .ref b2, .ref b3, .ref b4, .ref b5, .ref b6, .ref b7, .ref b8, .ref b9, .ref b10, .int (nI fd)])), (b1, .inl (cI, 36, .inl (nA fx))), (b2, .inl (cI, 36, .inl (nA le))), (b3, .inl (cI, 36, .inl (nA tr))), (b4, .inl (cI, 36, .inl (nA wi))), (b5, .inl (cI, 36, .inl (nA co))), (b6, .inl (cI, 36, .inl (nA ro))), (b7, .inl (cI, 6, .inl (nA uc))), (b8, .inl (cI, 6, .inl (nA ur))), (b9, .inl (cI, 6, .inl (nA pm))), (b10, .inl (cI, 6, .inl (nA qm)))] [(cI, .int), (cL, .long)] [.ref a, .int (nI k), .int (nI v)] (fun u => u = [(a, .inr (2, [.int (nI n), .int (nI g), .int (nI sh), .int (nI al), .ref b1, .ref b2, .ref b3, .ref b4, .ref b5, .ref b6, .ref b7, .ref b8, .ref b9, .ref b10, .int (nI fd)])), (b1, .inl (cI, 36, .inl (nA fx))), (b2, .inl (cI, 36, .inl (nA le))), (b3, .inl (cI, 36, .inl (nA (va_up tr k 0)))), (b4, .inl (cI, 36, .inl (nA wi))), (b5, .inl (cI, 36, .inl (nA co))), (b6, .inl (cI, 36, .inl (nA ro))), (b7, .inl (cI, 6, .inl (nA (rTake uc (co k) v)))), (b8, .inl (cI, 6, .inl (nA (rTake ur (ro k) v)))), (b9, .inl (cI, 6, .inl (nA pm))), (b10, .inl (cI, 6, .inl (nA qm)))]) := by
  refine en_of (cc := b_RC_take) (Qc := qV D [(cI, .int), (cL, .long)] (fun u => u = [(a, .inr (2, [.int (nI n), .int (nI g), .int (nI sh), .int (nI al), .ref b1, .ref b2, .ref b3, .ref b4, .ref b5, .ref b6, .ref b7, .ref b8, .ref b9, .ref b10, .int (nI fd)])), (b1, .inl (cI, 36, .inl (nA fx))), (b2, .inl (cI, 36, .inl (nA le))), (b3, .inl (cI, 36, .inl (nA (va_up tr k 0)))), (b4, .inl (cI, 36, .inl (nA wi))), (b5, .inl (cI, 36, .inl (nA co))), (b6, .inl (cI, 36, .inl (nA ro))), (b7, .inl (cI, 6, .inl (nA (rTake uc (co k) v)))), (b8, .inl (cI, 6, .inl (nA (rTake ur (ro k) v)))), (b9, .inl (cI, 6, .inl (nA pm))), (b10, .inl (cI, 6, .inl (nA qm)))])) (by decide) rfl (Nat.le_of_ble_eq_true rfl) ?_
  intro p e s m below meth c A E hnm hP hD hS ls hl
  have hl : lv_has ls 3 [(0, .ref a), (1, .int (nI k)), (2, .int (nI v))] := hl
  obtain ⟨hx, hb, hml, hown, hts, hr, hlk, hA, hK, hN⟩ := id E
  have ho : ∀ q ∈ Om, q.before _ s = true := fun q h => hts q (List.mem_cons_of_mem _ h)
  have hk1 := hco k
  have hk2 := hro k
  refine lv_iload_n hx hb d_RC_take_0 rfl (lv_at hl 1 rfl) ?_
  refine nr_if_lt (tgt := 10) hx hb d_RC_take_1 (by decide) (by omega) ?_
  refine lv_iload_n hx hb d_RC_take_4 rfl (lv_at hl 1 rfl) ?_
  refine lv_bipush (v := nI 36) hx hb d_RC_take_5 (by decide) ?_
  refine nr_icmp_lt (tgt := 11) hx hb d_RC_take_7 (by decide) (by omega) (by omega) (fun _ => ?_) (fun h9 => absurd h9 (by omega))
  refine lv_aload_n hx hb d_RC_take_11 rfl (lv_at hl 0 rfl) ?_
  refine va_get (D := D) (ci := 2) (v := .ref b3) (C := R_RC) (T := F_RC) (N := 15) hx hb ho j_RC hown hK hP 0 rfl rfl 6 (by decide) (ho _ kf_RC_18) (fun _ h9 => h9) rfl d_RC_take_12 ?_
  refine lv_iload_n hx hb d_RC_take_15 rfl (lv_at hl 1 rfl) ?_
  refine lv_iconst (v := nI 0) hx hb d_RC_take_16 (by decide) ?_
  refine nr_iast hx hb hK hP hD hS 3 0 rfl rfl (i := k) (x := 0) (by omega) (by decide) d_RC_take_17 (fun H locs hP hD hS => ?_)
  have hP : va_P D classes [(a, .inr (2, [.int (nI n), .int (nI g), .int (nI sh), .int (nI al), .ref b1, .ref b2, .ref b3, .ref b4, .ref b5, .ref b6, .ref b7, .ref b8, .ref b9, .ref b10, .int (nI fd)])), (b1, .inl (cI, 36, .inl (nA fx))), (b2, .inl (cI, 36, .inl (nA le))), (b3, .inl (cI, 36, .inl (nA (va_up tr k 0)))), (b4, .inl (cI, 36, .inl (nA wi))), (b5, .inl (cI, 36, .inl (nA co))), (b6, .inl (cI, 36, .inl (nA ro))), (b7, .inl (cI, 6, .inl (nA uc))), (b8, .inl (cI, 6, .inl (nA ur))), (b9, .inl (cI, 6, .inl (nA pm))), (b10, .inl (cI, 6, .inl (nA qm)))] H := hP
  have hD : va_D A [(a, .inr (2, [.int (nI n), .int (nI g), .int (nI sh), .int (nI al), .ref b1, .ref b2, .ref b3, .ref b4, .ref b5, .ref b6, .ref b7, .ref b8, .ref b9, .ref b10, .int (nI fd)])), (b1, .inl (cI, 36, .inl (nA fx))), (b2, .inl (cI, 36, .inl (nA le))), (b3, .inl (cI, 36, .inl (nA (va_up tr k 0)))), (b4, .inl (cI, 36, .inl (nA wi))), (b5, .inl (cI, 36, .inl (nA co))), (b6, .inl (cI, 36, .inl (nA ro))), (b7, .inl (cI, 6, .inl (nA uc))), (b8, .inl (cI, 6, .inl (nA ur))), (b9, .inl (cI, 6, .inl (nA pm))), (b10, .inl (cI, 6, .inl (nA qm)))] := hD
  refine lv_aload_n hx hb d_RC_take_18 rfl (lv_at hl 0 rfl) ?_
  refine va_get (D := D) (ci := 2) (v := .ref b7) (C := R_RC) (T := F_RC) (N := 15) hx hb ho j_RC hown hK hP 0 rfl rfl 10 (by decide) (ho _ kf_RC_30) (fun _ h9 => h9) rfl d_RC_take_19 ?_
  refine lv_aload_n hx hb d_RC_take_22 rfl (lv_at hl 0 rfl) ?_
  refine va_get (D := D) (ci := 2) (v := .ref b5) (C := R_RC) (T := F_RC) (N := 15) hx hb ho j_RC hown hK hP 0 rfl rfl 8 (by decide) (ho _ kf_RC_24) (fun _ h9 => h9) rfl d_RC_take_23 ?_
  refine lv_iload_n hx hb d_RC_take_26 rfl (lv_at hl 1 rfl) ?_
  refine nr_ialdN hx hb hK hP 5 0 rfl rfl (i := k) (by omega) (by decide) d_RC_take_27 ?_
  refine lv_dup2_11 hx hb d_RC_take_28 rfl rfl ?_
  refine nr_ialdN hx hb hK hP 7 0 rfl rfl (i := co k) (by omega) (by decide) d_RC_take_29 ?_
  refine lv_iconst (v := nI 1) hx hb d_RC_take_30 (by decide) ?_
  refine lv_iload_n hx hb d_RC_take_31 rfl (lv_at hl 2 rfl) ?_
  refine nr_ishl1 hx hb d_RC_take_32 (by omega) ?_
  refine lv_iconst (v := nI 4294967295) hx hb d_RC_take_33 (by decide) ?_
  refine nr_ixor hx hb d_RC_take_34 ?_
  refine nr_iand hx hb d_RC_take_35 ?_
  refine nr_iast hx hb hK hP hD hS 7 0 rfl rfl (i := co k) (x := (uc (co k)) &&& ((2 ^ v) ^^^ 4294967295)) (by omega) (by decide) d_RC_take_36 (fun H locs hP hD hS => ?_)
  have hP : va_P D classes [(a, .inr (2, [.int (nI n), .int (nI g), .int (nI sh), .int (nI al), .ref b1, .ref b2, .ref b3, .ref b4, .ref b5, .ref b6, .ref b7, .ref b8, .ref b9, .ref b10, .int (nI fd)])), (b1, .inl (cI, 36, .inl (nA fx))), (b2, .inl (cI, 36, .inl (nA le))), (b3, .inl (cI, 36, .inl (nA (va_up tr k 0)))), (b4, .inl (cI, 36, .inl (nA wi))), (b5, .inl (cI, 36, .inl (nA co))), (b6, .inl (cI, 36, .inl (nA ro))), (b7, .inl (cI, 6, .inl (nA (va_up uc (co k) ((uc (co k)) &&& ((2 ^ v) ^^^ 4294967295)))))), (b8, .inl (cI, 6, .inl (nA ur))), (b9, .inl (cI, 6, .inl (nA pm))), (b10, .inl (cI, 6, .inl (nA qm)))] H := hP
  have hD : va_D A [(a, .inr (2, [.int (nI n), .int (nI g), .int (nI sh), .int (nI al), .ref b1, .ref b2, .ref b3, .ref b4, .ref b5, .ref b6, .ref b7, .ref b8, .ref b9, .ref b10, .int (nI fd)])), (b1, .inl (cI, 36, .inl (nA fx))), (b2, .inl (cI, 36, .inl (nA le))), (b3, .inl (cI, 36, .inl (nA (va_up tr k 0)))), (b4, .inl (cI, 36, .inl (nA wi))), (b5, .inl (cI, 36, .inl (nA co))), (b6, .inl (cI, 36, .inl (nA ro))), (b7, .inl (cI, 6, .inl (nA (va_up uc (co k) ((uc (co k)) &&& ((2 ^ v) ^^^ 4294967295)))))), (b8, .inl (cI, 6, .inl (nA ur))), (b9, .inl (cI, 6, .inl (nA pm))), (b10, .inl (cI, 6, .inl (nA qm)))] := hD
  refine lv_aload_n hx hb d_RC_take_37 rfl (lv_at hl 0 rfl) ?_
  refine va_get (D := D) (ci := 2) (v := .ref b8) (C := R_RC) (T := F_RC) (N := 15) hx hb ho j_RC hown hK hP 0 rfl rfl 11 (by decide) (ho _ kf_RC_33) (fun _ h9 => h9) rfl d_RC_take_38 ?_
  refine lv_aload_n hx hb d_RC_take_41 rfl (lv_at hl 0 rfl) ?_
  refine va_get (D := D) (ci := 2) (v := .ref b6) (C := R_RC) (T := F_RC) (N := 15) hx hb ho j_RC hown hK hP 0 rfl rfl 9 (by decide) (ho _ kf_RC_27) (fun _ h9 => h9) rfl d_RC_take_42 ?_
  refine lv_iload_n hx hb d_RC_take_45 rfl (lv_at hl 1 rfl) ?_
  refine nr_ialdN hx hb hK hP 6 0 rfl rfl (i := k) (by omega) (by decide) d_RC_take_46 ?_
  refine lv_dup2_11 hx hb d_RC_take_47 rfl rfl ?_
  refine nr_ialdN hx hb hK hP 8 0 rfl rfl (i := ro k) (by omega) (by decide) d_RC_take_48 ?_
  refine lv_iconst (v := nI 1) hx hb d_RC_take_49 (by decide) ?_
  refine lv_iload_n hx hb d_RC_take_50 rfl (lv_at hl 2 rfl) ?_
  refine nr_ishl1 hx hb d_RC_take_51 (by omega) ?_
  refine lv_iconst (v := nI 4294967295) hx hb d_RC_take_52 (by decide) ?_
  refine nr_ixor hx hb d_RC_take_53 ?_
  refine nr_iand hx hb d_RC_take_54 ?_
  refine nr_iast hx hb hK hP hD hS 8 0 rfl rfl (i := ro k) (x := (ur (ro k)) &&& ((2 ^ v) ^^^ 4294967295)) (by omega) (by decide) d_RC_take_55 (fun H locs hP hD hS => ?_)
  have hP : va_P D classes [(a, .inr (2, [.int (nI n), .int (nI g), .int (nI sh), .int (nI al), .ref b1, .ref b2, .ref b3, .ref b4, .ref b5, .ref b6, .ref b7, .ref b8, .ref b9, .ref b10, .int (nI fd)])), (b1, .inl (cI, 36, .inl (nA fx))), (b2, .inl (cI, 36, .inl (nA le))), (b3, .inl (cI, 36, .inl (nA (va_up tr k 0)))), (b4, .inl (cI, 36, .inl (nA wi))), (b5, .inl (cI, 36, .inl (nA co))), (b6, .inl (cI, 36, .inl (nA ro))), (b7, .inl (cI, 6, .inl (nA (va_up uc (co k) ((uc (co k)) &&& ((2 ^ v) ^^^ 4294967295)))))), (b8, .inl (cI, 6, .inl (nA (va_up ur (ro k) ((ur (ro k)) &&& ((2 ^ v) ^^^ 4294967295)))))), (b9, .inl (cI, 6, .inl (nA pm))), (b10, .inl (cI, 6, .inl (nA qm)))] H := hP
  have hD : va_D A [(a, .inr (2, [.int (nI n), .int (nI g), .int (nI sh), .int (nI al), .ref b1, .ref b2, .ref b3, .ref b4, .ref b5, .ref b6, .ref b7, .ref b8, .ref b9, .ref b10, .int (nI fd)])), (b1, .inl (cI, 36, .inl (nA fx))), (b2, .inl (cI, 36, .inl (nA le))), (b3, .inl (cI, 36, .inl (nA (va_up tr k 0)))), (b4, .inl (cI, 36, .inl (nA wi))), (b5, .inl (cI, 36, .inl (nA co))), (b6, .inl (cI, 36, .inl (nA ro))), (b7, .inl (cI, 6, .inl (nA (va_up uc (co k) ((uc (co k)) &&& ((2 ^ v) ^^^ 4294967295)))))), (b8, .inl (cI, 6, .inl (nA (va_up ur (ro k) ((ur (ro k)) &&& ((2 ^ v) ^^^ 4294967295)))))), (b9, .inl (cI, 6, .inl (nA pm))), (b10, .inl (cI, 6, .inl (nA qm)))] := hD
  exact rt_v E hP hD hS rfl d_RC_take_56
def rAl (g : Nat) (x : Int32) : Nat := if x < 0 ∨ nI g < x then 0 else 1
set_option maxHeartbeats 1000000 in
set_option maxRecDepth 100000 in
theorem c_RC_allows (l : Launch) (D : va_G) (cI cL : ClassId) (a b1 b2 b3 b4 b5 b6 b7 b8 b9 b10 n g sh al fd : Nat) (fx le tr wi co ro uc ur pm qm : Nat → Nat) (x : Int32) : CI l y_RC_allows (.code y_RC_allows b_RC_allows 2 (some .boolean) :: Om) { frames := 0, cells := 0, slots := 0, locals := 0 } D [(a, .inr (2, [.int (nI n), .int (nI g), .int (nI sh), .int (nI al), .ref b1, .ref b2, .ref b3, .ref b4, .ref b5, .ref b6, .ref b7, .ref b8, .ref b9, .ref b10, .int (nI fd)])), (b1, .inl (cI, 36, .inl (nA fx))), (b2, .inl (cI, 36, .inl (nA le))), (b3, .inl (cI, 36, .inl (nA tr))), (b4, .inl (cI, 36, .inl (nA wi))), (b5, .inl (cI, 36, .inl (nA co))), (b6, .inl (cI, 36, .inl (nA ro))), (b7, .inl (cI, 6, .inl (nA uc))), (b8, .inl (cI, 6, .inl (nA ur))), (b9, .inl (cI, 6, .inl (nA pm))), (b10, .inl (cI, 6, .inl (nA qm)))] [(cI, .int), (cL, .long)] [.ref a, .int x] (fun r u => r = nI (rAl g x) ∧ u = [(a, .inr (2, [.int (nI n), .int (nI g), .int (nI sh), .int (nI al), .ref b1, .ref b2, .ref b3, .ref b4, .ref b5, .ref b6, .ref b7, .ref b8, .ref b9, .ref b10, .int (nI fd)])), (b1, .inl (cI, 36, .inl (nA fx))), (b2, .inl (cI, 36, .inl (nA le))), (b3, .inl (cI, 36, .inl (nA tr))), (b4, .inl (cI, 36, .inl (nA wi))), (b5, .inl (cI, 36, .inl (nA co))), (b6, .inl (cI, 36, .inl (nA ro))), (b7, .inl (cI, 6, .inl (nA uc))), (b8, .inl (cI, 6, .inl (nA ur))), (b9, .inl (cI, 6, .inl (nA pm))), (b10, .inl (cI, 6, .inl (nA qm)))]) := by
  refine en_of (cc := b_RC_allows) (Qc := qI D [(cI, .int), (cL, .long)] (fun r u => r = nI (rAl g x) ∧ u = [(a, .inr (2, [.int (nI n), .int (nI g), .int (nI sh), .int (nI al), .ref b1, .ref b2, .ref b3, .ref b4, .ref b5, .ref b6, .ref b7, .ref b8, .ref b9, .ref b10, .int (nI fd)])), (b1, .inl (cI, 36, .inl (nA fx))), (b2, .inl (cI, 36, .inl (nA le))), (b3, .inl (cI, 36, .inl (nA tr))), (b4, .inl (cI, 36, .inl (nA wi))), (b5, .inl (cI, 36, .inl (nA co))), (b6, .inl (cI, 36, .inl (nA ro))), (b7, .inl (cI, 6, .inl (nA uc))), (b8, .inl (cI, 6, .inl (nA ur))), (b9, .inl (cI, 6, .inl (nA pm))), (b10, .inl (cI, 6, .inl (nA qm)))])) (by decide) rfl (Nat.le_of_ble_eq_true rfl) ?_
  intro p e s m below meth c A E hnm hP hD hS ls hl
  have hl : lv_has ls 2 [(0, .ref a), (1, .int x)] := hl
  obtain ⟨hx, hb, hml, hown, hts, hr, hlk, hA, hK, hN⟩ := id E
  have ho : ∀ q ∈ Om, q.before _ s = true := fun q h => hts q (List.mem_cons_of_mem _ h)
  refine lv_iload_n hx hb d_RC_allows_0 rfl (lv_at hl 1 rfl) ?_
  refine lv_if_lt (tgt := 16) hx hb d_RC_allows_1 (by decide) (fun h_1 => ?_) (fun h_1 => ?_)
  · refine lv_iconst (v := nI 0) hx hb d_RC_allows_16 (by decide) ?_
    exact rt_z E hP hD hS (by decide) ⟨by unfold rAl; simp [h_1], rfl⟩ d_RC_allows_17
  · refine lv_iload_n hx hb d_RC_allows_4 rfl (lv_at hl 1 rfl) ?_
    refine lv_aload_n hx hb d_RC_allows_5 rfl (lv_at hl 0 rfl) ?_
    refine va_get (D := D) (ci := 2) (v := .int (nI g)) (C := R_RC) (T := F_RC) (N := 15) hx hb ho j_RC hown hK hP 0 rfl rfl 1 (by decide) (ho _ kf_RC_55) (fun _ h9 => h9) rfl d_RC_allows_6 ?_
    refine lv_icmp_gt (tgt := 16) hx hb d_RC_allows_9 (by decide) (fun h_2 => ?_) (fun h_2 => ?_)
    · refine lv_iconst (v := nI 0) hx hb d_RC_allows_16 (by decide) ?_
      exact rt_z E hP hD hS (by decide) ⟨by unfold rAl; simp [h_1, h_2], rfl⟩ d_RC_allows_17
    · refine lv_iconst (v := nI 1) hx hb d_RC_allows_12 (by decide) ?_
      refine lv_goto (tgt := 17) hx hb d_RC_allows_13 (by decide) ?_
      exact rt_z E hP hD hS (by decide) ⟨by unfold rAl; simp [h_1, h_2], rfl⟩ d_RC_allows_17
set_option maxHeartbeats 1000000 in
set_option maxRecDepth 100000 in
theorem c_RC_give (l : Launch) (D : va_G) (cI cL : ClassId) (a b1 b2 b3 b4 b5 b6 b7 b8 b9 b10 n g sh al fd : Nat) (fx le tr wi co ro uc ur pm qm : Nat → Nat) (k v : Nat) (hk : k < 36) : CV l y_RC_give (.code y_RC_give b_RC_give 3 none :: Om) { frames := 0, cells := 0, slots := 0, locals := 0 } D [(a, .inr (2, [.int (nI n), .int (nI g), .int (nI sh), .int (nI al), .ref b1, .ref b2, .ref b3, .ref b4, .ref b5, .ref b6, .ref b7, .ref b8, .ref b9, .ref b10, .int (nI fd)])), (b1, .inl (cI, 36, .inl (nA fx))), (b2, .inl (cI, 36, .inl (nA le))), (b3, .inl (cI, 36, .inl (nA tr))), (b4, .inl (cI, 36, .inl (nA wi))), (b5, .inl (cI, 36, .inl (nA co))), (b6, .inl (cI, 36, .inl (nA ro))), (b7, .inl (cI, 6, .inl (nA uc))), (b8, .inl (cI, 6, .inl (nA ur))), (b9, .inl (cI, 6, .inl (nA pm))), (b10, .inl (cI, 6, .inl (nA qm)))] [(cI, .int), (cL, .long)] [.ref a, .int (nI k), .int (nI v)] (fun u => u = [(a, .inr (2, [.int (nI n), .int (nI g), .int (nI sh), .int (nI al), .ref b1, .ref b2, .ref b3, .ref b4, .ref b5, .ref b6, .ref b7, .ref b8, .ref b9, .ref b10, .int (nI 0)])), (b1, .inl (cI, 36, .inl (nA (va_up fx k v)))), (b2, .inl (cI, 36, .inl (nA le))), (b3, .inl (cI, 36, .inl (nA tr))), (b4, .inl (cI, 36, .inl (nA wi))), (b5, .inl (cI, 36, .inl (nA co))), (b6, .inl (cI, 36, .inl (nA ro))), (b7, .inl (cI, 6, .inl (nA uc))), (b8, .inl (cI, 6, .inl (nA ur))), (b9, .inl (cI, 6, .inl (nA pm))), (b10, .inl (cI, 6, .inl (nA qm)))]) := by
  refine en_of (cc := b_RC_give) (Qc := qV D [(cI, .int), (cL, .long)] (fun u => u = [(a, .inr (2, [.int (nI n), .int (nI g), .int (nI sh), .int (nI al), .ref b1, .ref b2, .ref b3, .ref b4, .ref b5, .ref b6, .ref b7, .ref b8, .ref b9, .ref b10, .int (nI 0)])), (b1, .inl (cI, 36, .inl (nA (va_up fx k v)))), (b2, .inl (cI, 36, .inl (nA le))), (b3, .inl (cI, 36, .inl (nA tr))), (b4, .inl (cI, 36, .inl (nA wi))), (b5, .inl (cI, 36, .inl (nA co))), (b6, .inl (cI, 36, .inl (nA ro))), (b7, .inl (cI, 6, .inl (nA uc))), (b8, .inl (cI, 6, .inl (nA ur))), (b9, .inl (cI, 6, .inl (nA pm))), (b10, .inl (cI, 6, .inl (nA qm)))])) (by decide) rfl (Nat.le_of_ble_eq_true rfl) ?_
  intro p e s m below meth c A E hnm hP hD hS ls hl
  have hl : lv_has ls 3 [(0, .ref a), (1, .int (nI k)), (2, .int (nI v))] := hl
  obtain ⟨hx, hb, hml, hown, hts, hr, hlk, hA, hK, hN⟩ := id E
  have ho : ∀ q ∈ Om, q.before _ s = true := fun q h => hts q (List.mem_cons_of_mem _ h)
  refine lv_iload_n hx hb d_RC_give_0 rfl (lv_at hl 1 rfl) ?_
  refine nr_if_lt (tgt := 22) hx hb d_RC_give_1 (by decide) (by omega) ?_
  refine lv_iload_n hx hb d_RC_give_4 rfl (lv_at hl 1 rfl) ?_
  refine lv_bipush (v := nI 36) hx hb d_RC_give_5 (by decide) ?_
  refine nr_icmp_ge (tgt := 22) hx hb d_RC_give_7 (by decide) (by omega) (by omega) (fun h9 => absurd h9 (by omega)) (fun _ => ?_)
  refine lv_aload_n hx hb d_RC_give_10 rfl (lv_at hl 0 rfl) ?_
  refine va_get (D := D) (ci := 2) (v := .ref b1) (C := R_RC) (T := F_RC) (N := 15) hx hb ho j_RC hown hK hP 0 rfl rfl 4 (by decide) (ho _ kf_RC_9) (fun _ h9 => h9) rfl d_RC_give_11 ?_
  refine lv_iload_n hx hb d_RC_give_14 rfl (lv_at hl 1 rfl) ?_
  refine lv_iload_n hx hb d_RC_give_15 rfl (lv_at hl 2 rfl) ?_
  refine nr_iast hx hb hK hP hD hS 1 0 rfl rfl (i := k) (x := v) (by omega) (by decide) d_RC_give_16 (fun H locs hP hD hS => ?_)
  have hP : va_P D classes [(a, .inr (2, [.int (nI n), .int (nI g), .int (nI sh), .int (nI al), .ref b1, .ref b2, .ref b3, .ref b4, .ref b5, .ref b6, .ref b7, .ref b8, .ref b9, .ref b10, .int (nI fd)])), (b1, .inl (cI, 36, .inl (nA (va_up fx k v)))), (b2, .inl (cI, 36, .inl (nA le))), (b3, .inl (cI, 36, .inl (nA tr))), (b4, .inl (cI, 36, .inl (nA wi))), (b5, .inl (cI, 36, .inl (nA co))), (b6, .inl (cI, 36, .inl (nA ro))), (b7, .inl (cI, 6, .inl (nA uc))), (b8, .inl (cI, 6, .inl (nA ur))), (b9, .inl (cI, 6, .inl (nA pm))), (b10, .inl (cI, 6, .inl (nA qm)))] H := hP
  have hD : va_D A [(a, .inr (2, [.int (nI n), .int (nI g), .int (nI sh), .int (nI al), .ref b1, .ref b2, .ref b3, .ref b4, .ref b5, .ref b6, .ref b7, .ref b8, .ref b9, .ref b10, .int (nI fd)])), (b1, .inl (cI, 36, .inl (nA (va_up fx k v)))), (b2, .inl (cI, 36, .inl (nA le))), (b3, .inl (cI, 36, .inl (nA tr))), (b4, .inl (cI, 36, .inl (nA wi))), (b5, .inl (cI, 36, .inl (nA co))), (b6, .inl (cI, 36, .inl (nA ro))), (b7, .inl (cI, 6, .inl (nA uc))), (b8, .inl (cI, 6, .inl (nA ur))), (b9, .inl (cI, 6, .inl (nA pm))), (b10, .inl (cI, 6, .inl (nA qm)))] := hD
  refine lv_aload_n hx hb d_RC_give_17 rfl (lv_at hl 0 rfl) ?_
  refine lv_iconst (v := nI 0) hx hb d_RC_give_18 (by decide) ?_
  refine va_put (D := D) (ci := 2) (v := .int (nI 0)) (ty := .boolean) (C := R_RC) (T := F_RC) (N := 15) hx hb ho j_RC t_RC t_RC_ok n_RC hown hK hP hD hS 0 rfl rfl 14 (by decide) (ho _ kf_RC_64) (fun _ h9 => h9) rfl (by decide +kernel) (by first | rfl | decide | assumption) (by first | rfl | decide | assumption) (Nat.le_of_ble_eq_true rfl) d_RC_give_19 (fun H locs hP hD hS => ?_)
  have hP : va_P D classes [(a, .inr (2, [.int (nI n), .int (nI g), .int (nI sh), .int (nI al), .ref b1, .ref b2, .ref b3, .ref b4, .ref b5, .ref b6, .ref b7, .ref b8, .ref b9, .ref b10, .int (nI 0)])), (b1, .inl (cI, 36, .inl (nA (va_up fx k v)))), (b2, .inl (cI, 36, .inl (nA le))), (b3, .inl (cI, 36, .inl (nA tr))), (b4, .inl (cI, 36, .inl (nA wi))), (b5, .inl (cI, 36, .inl (nA co))), (b6, .inl (cI, 36, .inl (nA ro))), (b7, .inl (cI, 6, .inl (nA uc))), (b8, .inl (cI, 6, .inl (nA ur))), (b9, .inl (cI, 6, .inl (nA pm))), (b10, .inl (cI, 6, .inl (nA qm)))] H := hP
  have hD : va_D A [(a, .inr (2, [.int (nI n), .int (nI g), .int (nI sh), .int (nI al), .ref b1, .ref b2, .ref b3, .ref b4, .ref b5, .ref b6, .ref b7, .ref b8, .ref b9, .ref b10, .int (nI 0)])), (b1, .inl (cI, 36, .inl (nA (va_up fx k v)))), (b2, .inl (cI, 36, .inl (nA le))), (b3, .inl (cI, 36, .inl (nA tr))), (b4, .inl (cI, 36, .inl (nA wi))), (b5, .inl (cI, 36, .inl (nA co))), (b6, .inl (cI, 36, .inl (nA ro))), (b7, .inl (cI, 6, .inl (nA uc))), (b8, .inl (cI, 6, .inl (nA ur))), (b9, .inl (cI, 6, .inl (nA pm))), (b10, .inl (cI, 6, .inl (nA qm)))] := hD
  exact rt_v E hP hD hS rfl d_RC_give_22
set_option maxHeartbeats 1000000 in
set_option maxRecDepth 100000 in
theorem c_RC_foundAt (l : Launch) (D : va_G) (cI cL : ClassId) (a b1 b2 b3 b4 b5 b6 b7 b8 b9 b10 n g sh al fd : Nat) (fx le tr wi co ro uc ur pm qm : Nat → Nat) (k : Nat) (hk : k < 36) (hfd : fd ≤ 1) : CI l y_RC_foundAt (.code y_RC_foundAt b_RC_foundAt 2 (some .int) :: Om) { frames := 0, cells := 0, slots := 0, locals := 0 } D [(a, .inr (2, [.int (nI n), .int (nI g), .int (nI sh), .int (nI al), .ref b1, .ref b2, .ref b3, .ref b4, .ref b5, .ref b6, .ref b7, .ref b8, .ref b9, .ref b10, .int (nI fd)])), (b1, .inl (cI, 36, .inl (nA fx))), (b2, .inl (cI, 36, .inl (nA le))), (b3, .inl (cI, 36, .inl (nA tr))), (b4, .inl (cI, 36, .inl (nA wi))), (b5, .inl (cI, 36, .inl (nA co))), (b6, .inl (cI, 36, .inl (nA ro))), (b7, .inl (cI, 6, .inl (nA uc))), (b8, .inl (cI, 6, .inl (nA ur))), (b9, .inl (cI, 6, .inl (nA pm))), (b10, .inl (cI, 6, .inl (nA qm)))] [(cI, .int), (cL, .long)] [.ref a, .int (nI k)] (fun r u => r = nI (if fd = 0 then 0 else le k) ∧ u = [(a, .inr (2, [.int (nI n), .int (nI g), .int (nI sh), .int (nI al), .ref b1, .ref b2, .ref b3, .ref b4, .ref b5, .ref b6, .ref b7, .ref b8, .ref b9, .ref b10, .int (nI fd)])), (b1, .inl (cI, 36, .inl (nA fx))), (b2, .inl (cI, 36, .inl (nA le))), (b3, .inl (cI, 36, .inl (nA tr))), (b4, .inl (cI, 36, .inl (nA wi))), (b5, .inl (cI, 36, .inl (nA co))), (b6, .inl (cI, 36, .inl (nA ro))), (b7, .inl (cI, 6, .inl (nA uc))), (b8, .inl (cI, 6, .inl (nA ur))), (b9, .inl (cI, 6, .inl (nA pm))), (b10, .inl (cI, 6, .inl (nA qm)))]) := by
  refine en_of (cc := b_RC_foundAt) (Qc := qI D [(cI, .int), (cL, .long)] (fun r u => r = nI (if fd = 0 then 0 else le k) ∧ u = [(a, .inr (2, [.int (nI n), .int (nI g), .int (nI sh), .int (nI al), .ref b1, .ref b2, .ref b3, .ref b4, .ref b5, .ref b6, .ref b7, .ref b8, .ref b9, .ref b10, .int (nI fd)])), (b1, .inl (cI, 36, .inl (nA fx))), (b2, .inl (cI, 36, .inl (nA le))), (b3, .inl (cI, 36, .inl (nA tr))), (b4, .inl (cI, 36, .inl (nA wi))), (b5, .inl (cI, 36, .inl (nA co))), (b6, .inl (cI, 36, .inl (nA ro))), (b7, .inl (cI, 6, .inl (nA uc))), (b8, .inl (cI, 6, .inl (nA ur))), (b9, .inl (cI, 6, .inl (nA pm))), (b10, .inl (cI, 6, .inl (nA qm)))])) (by decide) rfl (Nat.le_of_ble_eq_true rfl) ?_
  intro p e s m below meth c A E hnm hP hD hS ls hl
  have hl : lv_has ls 2 [(0, .ref a), (1, .int (nI k))] := hl
  obtain ⟨hx, hb, hml, hown, hts, hr, hlk, hA, hK, hN⟩ := id E
  have ho : ∀ q ∈ Om, q.before _ s = true := fun q h => hts q (List.mem_cons_of_mem _ h)
  refine lv_aload_n hx hb d_RC_foundAt_0 rfl (lv_at hl 0 rfl) ?_
  refine va_get (D := D) (ci := 2) (v := .int (nI fd)) (C := R_RC) (T := F_RC) (N := 15) hx hb ho j_RC hown hK hP 0 rfl rfl 14 (by decide) (ho _ kf_RC_64) (fun _ h9 => h9) rfl d_RC_foundAt_1 ?_
  refine nr_if_eq (tgt := 26) hx hb d_RC_foundAt_4 (by decide) (by omega) (fun h_1 => ?_) (fun h_1 => ?_)
  · refine lv_iconst (v := nI 0) hx hb d_RC_foundAt_26 (by decide) ?_
    exact rt_i E hP hD hS ⟨by first | rw [if_pos (by omega)] | rw [if_neg (by omega)], rfl⟩ d_RC_foundAt_27
  · refine lv_iload_n hx hb d_RC_foundAt_7 rfl (lv_at hl 1 rfl) ?_
    refine nr_if_lt (tgt := 26) hx hb d_RC_foundAt_8 (by decide) (by omega) ?_
    refine lv_iload_n hx hb d_RC_foundAt_11 rfl (lv_at hl 1 rfl) ?_
    refine lv_bipush (v := nI 36) hx hb d_RC_foundAt_12 (by decide) ?_
    refine nr_icmp_ge (tgt := 26) hx hb d_RC_foundAt_14 (by decide) (by omega) (by omega) (fun h9 => absurd h9 (by omega)) (fun _ => ?_)
    refine lv_aload_n hx hb d_RC_foundAt_17 rfl (lv_at hl 0 rfl) ?_
    refine va_get (D := D) (ci := 2) (v := .ref b2) (C := R_RC) (T := F_RC) (N := 15) hx hb ho j_RC hown hK hP 0 rfl rfl 5 (by decide) (ho _ kf_RC_15) (fun _ h9 => h9) rfl d_RC_foundAt_18 ?_
    refine lv_iload_n hx hb d_RC_foundAt_21 rfl (lv_at hl 1 rfl) ?_
    refine nr_ialdN hx hb hK hP 2 0 rfl rfl (i := k) (by omega) (by decide) d_RC_foundAt_22 ?_
    refine lv_goto (tgt := 27) hx hb d_RC_foundAt_23 (by decide) ?_
    exact rt_i E hP hD hS ⟨by first | rw [if_pos (by omega)] | rw [if_neg (by omega)], rfl⟩ d_RC_foundAt_27
def rLw (f : Nat → Nat) (v : Nat) : Nat → Nat → Nat → Nat
  | 0, _, x => x
  | m + 1, k, x => if k < 6 then rLw f v m (k + 1) (x + f k / 2 ^ v % 2) else x
set_option maxHeartbeats 1000000 in
set_option maxRecDepth 100000 in
theorem L_RC_linesWith {p : Program} {l : Launch} {e : Env} {s : State} {m : MethodId} {args : Array Value} {below : List Frame} {meth : Method} {c : Code} {A : Nat → Prop} {D : va_G} {cI cL : ClassId} {c0 : Cond} {post : Int32 → va_W → Prop} (b v : Nat) (f : Nat → Nat) (hv : v < 32) (hf : ∀ k, f k < 2 ^ 32) (E : En p s m args meth c b_RC_linesWith 7 (c0 :: Om) R_RC (some .int) A D [(cI, .int), (cL, .long)]) : ∀ (n : Nat) (k : Nat) (x : Nat), k ≤ 6 → 6 < k + n → x ≤ k → post (nI (rLw f v n k x)) [(b, .inl (cI, 6, .inl (nA f)))] → ∀ (H : Heap) (locs : List Loc), va_P D classes [(b, .inl (cI, 6, .inl (nA f)))] H → va_D A [(b, .inl (cI, 6, .inl (nA f)))] → va_S A s.heap H locs → ∀ ls : Array Slot, lv_has ls 7 [(1, .int (nI v)), (2, .int (nI x)), (3, .ref b), (4, .int (nI 6)), (5, .int (nI k))] → W p l e { frames := 0, cells := 0, slots := 0, locals := 0 } s m args below meth c H locs 0 0 (MQ below (qI D [(cI, .int), (cL, .long)] post A) args s 0 0 A) (F0 m 11 ls []) := by
  obtain ⟨hx, hb, hml, hown, hts, hr, hlk, hA, hK, hN⟩ := id E
  have ho : ∀ q ∈ Om, q.before _ s = true := fun q h => hts q (List.mem_cons_of_mem _ h)
  intro n
  induction n with
  | zero =>
    intro k x h1 h2 hx1 hq
    exact absurd h2 (by omega)
  | succ n ih =>
    intro k x h1 h2 hx1 hq H locs hP hD hS ls hl
    refine lv_iload hx hb d_RC_linesWith_11 (lv_at hl 4 rfl) ?_
    refine lv_iload hx hb d_RC_linesWith_13 (lv_at hl 3 rfl) ?_
    refine nr_icmp_ge (tgt := 39) hx hb d_RC_linesWith_15 (by decide) (by omega) (by omega) (fun h_1 => ?_) (fun h_1 => ?_)
    · refine lv_iload_n hx hb d_RC_linesWith_39 rfl (lv_at hl 1 rfl) ?_
      exact rt_i E hP hD hS (by rw [rLw, if_neg (by omega)] at hq; exact hq) d_RC_linesWith_40
    · refine lv_aload_n hx hb d_RC_linesWith_18 rfl (lv_at hl 2 rfl) ?_
      refine lv_iload hx hb d_RC_linesWith_19 (lv_at hl 4 rfl) ?_
      have hfk := hf k
      refine nr_ialdN hx hb hK hP 0 0 rfl rfl (i := k) (by omega) (by decide) d_RC_linesWith_21 ?_
      refine lv_istore (lv' := [(6, .int (nI (f k))), (1, .int (nI v)), (2, .int (nI x)), (3, .ref b), (4, .int (nI 6)), (5, .int (nI k))]) hx hb d_RC_linesWith_22 hl (by decide) rfl (fun ls hl => ?_)
      refine lv_iload_n hx hb d_RC_linesWith_24 rfl (lv_at hl 2 rfl) ?_
      refine lv_iload hx hb d_RC_linesWith_25 (lv_at hl 0 rfl) ?_
      refine lv_iload_n hx hb d_RC_linesWith_27 rfl (lv_at hl 1 rfl) ?_
      refine nr_iushr hx hb d_RC_linesWith_28 (by omega) (by omega) ?_
      refine lv_iconst (v := nI 1) hx hb d_RC_linesWith_29 (by decide) ?_
      refine nr_iand1 hx hb d_RC_linesWith_30 ?_
      refine nr_iadd hx hb d_RC_linesWith_31 ?_
      refine lv_istore_n (lv' := [(2, .int (nI (x + (((f k) / 2 ^ v) % 2)))), (6, .int (nI (f k))), (1, .int (nI v)), (3, .ref b), (4, .int (nI 6)), (5, .int (nI k))]) hx hb d_RC_linesWith_32 rfl hl (by decide) rfl (fun ls hl => ?_)
      refine nr_iinc (lv' := [(5, .int (nI (k + 1))), (2, .int (nI (x + (((f k) / 2 ^ v) % 2)))), (6, .int (nI (f k))), (1, .int (nI v)), (3, .ref b), (4, .int (nI 6))]) hx hb d_RC_linesWith_33 hl (k := 5) rfl (by decide) rfl (fun ls hl => ?_)
      refine lv_goto (tgt := 11) hx hb d_RC_linesWith_36 (by decide) ?_
      exact ih (k + 1) (x + f k / 2 ^ v % 2) (by omega) (by omega) (by omega) (by rw [rLw, if_pos (by omega)] at hq; exact hq) _ _ hP hD hS ls (lv_sub hl [3, 1, 4, 5, 0] rfl)
set_option maxHeartbeats 1000000 in
set_option maxRecDepth 100000 in
theorem c_RC_linesWith (l : Launch) (D : va_G) (cI cL : ClassId) (b v : Nat) (f : Nat → Nat) (hv : v < 32) (hf : ∀ k, f k < 2 ^ 32) : CI l y_RC_linesWith (.code y_RC_linesWith b_RC_linesWith 7 (some .int) :: Om) { frames := 0, cells := 0, slots := 0, locals := 0 } D [(b, .inl (cI, 6, .inl (nA f)))] [(cI, .int), (cL, .long)] [.ref b, .int (nI v)] (fun r u => r = nI (rLw f v 7 0 0) ∧ u = [(b, .inl (cI, 6, .inl (nA f)))]) := by
  refine en_of (cc := b_RC_linesWith) (Qc := qI D [(cI, .int), (cL, .long)] (fun r u => r = nI (rLw f v 7 0 0) ∧ u = [(b, .inl (cI, 6, .inl (nA f)))])) (by decide) rfl (Nat.le_of_ble_eq_true rfl) ?_
  intro p e s m below meth c A E hnm hP hD hS ls hl
  have hl : lv_has ls 7 [(0, .ref b), (1, .int (nI v))] := hl
  obtain ⟨hx, hb, hml, hown, hts, hr, hlk, hA, hK, hN⟩ := id E
  have ho : ∀ q ∈ Om, q.before _ s = true := fun q h => hts q (List.mem_cons_of_mem _ h)
  refine lv_iconst (v := nI 0) hx hb d_RC_linesWith_0 (by decide) ?_
  refine lv_istore_n (lv' := [(2, .int (nI 0)), (0, .ref b), (1, .int (nI v))]) hx hb d_RC_linesWith_1 rfl hl (by decide) rfl (fun ls hl => ?_)
  refine lv_aload_n hx hb d_RC_linesWith_2 rfl (lv_at hl 1 rfl) ?_
  refine lv_astore_n (lv' := [(3, .ref b), (2, .int (nI 0)), (0, .ref b), (1, .int (nI v))]) hx hb d_RC_linesWith_3 rfl hl (by decide) rfl (fun ls hl => ?_)
  refine lv_aload_n hx hb d_RC_linesWith_4 rfl (lv_at hl 0 rfl) ?_
  refine va_alen (v := nI 6) hx hb hK hP 0 0 rfl rfl rfl d_RC_linesWith_5 ?_
  refine lv_istore (lv' := [(4, .int (nI 6)), (3, .ref b), (2, .int (nI 0)), (0, .ref b), (1, .int (nI v))]) hx hb d_RC_linesWith_6 hl (by decide) rfl (fun ls hl => ?_)
  refine lv_iconst (v := nI 0) hx hb d_RC_linesWith_8 (by decide) ?_
  refine lv_istore (lv' := [(5, .int (nI 0)), (4, .int (nI 6)), (3, .ref b), (2, .int (nI 0)), (0, .ref b), (1, .int (nI v))]) hx hb d_RC_linesWith_9 hl (by decide) rfl (fun ls hl => ?_)
  exact L_RC_linesWith b v f hv hf E 7 0 0 (by omega) (by omega) (by omega) ⟨rfl, rfl⟩ _ _ hP hD hS ls (lv_sub hl [5, 3, 2, 1, 0] rfl)
end
section
/-! Rectangle: laying what is given, the narrowest cell, the look ahead -/
def rZ : Nat → Nat → Nat → (Nat → Nat) → Nat → Nat
  | 0, _, _, f => f
  | m + 1, k, b, f => if k < b then rZ m (k + 1) b (va_up f k 0) else f
theorem rZ_s {m k b : Nat} {f : Nat → Nat} (h : k < b) : rZ (m + 1) k b f = rZ m (k + 1) b (va_up f k 0) := by rw [rZ, if_pos h]
theorem rZ_e {m k b : Nat} {f : Nat → Nat} (h : ¬ k < b) : rZ (m + 1) k b f = f := by rw [rZ, if_neg h]
abbrev S3 : Type := (Nat → Nat) × (Nat → Nat) × (Nat → Nat)
def rLay (n al : Nat) (fx co ro : Nat → Nat) : Nat → Nat → S3 → Nat × S3
  | 0, _, st => (1, st)
  | m + 1, k, st => if k < n then (if fx k = 0 then rLay n al fx co ro m (k + 1) st else if rCh al co ro st.2.1 st.2.2 k / 2 ^ fx k % 2 = 0 then (0, st) else rLay n al fx co ro m (k + 1) (va_up st.1 k (fx k), rPut st.2.1 (co k) (fx k), rPut st.2.2 (ro k) (fx k))) else (1, st)
set_option maxHeartbeats 1000000 in
set_option maxRecDepth 100000 in
theorem L_RC_lay3 {p : Program} {l : Launch} {e : Env} {s : State} {m : MethodId} {args : Array Value} {below : List Frame} {meth : Method} {c : Code} {A : Nat → Prop} {D : va_G} {cI cL : ClassId} {c0 : Cond} {post : Int32 → va_W → Prop} (a b1 b2 b3 b4 b5 b6 b7 b8 b9 b10 n g sh al fd : Nat) (fx le wi co ro pm qm : Nat → Nat) (hco : ∀ k, co k < 6) (hro : ∀ k, ro k < 6) (hn : n ≤ 36) (hal : al < 128) (hfx : ∀ k, fx k < 7) (E : En p s m args meth c b_RC_layGiven 3 (c0 :: Om) R_RC (some .boolean) A D [(cI, .int), (cL, .long)]) : ∀ (m1 : Nat) (k : Nat) (tr : Nat → Nat) (uc : Nat → Nat) (ur : Nat → Nat), k ≤ n → n < k + m1 → post (nI (rLay n al fx co ro m1 k (tr, uc, ur)).1) [(a, .inr (2, [.int (nI n), .int (nI g), .int (nI sh), .int (nI al), .ref b1, .ref b2, .ref b3, .ref b4, .ref b5, .ref b6, .ref b7, .ref b8, .ref b9, .ref b10, .int (nI fd)])), (b1, .inl (cI, 36, .inl (nA fx))), (b2, .inl (cI, 36, .inl (nA le))), (b3, .inl (cI, 36, .inl (nA ((rLay n al fx co ro m1 k (tr, uc, ur)).2.1)))), (b4, .inl (cI, 36, .inl (nA wi))), (b5, .inl (cI, 36, .inl (nA co))), (b6, .inl (cI, 36, .inl (nA ro))), (b7, .inl (cI, 6, .inl (nA ((rLay n al fx co ro m1 k (tr, uc, ur)).2.2.1)))), (b8, .inl (cI, 6, .inl (nA ((rLay n al fx co ro m1 k (tr, uc, ur)).2.2.2)))), (b9, .inl (cI, 6, .inl (nA pm))), (b10, .inl (cI, 6, .inl (nA qm)))] → ∀ (H : Heap) (locs : List Loc), va_P D classes [(a, .inr (2, [.int (nI n), .int (nI g), .int (nI sh), .int (nI al), .ref b1, .ref b2, .ref b3, .ref b4, .ref b5, .ref b6, .ref b7, .ref b8, .ref b9, .ref b10, .int (nI fd)])), (b1, .inl (cI, 36, .inl (nA fx))), (b2, .inl (cI, 36, .inl (nA le))), (b3, .inl (cI, 36, .inl (nA tr))), (b4, .inl (cI, 36, .inl (nA wi))), (b5, .inl (cI, 36, .inl (nA co))), (b6, .inl (cI, 36, .inl (nA ro))), (b7, .inl (cI, 6, .inl (nA uc))), (b8, .inl (cI, 6, .inl (nA ur))), (b9, .inl (cI, 6, .inl (nA pm))), (b10, .inl (cI, 6, .inl (nA qm)))] H → va_D A [(a, .inr (2, [.int (nI n), .int (nI g), .int (nI sh), .int (nI al), .ref b1, .ref b2, .ref b3, .ref b4, .ref b5, .ref b6, .ref b7, .ref b8, .ref b9, .ref b10, .int (nI fd)])), (b1, .inl (cI, 36, .inl (nA fx))), (b2, .inl (cI, 36, .inl (nA le))), (b3, .inl (cI, 36, .inl (nA tr))), (b4, .inl (cI, 36, .inl (nA wi))), (b5, .inl (cI, 36, .inl (nA co))), (b6, .inl (cI, 36, .inl (nA ro))), (b7, .inl (cI, 6, .inl (nA uc))), (b8, .inl (cI, 6, .inl (nA ur))), (b9, .inl (cI, 6, .inl (nA pm))), (b10, .inl (cI, 6, .inl (nA qm)))] → va_S A s.heap H locs → ∀ ls : Array Slot, lv_has ls 3 [(0, .ref a), (1, .int (nI k))] → W p l e { frames := 1, cells := 0, slots := 0, locals := 22 } s m args below meth c H locs 0 0 (MQ below (qI D [(cI, .int), (cL, .long)] post A) args s 0 0 A) (F0 m 53 ls []) := by
  obtain ⟨hx, hb, hml, hown, hts, hr, hlk, hA, hK, hN⟩ := id E
  have ho : ∀ q ∈ Om, q.before _ s = true := fun q h => hts q (List.mem_cons_of_mem _ h)
  intro m1
  induction m1 with
  | zero =>
    intro k tr uc ur h1 h2 hq
    exact absurd h2 (by omega)
  | succ m1 ih =>
    intro k tr uc ur h1 h2 hq H locs hP hD hS ls hl
    refine lv_iload_n hx hb d_RC_layGiven_53 rfl (lv_at hl 1 rfl) ?_
    refine lv_aload_n hx hb d_RC_layGiven_54 rfl (lv_at hl 0 rfl) ?_
    refine va_get (D := D) (ci := 2) (v := .int (nI n)) (C := R_RC) (T := F_RC) (N := 15) hx hb ho j_RC hown hK hP 0 rfl rfl 0 (by decide) (ho _ kf_RC_48) (fun _ h9 => h9) rfl d_RC_layGiven_55 ?_
    refine nr_icmp_ge (tgt := 98) hx hb d_RC_layGiven_58 (by decide) (by omega) (by omega) (fun h_1 => ?_) (fun h_1 => ?_)
    · refine lv_iconst (v := nI 1) hx hb d_RC_layGiven_98 (by decide) ?_
      exact rt_z E hP hD hS (by decide) (by rw [rLay] at hq; dsimp only at hq; rw [if_neg (by omega)] at hq; exact hq) d_RC_layGiven_99
    · refine lv_aload_n hx hb d_RC_layGiven_61 rfl (lv_at hl 0 rfl) ?_
      refine va_get (D := D) (ci := 2) (v := .ref b1) (C := R_RC) (T := F_RC) (N := 15) hx hb ho j_RC hown hK hP 0 rfl rfl 4 (by decide) (ho _ kf_RC_9) (fun _ h9 => h9) rfl d_RC_layGiven_62 ?_
      refine lv_iload_n hx hb d_RC_layGiven_65 rfl (lv_at hl 1 rfl) ?_
      have hfk := hfx k
      refine nr_ialdN hx hb hK hP 1 0 rfl rfl (i := k) (by omega) (by decide) d_RC_layGiven_66 ?_
      refine lv_istore_n (lv' := [(2, .int (nI (fx k))), (0, .ref a), (1, .int (nI k))]) hx hb d_RC_layGiven_67 rfl hl (by decide) rfl (fun ls hl => ?_)
      refine lv_iload_n hx hb d_RC_layGiven_68 rfl (lv_at hl 0 rfl) ?_
      refine nr_if_eq (tgt := 92) hx hb d_RC_layGiven_69 (by decide) (by omega) (fun h_2 => ?_) (fun h_2 => ?_)
      · refine nr_iinc (lv' := [(1, .int (nI (k + 1))), (2, .int (nI (fx k))), (0, .ref a)]) hx hb d_RC_layGiven_92 hl (k := 2) rfl (by decide) rfl (fun ls hl => ?_)
        refine lv_goto (tgt := 53) hx hb d_RC_layGiven_95 (by decide) ?_
        exact ih (k + 1) tr uc ur (by omega) (by omega) (by rw [rLay] at hq; dsimp only at hq; rw [if_pos (by omega), if_pos (by omega)] at hq; exact hq) _ _ hP hD hS ls (lv_sub hl [2, 0] rfl)
      · refine lv_aload_n hx hb d_RC_layGiven_72 rfl (lv_at hl 1 rfl) ?_
        refine lv_iload_n hx hb d_RC_layGiven_73 rfl (lv_at hl 2 rfl) ?_
        refine af_i (wc := [(a, .inr (2, [.int (nI n), .int (nI g), .int (nI sh), .int (nI al), .ref b1, .ref b2, .ref b3, .ref b4, .ref b5, .ref b6, .ref b7, .ref b8, .ref b9, .ref b10, .int (nI fd)])), (b1, .inl (cI, 36, .inl (nA fx))), (b2, .inl (cI, 36, .inl (nA le))), (b3, .inl (cI, 36, .inl (nA tr))), (b4, .inl (cI, 36, .inl (nA wi))), (b5, .inl (cI, 36, .inl (nA co))), (b6, .inl (cI, 36, .inl (nA ro))), (b7, .inl (cI, 6, .inl (nA uc))), (b8, .inl (cI, 6, .inl (nA ur))), (b9, .inl (cI, 6, .inl (nA pm))), (b10, .inl (cI, 6, .inl (nA qm)))]) (wr := []) (rest := []) [0, 1, 2, 3, 4, 5, 6, 7, 8, 9, 10] [] hP hD hS hA rfl rfl (by decide) (by decide) (rn_V E (As := [.int (nI k)]) m_RC_choicesAt km_RC_85 (c_RC_choicesAt l D cI cL a b1 b2 b3 b4 b5 b6 b7 b8 b9 b10 n g sh al fd fx le tr wi co ro uc ur pm qm k (by omega) hco hro _) ⟨rfl, rfl, Nat.le_of_ble_eq_true rfl, Nat.le_of_ble_eq_true rfl⟩ (hP.sub [0, 1, 2, 3, 4, 5, 6, 7, 8, 9, 10] rfl) (hD.sub [0, 1, 2, 3, 4, 5, 6, 7, 8, 9, 10] (by decide) rfl) (q0 := 0) (ci := 2) rfl rfl rfl hl.1 rfl (Nat.le_of_ble_eq_true rfl) ⟨Nat.le_of_ble_eq_true rfl, Nat.le_of_ble_eq_true rfl⟩ d_RC_layGiven_74) (fun r_4 u_3 H locs hw hP hD hS => ?_)
        obtain ⟨rfl, rfl⟩ := hw
        have hP : va_P D classes [(a, .inr (2, [.int (nI n), .int (nI g), .int (nI sh), .int (nI al), .ref b1, .ref b2, .ref b3, .ref b4, .ref b5, .ref b6, .ref b7, .ref b8, .ref b9, .ref b10, .int (nI fd)])), (b1, .inl (cI, 36, .inl (nA fx))), (b2, .inl (cI, 36, .inl (nA le))), (b3, .inl (cI, 36, .inl (nA tr))), (b4, .inl (cI, 36, .inl (nA wi))), (b5, .inl (cI, 36, .inl (nA co))), (b6, .inl (cI, 36, .inl (nA ro))), (b7, .inl (cI, 6, .inl (nA uc))), (b8, .inl (cI, 6, .inl (nA ur))), (b9, .inl (cI, 6, .inl (nA pm))), (b10, .inl (cI, 6, .inl (nA qm)))] H := hP
        have hD : va_D A [(a, .inr (2, [.int (nI n), .int (nI g), .int (nI sh), .int (nI al), .ref b1, .ref b2, .ref b3, .ref b4, .ref b5, .ref b6, .ref b7, .ref b8, .ref b9, .ref b10, .int (nI fd)])), (b1, .inl (cI, 36, .inl (nA fx))), (b2, .inl (cI, 36, .inl (nA le))), (b3, .inl (cI, 36, .inl (nA tr))), (b4, .inl (cI, 36, .inl (nA wi))), (b5, .inl (cI, 36, .inl (nA co))), (b6, .inl (cI, 36, .inl (nA ro))), (b7, .inl (cI, 6, .inl (nA uc))), (b8, .inl (cI, 6, .inl (nA ur))), (b9, .inl (cI, 6, .inl (nA pm))), (b10, .inl (cI, 6, .inl (nA qm)))] := hD
        refine lv_iload_n hx hb d_RC_layGiven_77 rfl (lv_at hl 0 rfl) ?_
        have hch := rCh_le al co ro uc ur k
        refine nr_iushr hx hb d_RC_layGiven_78 (by omega) (by omega) ?_
        refine lv_iconst (v := nI 1) hx hb d_RC_layGiven_79 (by decide) ?_
        refine nr_iand1 hx hb d_RC_layGiven_80 ?_
        refine nr_if_ne (tgt := 86) hx hb d_RC_layGiven_81 (by decide) (by omega) (fun h_5 => ?_) (fun h_5 => ?_)
        · refine lv_aload_n hx hb d_RC_layGiven_86 rfl (lv_at hl 1 rfl) ?_
          refine lv_iload_n hx hb d_RC_layGiven_87 rfl (lv_at hl 2 rfl) ?_
          refine lv_iload_n hx hb d_RC_layGiven_88 rfl (lv_at hl 0 rfl) ?_
          refine af_v (wc := [(a, .inr (2, [.int (nI n), .int (nI g), .int (nI sh), .int (nI al), .ref b1, .ref b2, .ref b3, .ref b4, .ref b5, .ref b6, .ref b7, .ref b8, .ref b9, .ref b10, .int (nI fd)])), (b1, .inl (cI, 36, .inl (nA fx))), (b2, .inl (cI, 36, .inl (nA le))), (b3, .inl (cI, 36, .inl (nA tr))), (b4, .inl (cI, 36, .inl (nA wi))), (b5, .inl (cI, 36, .inl (nA co))), (b6, .inl (cI, 36, .inl (nA ro))), (b7, .inl (cI, 6, .inl (nA uc))), (b8, .inl (cI, 6, .inl (nA ur))), (b9, .inl (cI, 6, .inl (nA pm))), (b10, .inl (cI, 6, .inl (nA qm)))]) (wr := []) (rest := []) [0, 1, 2, 3, 4, 5, 6, 7, 8, 9, 10] [] hP hD hS hA rfl rfl (by decide) (by decide) (rn_V E (As := [.int (nI k), .int (nI (fx k))]) m_RC_put km_RC_89 (c_RC_put l D cI cL a b1 b2 b3 b4 b5 b6 b7 b8 b9 b10 n g sh al fd fx le tr wi co ro uc ur pm qm k (fx k) (by omega) (by omega) hco hro _) ⟨rfl, rfl, Nat.le_of_ble_eq_true rfl, Nat.le_of_ble_eq_true rfl⟩ (hP.sub [0, 1, 2, 3, 4, 5, 6, 7, 8, 9, 10] rfl) (hD.sub [0, 1, 2, 3, 4, 5, 6, 7, 8, 9, 10] (by decide) rfl) (q0 := 0) (ci := 2) rfl rfl rfl hl.1 rfl (Nat.le_of_ble_eq_true rfl) ⟨Nat.le_of_ble_eq_true rfl, Nat.le_of_ble_eq_true rfl⟩ d_RC_layGiven_89) (fun u_6 H locs hw hP hD hS => ?_)
          obtain rfl := hw
          have hP : va_P D classes [(a, .inr (2, [.int (nI n), .int (nI g), .int (nI sh), .int (nI al), .ref b1, .ref b2, .ref b3, .ref b4, .ref b5, .ref b6, .ref b7, .ref b8, .ref b9, .ref b10, .int (nI fd)])), (b1, .inl (cI, 36, .inl (nA fx))), (b2, .inl (cI, 36, .inl (nA le))), (b3, .inl (cI, 36, .inl (nA (va_up tr k (fx k))))), (b4, .inl (cI, 36, .inl (nA wi))), (b5, .inl (cI, 36, .inl (nA co))), (b6, .inl (cI, 36, .inl (nA ro))), (b7, .inl (cI, 6, .inl (nA (rPut uc (co k) (fx k))))), (b8, .inl (cI, 6, .inl (nA (rPut ur (ro k) (fx k))))), (b9, .inl (cI, 6, .inl (nA pm))), (b10, .inl (cI, 6, .inl (nA qm)))] H := hP
          have hD : va_D A [(a, .inr (2, [.int (nI n), .int (nI g), .int (nI sh), .int (nI al), .ref b1, .ref b2, .ref b3, .ref b4, .ref b5, .ref b6, .ref b7, .ref b8, .ref b9, .ref b10, .int (nI fd)])), (b1, .inl (cI, 36, .inl (nA fx))), (b2, .inl (cI, 36, .inl (nA le))), (b3, .inl (cI, 36, .inl (nA (va_up tr k (fx k))))), (b4, .inl (cI, 36, .inl (nA wi))), (b5, .inl (cI, 36, .inl (nA co))), (b6, .inl (cI, 36, .inl (nA ro))), (b7, .inl (cI, 6, .inl (nA (rPut uc (co k) (fx k))))), (b8, .inl (cI, 6, .inl (nA (rPut ur (ro k) (fx k))))), (b9, .inl (cI, 6, .inl (nA pm))), (b10, .inl (cI, 6, .inl (nA qm)))] := hD
          refine nr_iinc (lv' := [(1, .int (nI (k + 1))), (2, .int (nI (fx k))), (0, .ref a)]) hx hb d_RC_layGiven_92 hl (k := 2) rfl (by decide) rfl (fun ls hl => ?_)
          refine lv_goto (tgt := 53) hx hb d_RC_layGiven_95 (by decide) ?_
          exact ih (k + 1) (va_up tr k (fx k)) (rPut uc (co k) (fx k)) (rPut ur (ro k) (fx k)) (by omega) (by omega) (by rw [rLay] at hq; dsimp only at hq; rw [if_pos (by omega), if_neg (by omega), if_neg (by omega)] at hq; exact hq) _ _ hP hD hS ls (lv_sub hl [2, 0] rfl)
        · refine lv_iconst (v := nI 0) hx hb d_RC_layGiven_84 (by decide) ?_
          exact rt_z E hP hD hS (by decide) (by rw [rLay] at hq; dsimp only at hq; rw [if_pos (by omega), if_neg (by omega), if_pos (by omega)] at hq; exact hq) d_RC_layGiven_85
set_option maxHeartbeats 1000000 in
set_option maxRecDepth 100000 in
theorem L_RC_lay2 {p : Program} {l : Launch} {e : Env} {s : State} {m : MethodId} {args : Array Value} {below : List Frame} {meth : Method} {c : Code} {A : Nat → Prop} {D : va_G} {cI cL : ClassId} {c0 : Cond} {post : Int32 → va_W → Prop} (a b1 b2 b3 b4 b5 b6 b7 b8 b9 b10 n g sh al fd : Nat) (fx le wi co ro pm qm : Nat → Nat) (uc ur : Nat → Nat) (hco : ∀ k, co k < 6) (hro : ∀ k, ro k < 6) (hn : n ≤ 36) (hal : al < 128) (hfx : ∀ k, fx k < 7) (E : En p s m args meth c b_RC_layGiven 3 (c0 :: Om) R_RC (some .boolean) A D [(cI, .int), (cL, .long)]) : ∀ (m1 : Nat) (k : Nat) (tr : Nat → Nat), k ≤ n → n < k + m1 → post (nI (rLay n al fx co ro (n + 1) 0 (rZ m1 k n tr, uc, ur)).1) [(a, .inr (2, [.int (nI n), .int (nI g), .int (nI sh), .int (nI al), .ref b1, .ref b2, .ref b3, .ref b4, .ref b5, .ref b6, .ref b7, .ref b8, .ref b9, .ref b10, .int (nI fd)])), (b1, .inl (cI, 36, .inl (nA fx))), (b2, .inl (cI, 36, .inl (nA le))), (b3, .inl (cI, 36, .inl (nA ((rLay n al fx co ro (n + 1) 0 (rZ m1 k n tr, uc, ur)).2.1)))), (b4, .inl (cI, 36, .inl (nA wi))), (b5, .inl (cI, 36, .inl (nA co))), (b6, .inl (cI, 36, .inl (nA ro))), (b7, .inl (cI, 6, .inl (nA ((rLay n al fx co ro (n + 1) 0 (rZ m1 k n tr, uc, ur)).2.2.1)))), (b8, .inl (cI, 6, .inl (nA ((rLay n al fx co ro (n + 1) 0 (rZ m1 k n tr, uc, ur)).2.2.2)))), (b9, .inl (cI, 6, .inl (nA pm))), (b10, .inl (cI, 6, .inl (nA qm)))] → ∀ (H : Heap) (locs : List Loc), va_P D classes [(a, .inr (2, [.int (nI n), .int (nI g), .int (nI sh), .int (nI al), .ref b1, .ref b2, .ref b3, .ref b4, .ref b5, .ref b6, .ref b7, .ref b8, .ref b9, .ref b10, .int (nI fd)])), (b1, .inl (cI, 36, .inl (nA fx))), (b2, .inl (cI, 36, .inl (nA le))), (b3, .inl (cI, 36, .inl (nA tr))), (b4, .inl (cI, 36, .inl (nA wi))), (b5, .inl (cI, 36, .inl (nA co))), (b6, .inl (cI, 36, .inl (nA ro))), (b7, .inl (cI, 6, .inl (nA uc))), (b8, .inl (cI, 6, .inl (nA ur))), (b9, .inl (cI, 6, .inl (nA pm))), (b10, .inl (cI, 6, .inl (nA qm)))] H → va_D A [(a, .inr (2, [.int (nI n), .int (nI g), .int (nI sh), .int (nI al), .ref b1, .ref b2, .ref b3, .ref b4, .ref b5, .ref b6, .ref b7, .ref b8, .ref b9, .ref b10, .int (nI fd)])), (b1, .inl (cI, 36, .inl (nA fx))), (b2, .inl (cI, 36, .inl (nA le))), (b3, .inl (cI, 36, .inl (nA tr))), (b4, .inl (cI, 36, .inl (nA wi))), (b5, .inl (cI, 36, .inl (nA co))), (b6, .inl (cI, 36, .inl (nA ro))), (b7, .inl (cI, 6, .inl (nA uc))), (b8, .inl (cI, 6, .inl (nA ur))), (b9, .inl (cI, 6, .inl (nA pm))), (b10, .inl (cI, 6, .inl (nA qm)))] → va_S A s.heap H locs → ∀ ls : Array Slot, lv_has ls 3 [(0, .ref a), (1, .int (nI k))] → W p l e { frames := 1, cells := 0, slots := 0, locals := 22 } s m args below meth c H locs 0 0 (MQ below (qI D [(cI, .int), (cL, .long)] post A) args s 0 0 A) (F0 m 30 ls []) := by
  obtain ⟨hx, hb, hml, hown, hts, hr, hlk, hA, hK, hN⟩ := id E
  have ho : ∀ q ∈ Om, q.before _ s = true := fun q h => hts q (List.mem_cons_of_mem _ h)
  intro m1
  induction m1 with
  | zero =>
    intro k tr h1 h2 hq
    exact absurd h2 (by omega)
  | succ m1 ih =>
    intro k tr h1 h2 hq H locs hP hD hS ls hl
    refine lv_iload_n hx hb d_RC_layGiven_30 rfl (lv_at hl 1 rfl) ?_
    refine lv_aload_n hx hb d_RC_layGiven_31 rfl (lv_at hl 0 rfl) ?_
    refine va_get (D := D) (ci := 2) (v := .int (nI n)) (C := R_RC) (T := F_RC) (N := 15) hx hb ho j_RC hown hK hP 0 rfl rfl 0 (by decide) (ho _ kf_RC_48) (fun _ h9 => h9) rfl d_RC_layGiven_32 ?_
    refine nr_icmp_ge (tgt := 51) hx hb d_RC_layGiven_35 (by decide) (by omega) (by omega) (fun h_1 => ?_) (fun h_1 => ?_)
    · refine lv_iconst (v := nI 0) hx hb d_RC_layGiven_51 (by decide) ?_
      refine lv_istore_n (lv' := [(1, .int (nI 0)), (0, .ref a)]) hx hb d_RC_layGiven_52 rfl hl (by decide) rfl (fun ls hl => ?_)
      exact L_RC_lay3 a b1 b2 b3 b4 b5 b6 b7 b8 b9 b10 n g sh al fd fx le wi co ro pm qm hco hro hn hal hfx E (n + 1) 0 tr uc ur (by omega) (by omega) (by rw [rZ, if_neg (by omega)] at hq; exact hq) _ _ hP hD hS ls (lv_sub hl [1, 0] rfl)
    · refine lv_aload_n hx hb d_RC_layGiven_38 rfl (lv_at hl 0 rfl) ?_
      refine va_get (D := D) (ci := 2) (v := .ref b3) (C := R_RC) (T := F_RC) (N := 15) hx hb ho j_RC hown hK hP 0 rfl rfl 6 (by decide) (ho _ kf_RC_18) (fun _ h9 => h9) rfl d_RC_layGiven_39 ?_
      refine lv_iload_n hx hb d_RC_layGiven_42 rfl (lv_at hl 1 rfl) ?_
      refine lv_iconst (v := nI 0) hx hb d_RC_layGiven_43 (by decide) ?_
      refine nr_iast hx hb hK hP hD hS 3 0 rfl rfl (i := k) (x := 0) (by omega) (by decide) d_RC_layGiven_44 (fun H locs hP hD hS => ?_)
      have hP : va_P D classes [(a, .inr (2, [.int (nI n), .int (nI g), .int (nI sh), .int (nI al), .ref b1, .ref b2, .ref b3, .ref b4, .ref b5, .ref b6, .ref b7, .ref b8, .ref b9, .ref b10, .int (nI fd)])), (b1, .inl (cI, 36, .inl (nA fx))), (b2, .inl (cI, 36, .inl (nA le))), (b3, .inl (cI, 36, .inl (nA (va_up tr k 0)))), (b4, .inl (cI, 36, .inl (nA wi))), (b5, .inl (cI, 36, .inl (nA co))), (b6, .inl (cI, 36, .inl (nA ro))), (b7, .inl (cI, 6, .inl (nA uc))), (b8, .inl (cI, 6, .inl (nA ur))), (b9, .inl (cI, 6, .inl (nA pm))), (b10, .inl (cI, 6, .inl (nA qm)))] H := hP
      have hD : va_D A [(a, .inr (2, [.int (nI n), .int (nI g), .int (nI sh), .int (nI al), .ref b1, .ref b2, .ref b3, .ref b4, .ref b5, .ref b6, .ref b7, .ref b8, .ref b9, .ref b10, .int (nI fd)])), (b1, .inl (cI, 36, .inl (nA fx))), (b2, .inl (cI, 36, .inl (nA le))), (b3, .inl (cI, 36, .inl (nA (va_up tr k 0)))), (b4, .inl (cI, 36, .inl (nA wi))), (b5, .inl (cI, 36, .inl (nA co))), (b6, .inl (cI, 36, .inl (nA ro))), (b7, .inl (cI, 6, .inl (nA uc))), (b8, .inl (cI, 6, .inl (nA ur))), (b9, .inl (cI, 6, .inl (nA pm))), (b10, .inl (cI, 6, .inl (nA qm)))] := hD
      refine nr_iinc (lv' := [(1, .int (nI (k + 1))), (0, .ref a)]) hx hb d_RC_layGiven_45 hl (k := 1) rfl (by decide) rfl (fun ls hl => ?_)
      refine lv_goto (tgt := 30) hx hb d_RC_layGiven_48 (by decide) ?_
      exact ih (k + 1) (va_up tr k 0) (by omega) (by omega) (by rw [rZ, if_pos (by omega)] at hq; exact hq) _ _ hP hD hS ls (lv_sub hl [1, 0] rfl)
set_option maxHeartbeats 1000000 in
set_option maxRecDepth 100000 in
theorem L_RC_lay1 {p : Program} {l : Launch} {e : Env} {s : State} {m : MethodId} {args : Array Value} {below : List Frame} {meth : Method} {c : Code} {A : Nat → Prop} {D : va_G} {cI cL : ClassId} {c0 : Cond} {post : Int32 → va_W → Prop} (a b1 b2 b3 b4 b5 b6 b7 b8 b9 b10 n g sh al fd : Nat) (fx le wi co ro pm qm : Nat → Nat) (tr : Nat → Nat) (hco : ∀ k, co k < 6) (hro : ∀ k, ro k < 6) (hn : n ≤ 36) (hal : al < 128) (hfx : ∀ k, fx k < 7) (E : En p s m args meth c b_RC_layGiven 3 (c0 :: Om) R_RC (some .boolean) A D [(cI, .int), (cL, .long)]) : ∀ (m1 : Nat) (k : Nat) (uc : Nat → Nat) (ur : Nat → Nat), k ≤ 6 → 6 < k + m1 → post (nI (rLay n al fx co ro (n + 1) 0 (rZ (n + 1) 0 n tr, rZ m1 k 6 uc, rZ m1 k 6 ur)).1) [(a, .inr (2, [.int (nI n), .int (nI g), .int (nI sh), .int (nI al), .ref b1, .ref b2, .ref b3, .ref b4, .ref b5, .ref b6, .ref b7, .ref b8, .ref b9, .ref b10, .int (nI fd)])), (b1, .inl (cI, 36, .inl (nA fx))), (b2, .inl (cI, 36, .inl (nA le))), (b3, .inl (cI, 36, .inl (nA ((rLay n al fx co ro (n + 1) 0 (rZ (n + 1) 0 n tr, rZ m1 k 6 uc, rZ m1 k 6 ur)).2.1)))), (b4, .inl (cI, 36, .inl (nA wi))), (b5, .inl (cI, 36, .inl (nA co))), (b6, .inl (cI, 36, .inl (nA ro))), (b7, .inl (cI, 6, .inl (nA ((rLay n al fx co ro (n + 1) 0 (rZ (n + 1) 0 n tr, rZ m1 k 6 uc, rZ m1 k 6 ur)).2.2.1)))), (b8, .inl (cI, 6, .inl (nA ((rLay n al fx co ro (n + 1) 0 (rZ (n + 1) 0 n tr, rZ m1 k 6 uc, rZ m1 k 6 ur)).2.2.2)))), (b9, .inl (cI, 6, .inl (nA pm))), (b10, .inl (cI, 6, .inl (nA qm)))] → ∀ (H : Heap) (locs : List Loc), va_P D classes [(a, .inr (2, [.int (nI n), .int (nI g), .int (nI sh), .int (nI al), .ref b1, .ref b2, .ref b3, .ref b4, .ref b5, .ref b6, .ref b7, .ref b8, .ref b9, .ref b10, .int (nI fd)])), (b1, .inl (cI, 36, .inl (nA fx))), (b2, .inl (cI, 36, .inl (nA le))), (b3, .inl (cI, 36, .inl (nA tr))), (b4, .inl (cI, 36, .inl (nA wi))), (b5, .inl (cI, 36, .inl (nA co))), (b6, .inl (cI, 36, .inl (nA ro))), (b7, .inl (cI, 6, .inl (nA uc))), (b8, .inl (cI, 6, .inl (nA ur))), (b9, .inl (cI, 6, .inl (nA pm))), (b10, .inl (cI, 6, .inl (nA qm)))] H → va_D A [(a, .inr (2, [.int (nI n), .int (nI g), .int (nI sh), .int (nI al), .ref b1, .ref b2, .ref b3, .ref b4, .ref b5, .ref b6, .ref b7, .ref b8, .ref b9, .ref b10, .int (nI fd)])), (b1, .inl (cI, 36, .inl (nA fx))), (b2, .inl (cI, 36, .inl (nA le))), (b3, .inl (cI, 36, .inl (nA tr))), (b4, .inl (cI, 36, .inl (nA wi))), (b5, .inl (cI, 36, .inl (nA co))), (b6, .inl (cI, 36, .inl (nA ro))), (b7, .inl (cI, 6, .inl (nA uc))), (b8, .inl (cI, 6, .inl (nA ur))), (b9, .inl (cI, 6, .inl (nA pm))), (b10, .inl (cI, 6, .inl (nA qm)))] → va_S A s.heap H locs → ∀ ls : Array Slot, lv_has ls 3 [(0, .ref a), (1, .int (nI k))] → W p l e { frames := 1, cells := 0, slots := 0, locals := 22 } s m args below meth c H locs 0 0 (MQ below (qI D [(cI, .int), (cL, .long)] post A) args s 0 0 A) (F0 m 2 ls []) := by
  obtain ⟨hx, hb, hml, hown, hts, hr, hlk, hA, hK, hN⟩ := id E
  have ho : ∀ q ∈ Om, q.before _ s = true := fun q h => hts q (List.mem_cons_of_mem _ h)
  intro m1
  induction m1 with
  | zero =>
    intro k uc ur h1 h2 hq
    exact absurd h2 (by omega)
  | succ m1 ih =>
    intro k uc ur h1 h2 hq H locs hP hD hS ls hl
    refine lv_iload_n hx hb d_RC_layGiven_2 rfl (lv_at hl 1 rfl) ?_
    refine lv_bipush (v := nI 6) hx hb d_RC_layGiven_3 (by decide) ?_
    refine nr_icmp_ge (tgt := 28) hx hb d_RC_layGiven_5 (by decide) (by omega) (by omega) (fun h_1 => ?_) (fun h_1 => ?_)
    · refine lv_iconst (v := nI 0) hx hb d_RC_layGiven_28 (by decide) ?_
      refine lv_istore_n (lv' := [(1, .int (nI 0)), (0, .ref a)]) hx hb d_RC_layGiven_29 rfl hl (by decide) rfl (fun ls hl => ?_)
      exact L_RC_lay2 a b1 b2 b3 b4 b5 b6 b7 b8 b9 b10 n g sh al fd fx le wi co ro pm qm uc ur hco hro hn hal hfx E (n + 1) 0 tr (by omega) (by omega) (by rw [rZ_e (m := m1) (k := k) (b := 6) (f := uc) (by omega), rZ_e (m := m1) (k := k) (b := 6) (f := ur) (by omega)] at hq; exact hq) _ _ hP hD hS ls (lv_sub hl [1, 0] rfl)
    · refine lv_aload_n hx hb d_RC_layGiven_8 rfl (lv_at hl 0 rfl) ?_
      refine va_get (D := D) (ci := 2) (v := .ref b7) (C := R_RC) (T := F_RC) (N := 15) hx hb ho j_RC hown hK hP 0 rfl rfl 10 (by decide) (ho _ kf_RC_30) (fun _ h9 => h9) rfl d_RC_layGiven_9 ?_
      refine lv_iload_n hx hb d_RC_layGiven_12 rfl (lv_at hl 1 rfl) ?_
      refine lv_iconst (v := nI 0) hx hb d_RC_layGiven_13 (by decide) ?_
      refine nr_iast hx hb hK hP hD hS 7 0 rfl rfl (i := k) (x := 0) (by omega) (by decide) d_RC_layGiven_14 (fun H locs hP hD hS => ?_)
      have hP : va_P D classes [(a, .inr (2, [.int (nI n), .int (nI g), .int (nI sh), .int (nI al), .ref b1, .ref b2, .ref b3, .ref b4, .ref b5, .ref b6, .ref b7, .ref b8, .ref b9, .ref b10, .int (nI fd)])), (b1, .inl (cI, 36, .inl (nA fx))), (b2, .inl (cI, 36, .inl (nA le))), (b3, .inl (cI, 36, .inl (nA tr))), (b4, .inl (cI, 36, .inl (nA wi))), (b5, .inl (cI, 36, .inl (nA co))), (b6, .inl (cI, 36, .inl (nA ro))), (b7, .inl (cI, 6, .inl (nA (va_up uc k 0)))), (b8, .inl (cI, 6, .inl (nA ur))), (b9, .inl (cI, 6, .inl (nA pm))), (b10, .inl (cI, 6, .inl (nA qm)))] H := hP
      have hD : va_D A [(a, .inr (2, [.int (nI n), .int (nI g), .int (nI sh), .int (nI al), .ref b1, .ref b2, .ref b3, .ref b4, .ref b5, .ref b6, .ref b7, .ref b8, .ref b9, .ref b10, .int (nI fd)])), (b1, .inl (cI, 36, .inl (nA fx))), (b2, .inl (cI, 36, .inl (nA le))), (b3, .inl (cI, 36, .inl (nA tr))), (b4, .inl (cI, 36, .inl (nA wi))), (b5, .inl (cI, 36, .inl (nA co))), (b6, .inl (cI, 36, .inl (nA ro))), (b7, .inl (cI, 6, .inl (nA (va_up uc k 0)))), (b8, .inl (cI, 6, .inl (nA ur))), (b9, .inl (cI, 6, .inl (nA pm))), (b10, .inl (cI, 6, .inl (nA qm)))] := hD
      refine lv_aload_n hx hb d_RC_layGiven_15 rfl (lv_at hl 0 rfl) ?_
      refine va_get (D := D) (ci := 2) (v := .ref b8) (C := R_RC) (T := F_RC) (N := 15) hx hb ho j_RC hown hK hP 0 rfl rfl 11 (by decide) (ho _ kf_RC_33) (fun _ h9 => h9) rfl d_RC_layGiven_16 ?_
      refine lv_iload_n hx hb d_RC_layGiven_19 rfl (lv_at hl 1 rfl) ?_
      refine lv_iconst (v := nI 0) hx hb d_RC_layGiven_20 (by decide) ?_
      refine nr_iast hx hb hK hP hD hS 8 0 rfl rfl (i := k) (x := 0) (by omega) (by decide) d_RC_layGiven_21 (fun H locs hP hD hS => ?_)
      have hP : va_P D classes [(a, .inr (2, [.int (nI n), .int (nI g), .int (nI sh), .int (nI al), .ref b1, .ref b2, .ref b3, .ref b4, .ref b5, .ref b6, .ref b7, .ref b8, .ref b9, .ref b10, .int (nI fd)])), (b1, .inl (cI, 36, .inl (nA fx))), (b2, .inl (cI, 36, .inl (nA le))), (b3, .inl (cI, 36, .inl (nA tr))), (b4, .inl (cI, 36, .inl (nA wi))), (b5, .inl (cI, 36, .inl (nA co))), (b6, .inl (cI, 36, .inl (nA ro))), (b7, .inl (cI, 6, .inl (nA (va_up uc k 0)))), (b8, .inl (cI, 6, .inl (nA (va_up ur k 0)))), (b9, .inl (cI, 6, .inl (nA pm))), (b10, .inl (cI, 6, .inl (nA qm)))] H := hP
      have hD : va_D A [(a, .inr (2, [.int (nI n), .int (nI g), .int (nI sh), .int (nI al), .ref b1, .ref b2, .ref b3, .ref b4, .ref b5, .ref b6, .ref b7, .ref b8, .ref b9, .ref b10, .int (nI fd)])), (b1, .inl (cI, 36, .inl (nA fx))), (b2, .inl (cI, 36, .inl (nA le))), (b3, .inl (cI, 36, .inl (nA tr))), (b4, .inl (cI, 36, .inl (nA wi))), (b5, .inl (cI, 36, .inl (nA co))), (b6, .inl (cI, 36, .inl (nA ro))), (b7, .inl (cI, 6, .inl (nA (va_up uc k 0)))), (b8, .inl (cI, 6, .inl (nA (va_up ur k 0)))), (b9, .inl (cI, 6, .inl (nA pm))), (b10, .inl (cI, 6, .inl (nA qm)))] := hD
      refine nr_iinc (lv' := [(1, .int (nI (k + 1))), (0, .ref a)]) hx hb d_RC_layGiven_22 hl (k := 1) rfl (by decide) rfl (fun ls hl => ?_)
      refine lv_goto (tgt := 2) hx hb d_RC_layGiven_25 (by decide) ?_
      exact ih (k + 1) (va_up uc k 0) (va_up ur k 0) (by omega) (by omega) (by rw [rZ_s (m := m1) (k := k) (b := 6) (f := uc) (by omega), rZ_s (m := m1) (k := k) (b := 6) (f := ur) (by omega)] at hq; exact hq) _ _ hP hD hS ls (lv_sub hl [1, 0] rfl)
/-- laying what is given: 1 and what then stands, or 0 -/
def rLG (n al : Nat) (fx co ro : Nat → Nat) (st : S3) : Nat × S3 := rLay n al fx co ro (n + 1) 0 (rZ (n + 1) 0 n st.1, rZ 7 0 6 st.2.1, rZ 7 0 6 st.2.2)
set_option maxHeartbeats 1000000 in
set_option maxRecDepth 100000 in
theorem c_RC_layGiven (l : Launch) (D : va_G) (cI cL : ClassId) (a b1 b2 b3 b4 b5 b6 b7 b8 b9 b10 n g sh al fd : Nat) (fx le tr wi co ro uc ur pm qm : Nat → Nat) (hco : ∀ k, co k < 6) (hro : ∀ k, ro k < 6) (hn : n ≤ 36) (hal : al < 128) (hfx : ∀ k, fx k < 7) : CI l y_RC_layGiven (.code y_RC_layGiven b_RC_layGiven 3 (some .boolean) :: Om) { frames := 1, cells := 0, slots := 0, locals := 22 } D [(a, .inr (2, [.int (nI n), .int (nI g), .int (nI sh), .int (nI al), .ref b1, .ref b2, .ref b3, .ref b4, .ref b5, .ref b6, .ref b7, .ref b8, .ref b9, .ref b10, .int (nI fd)])), (b1, .inl (cI, 36, .inl (nA fx))), (b2, .inl (cI, 36, .inl (nA le))), (b3, .inl (cI, 36, .inl (nA tr))), (b4, .inl (cI, 36, .inl (nA wi))), (b5, .inl (cI, 36, .inl (nA co))), (b6, .inl (cI, 36, .inl (nA ro))), (b7, .inl (cI, 6, .inl (nA uc))), (b8, .inl (cI, 6, .inl (nA ur))), (b9, .inl (cI, 6, .inl (nA pm))), (b10, .inl (cI, 6, .inl (nA qm)))] [(cI, .int), (cL, .long)] [.ref a] (fun r u => r = nI (rLG n al fx co ro (tr, uc, ur)).1 ∧ u = [(a, .inr (2, [.int (nI n), .int (nI g), .int (nI sh), .int (nI al), .ref b1, .ref b2, .ref b3, .ref b4, .ref b5, .ref b6, .ref b7, .ref b8, .ref b9, .ref b10, .int (nI fd)])), (b1, .inl (cI, 36, .inl (nA fx))), (b2, .inl (cI, 36, .inl (nA le))), (b3, .inl (cI, 36, .inl (nA ((rLG n al fx co ro (tr, uc, ur)).2.1)))), (b4, .inl (cI, 36, .inl (nA wi))), (b5, .inl (cI, 36, .inl (nA co))), (b6, .inl (cI, 36, .inl (nA ro))), (b7, .inl (cI, 6, .inl (nA ((rLG n al fx co ro (tr, uc, ur)).2.2.1)))), (b8, .inl (cI, 6, .inl (nA ((rLG n al fx co ro (tr, uc, ur)).2.2.2)))), (b9, .inl (cI, 6, .inl (nA pm))), (b10, .inl (cI, 6, .inl (nA qm)))]) := by
  refine en_of (cc := b_RC_layGiven) (Qc := qI D [(cI, .int), (cL, .long)] (fun r u => r = nI (rLG n al fx co ro (tr, uc, ur)).1 ∧ u = [(a, .inr (2, [.int (nI n), .int (nI g), .int (nI sh), .int (nI al), .ref b1, .ref b2, .ref b3, .ref b4, .ref b5, .ref b6, .ref b7, .ref b8, .ref b9, .ref b10, .int (nI fd)])), (b1, .inl (cI, 36, .inl (nA fx))), (b2, .inl (cI, 36, .inl (nA le))), (b3, .inl (cI, 36, .inl (nA ((rLG n al fx co ro (tr, uc, ur)).2.1)))), (b4, .inl (cI, 36, .inl (nA wi))), (b5, .inl (cI, 36, .inl (nA co))), (b6, .inl (cI, 36, .inl (nA ro))), (b7, .inl (cI, 6, .inl (nA ((rLG n al fx co ro (tr, uc, ur)).2.2.1)))), (b8, .inl (cI, 6, .inl (nA ((rLG n al fx co ro (tr, uc, ur)).2.2.2)))), (b9, .inl (cI, 6, .inl (nA pm))), (b10, .inl (cI, 6, .inl (nA qm)))])) (by decide) rfl (Nat.le_of_ble_eq_true rfl) ?_
  intro p e s m below meth c A E hnm hP hD hS ls hl
  have hl : lv_has ls 3 [(0, .ref a)] := hl
  obtain ⟨hx, hb, hml, hown, hts, hr, hlk, hA, hK, hN⟩ := id E
  have ho : ∀ q ∈ Om, q.before _ s = true := fun q h => hts q (List.mem_cons_of_mem _ h)
  refine lv_iconst (v := nI 0) hx hb d_RC_layGiven_0 (by decide) ?_
  refine lv_istore_n (lv' := [(1, .int (nI 0)), (0, .ref a)]) hx hb d_RC_layGiven_1 rfl hl (by decide) rfl (fun ls hl => ?_)
  exact L_RC_lay1 a b1 b2 b3 b4 b5 b6 b7 b8 b9 b10 n g sh al fd fx le wi co ro pm qm tr hco hro hn hal hfx E 7 0 uc ur (by omega) (by omega) ⟨rfl, rfl⟩ _ _ hP hD hS ls (lv_sub hl [1, 0] rfl)
def rNr (n al : Nat) (co ro tr uc ur : Nat → Nat) : Nat → Nat → Nat → Nat → Nat
  | 0, _, nw, _ => nw
  | m + 1, k, nw, fw => if k < n ∧ 1 < fw then (if tr k = 0 then (if pop 32 (rCh al co ro uc ur k) < fw then rNr n al co ro tr uc ur m (k + 1) (k + 1) (pop 32 (rCh al co ro uc ur k)) else rNr n al co ro tr uc ur m (k + 1) nw fw) else rNr n al co ro tr uc ur m (k + 1) nw fw) else nw
/-- 0 when no cell is open, else one more than an open cell -/
def rNo (n g al : Nat) (co ro tr uc ur : Nat → Nat) : Nat := rNr n al co ro tr uc ur (n + 1) 0 0 (g + 1)
set_option maxHeartbeats 1000000 in
set_option maxRecDepth 100000 in
theorem L_RC_narrow {p : Program} {l : Launch} {e : Env} {s : State} {m : MethodId} {args : Array Value} {below : List Frame} {meth : Method} {c : Code} {A : Nat → Prop} {D : va_G} {cI cL : ClassId} {c0 : Cond} {post : Int32 → va_W → Prop} (a b1 b2 b3 b4 b5 b6 b7 b8 b9 b10 n g sh al fd : Nat) (fx le tr wi co ro uc ur pm qm : Nat → Nat) (hco : ∀ k, co k < 6) (hro : ∀ k, ro k < 6) (hn : n ≤ 36) (hal : al < 128) (htr : ∀ k, tr k < 8) (E : En p s m args meth c b_RC_narrowestOpenCell 5 (c0 :: Om) R_RC (some .int) A D [(cI, .int), (cL, .long)]) : ∀ (m1 : Nat) (k : Nat) (nw : Nat) (fw : Nat), k ≤ n → n < k + m1 → fw ≤ 100 → post (nI (rNr n al co ro tr uc ur m1 k nw fw) - 1) [(a, .inr (2, [.int (nI n), .int (nI g), .int (nI sh), .int (nI al), .ref b1, .ref b2, .ref b3, .ref b4, .ref b5, .ref b6, .ref b7, .ref b8, .ref b9, .ref b10, .int (nI fd)])), (b1, .inl (cI, 36, .inl (nA fx))), (b2, .inl (cI, 36, .inl (nA le))), (b3, .inl (cI, 36, .inl (nA tr))), (b4, .inl (cI, 36, .inl (nA wi))), (b5, .inl (cI, 36, .inl (nA co))), (b6, .inl (cI, 36, .inl (nA ro))), (b7, .inl (cI, 6, .inl (nA uc))), (b8, .inl (cI, 6, .inl (nA ur))), (b9, .inl (cI, 6, .inl (nA pm))), (b10, .inl (cI, 6, .inl (nA qm)))] → ∀ (H : Heap) (locs : List Loc), va_P D classes [(a, .inr (2, [.int (nI n), .int (nI g), .int (nI sh), .int (nI al), .ref b1, .ref b2, .ref b3, .ref b4, .ref b5, .ref b6, .ref b7, .ref b8, .ref b9, .ref b10, .int (nI fd)])), (b1, .inl (cI, 36, .inl (nA fx))), (b2, .inl (cI, 36, .inl (nA le))), (b3, .inl (cI, 36, .inl (nA tr))), (b4, .inl (cI, 36, .inl (nA wi))), (b5, .inl (cI, 36, .inl (nA co))), (b6, .inl (cI, 36, .inl (nA ro))), (b7, .inl (cI, 6, .inl (nA uc))), (b8, .inl (cI, 6, .inl (nA ur))), (b9, .inl (cI, 6, .inl (nA pm))), (b10, .inl (cI, 6, .inl (nA qm)))] H → va_D A [(a, .inr (2, [.int (nI n), .int (nI g), .int (nI sh), .int (nI al), .ref b1, .ref b2, .ref b3, .ref b4, .ref b5, .ref b6, .ref b7, .ref b8, .ref b9, .ref b10, .int (nI fd)])), (b1, .inl (cI, 36, .inl (nA fx))), (b2, .inl (cI, 36, .inl (nA le))), (b3, .inl (cI, 36, .inl (nA tr))), (b4, .inl (cI, 36, .inl (nA wi))), (b5, .inl (cI, 36, .inl (nA co))), (b6, .inl (cI, 36, .inl (nA ro))), (b7, .inl (cI, 6, .inl (nA uc))), (b8, .inl (cI, 6, .inl (nA ur))), (b9, .inl (cI, 6, .inl (nA pm))), (b10, .inl (cI, 6, .inl (nA qm)))] → va_S A s.heap H locs → ∀ ls : Array Slot, lv_has ls 5 [(0, .ref a), (1, .int (nI nw - 1)), (2, .int (nI fw)), (3, .int (nI k))] → W p l e { frames := 1, cells := 0, slots := 0, locals := 21 } s m args below meth c H locs 0 0 (MQ below (qI D [(cI, .int), (cL, .long)] post A) args s 0 0 A) (F0 m 11 ls []) := by
  obtain ⟨hx, hb, hml, hown, hts, hr, hlk, hA, hK, hN⟩ := id E
  have ho : ∀ q ∈ Om, q.before _ s = true := fun q h => hts q (List.mem_cons_of_mem _ h)
  intro m1
  induction m1 with
  | zero =>
    intro k nw fw h1 h2 h3 hq
    exact absurd h2 (by omega)
  | succ m1 ih =>
    intro k nw fw h1 h2 h3 hq H locs hP hD hS ls hl
    refine lv_iload_n hx hb d_RC_narrowestOpenCell_11 rfl (lv_at hl 3 rfl) ?_
    refine lv_aload_n hx hb d_RC_narrowestOpenCell_12 rfl (lv_at hl 0 rfl) ?_
    refine va_get (D := D) (ci := 2) (v := .int (nI n)) (C := R_RC) (T := F_RC) (N := 15) hx hb ho j_RC hown hK hP 0 rfl rfl 0 (by decide) (ho _ kf_RC_48) (fun _ h9 => h9) rfl d_RC_narrowestOpenCell_13 ?_
    refine nr_icmp_ge (tgt := 60) hx hb d_RC_narrowestOpenCell_16 (by decide) (by omega) (by omega) (fun h_1 => ?_) (fun h_1 => ?_)
    · refine lv_iload_n hx hb d_RC_narrowestOpenCell_60 rfl (lv_at hl 1 rfl) ?_
      exact rt_i E hP hD hS (by rw [rNr, if_neg (by omega)] at hq; exact hq) d_RC_narrowestOpenCell_61
    · refine lv_iload_n hx hb d_RC_narrowestOpenCell_19 rfl (lv_at hl 2 rfl) ?_
      refine lv_iconst (v := nI 1) hx hb d_RC_narrowestOpenCell_20 (by decide) ?_
      refine nr_icmp_le (tgt := 60) hx hb d_RC_narrowestOpenCell_21 (by decide) (by omega) (by omega) (fun h_2 => ?_) (fun h_2 => ?_)
      · refine lv_iload_n hx hb d_RC_narrowestOpenCell_60 rfl (lv_at hl 1 rfl) ?_
        exact rt_i E hP hD hS (by rw [rNr, if_neg (by omega)] at hq; exact hq) d_RC_narrowestOpenCell_61
      · refine lv_aload_n hx hb d_RC_narrowestOpenCell_24 rfl (lv_at hl 0 rfl) ?_
        refine va_get (D := D) (ci := 2) (v := .ref b3) (C := R_RC) (T := F_RC) (N := 15) hx hb ho j_RC hown hK hP 0 rfl rfl 6 (by decide) (ho _ kf_RC_18) (fun _ h9 => h9) rfl d_RC_narrowestOpenCell_25 ?_
        refine lv_iload_n hx hb d_RC_narrowestOpenCell_28 rfl (lv_at hl 3 rfl) ?_
        have htk := htr k
        refine nr_ialdN hx hb hK hP 3 0 rfl rfl (i := k) (by omega) (by decide) d_RC_narrowestOpenCell_29 ?_
        refine nr_if_ne (tgt := 54) hx hb d_RC_narrowestOpenCell_30 (by decide) (by omega) (fun h_3 => ?_) (fun h_3 => ?_)
        · refine nr_iinc (lv' := [(3, .int (nI (k + 1))), (0, .ref a), (1, .int (nI nw - 1)), (2, .int (nI fw))]) hx hb d_RC_narrowestOpenCell_54 hl (k := 3) rfl (by decide) rfl (fun ls hl => ?_)
          refine lv_goto (tgt := 11) hx hb d_RC_narrowestOpenCell_57 (by decide) ?_
          exact ih (k + 1) nw fw (by omega) (by omega) (by omega) (by rw [rNr, if_pos ⟨by omega, by omega⟩] at hq; first | (rw [if_neg (by omega)] at hq; exact hq) | (rw [if_pos (by omega), if_neg (by omega)] at hq; exact hq)) _ _ hP hD hS ls (lv_sub hl [1, 2, 3, 0] rfl)
        · refine lv_aload_n hx hb d_RC_narrowestOpenCell_33 rfl (lv_at hl 0 rfl) ?_
          refine lv_iload_n hx hb d_RC_narrowestOpenCell_34 rfl (lv_at hl 3 rfl) ?_
          refine af_i (wc := [(a, .inr (2, [.int (nI n), .int (nI g), .int (nI sh), .int (nI al), .ref b1, .ref b2, .ref b3, .ref b4, .ref b5, .ref b6, .ref b7, .ref b8, .ref b9, .ref b10, .int (nI fd)])), (b1, .inl (cI, 36, .inl (nA fx))), (b2, .inl (cI, 36, .inl (nA le))), (b3, .inl (cI, 36, .inl (nA tr))), (b4, .inl (cI, 36, .inl (nA wi))), (b5, .inl (cI, 36, .inl (nA co))), (b6, .inl (cI, 36, .inl (nA ro))), (b7, .inl (cI, 6, .inl (nA uc))), (b8, .inl (cI, 6, .inl (nA ur))), (b9, .inl (cI, 6, .inl (nA pm))), (b10, .inl (cI, 6, .inl (nA qm)))]) (wr := []) (rest := []) [0, 1, 2, 3, 4, 5, 6, 7, 8, 9, 10] [] hP hD hS hA rfl rfl (by decide) (by decide) (rn_V E (As := [.int (nI k)]) m_RC_choicesAt km_RC_85 (c_RC_choicesAt l D cI cL a b1 b2 b3 b4 b5 b6 b7 b8 b9 b10 n g sh al fd fx le tr wi co ro uc ur pm qm k (by omega) hco hro _) ⟨rfl, rfl, Nat.le_of_ble_eq_true rfl, Nat.le_of_ble_eq_true rfl⟩ (hP.sub [0, 1, 2, 3, 4, 5, 6, 7, 8, 9, 10] rfl) (hD.sub [0, 1, 2, 3, 4, 5, 6, 7, 8, 9, 10] (by decide) rfl) (q0 := 0) (ci := 2) rfl rfl rfl hl.1 rfl (Nat.le_of_ble_eq_true rfl) ⟨Nat.le_of_ble_eq_true rfl, Nat.le_of_ble_eq_true rfl⟩ d_RC_narrowestOpenCell_35) (fun r_5 u_4 H locs hw hP hD hS => ?_)
          obtain ⟨rfl, rfl⟩ := hw
          have hP : va_P D classes [(a, .inr (2, [.int (nI n), .int (nI g), .int (nI sh), .int (nI al), .ref b1, .ref b2, .ref b3, .ref b4, .ref b5, .ref b6, .ref b7, .ref b8, .ref b9, .ref b10, .int (nI fd)])), (b1, .inl (cI, 36, .inl (nA fx))), (b2, .inl (cI, 36, .inl (nA le))), (b3, .inl (cI, 36, .inl (nA tr))), (b4, .inl (cI, 36, .inl (nA wi))), (b5, .inl (cI, 36, .inl (nA co))), (b6, .inl (cI, 36, .inl (nA ro))), (b7, .inl (cI, 6, .inl (nA uc))), (b8, .inl (cI, 6, .inl (nA ur))), (b9, .inl (cI, 6, .inl (nA pm))), (b10, .inl (cI, 6, .inl (nA qm)))] H := hP
          have hD : va_D A [(a, .inr (2, [.int (nI n), .int (nI g), .int (nI sh), .int (nI al), .ref b1, .ref b2, .ref b3, .ref b4, .ref b5, .ref b6, .ref b7, .ref b8, .ref b9, .ref b10, .int (nI fd)])), (b1, .inl (cI, 36, .inl (nA fx))), (b2, .inl (cI, 36, .inl (nA le))), (b3, .inl (cI, 36, .inl (nA tr))), (b4, .inl (cI, 36, .inl (nA wi))), (b5, .inl (cI, 36, .inl (nA co))), (b6, .inl (cI, 36, .inl (nA ro))), (b7, .inl (cI, 6, .inl (nA uc))), (b8, .inl (cI, 6, .inl (nA ur))), (b9, .inl (cI, 6, .inl (nA pm))), (b10, .inl (cI, 6, .inl (nA qm)))] := hD
          have hch := rCh_le al co ro uc ur k
          have hpk := pop_le 32 (rCh al co ro uc ur k)
          refine af_i (wc := []) (wr := [(a, .inr (2, [.int (nI n), .int (nI g), .int (nI sh), .int (nI al), .ref b1, .ref b2, .ref b3, .ref b4, .ref b5, .ref b6, .ref b7, .ref b8, .ref b9, .ref b10, .int (nI fd)])), (b1, .inl (cI, 36, .inl (nA fx))), (b2, .inl (cI, 36, .inl (nA le))), (b3, .inl (cI, 36, .inl (nA tr))), (b4, .inl (cI, 36, .inl (nA wi))), (b5, .inl (cI, 36, .inl (nA co))), (b6, .inl (cI, 36, .inl (nA ro))), (b7, .inl (cI, 6, .inl (nA uc))), (b8, .inl (cI, 6, .inl (nA ur))), (b9, .inl (cI, 6, .inl (nA pm))), (b10, .inl (cI, 6, .inl (nA qm)))]) (rest := []) [] [0, 1, 2, 3, 4, 5, 6, 7, 8, 9, 10] hP hD hS hA rfl rfl (by decide) (by decide) (rn_S E (As := [.int (nI (rCh al co ro uc ur k))]) m_IN_bitCount km_RC_100 (c_IN_bitCount l D cI cL (rCh al co ro uc ur k) (by omega) _) ⟨rfl, rfl, Nat.le_of_ble_eq_true rfl, Nat.le_of_ble_eq_true rfl⟩ (hP.sub [] rfl) (hD.sub [] (by decide) rfl) rfl hl.1 rfl (Nat.le_of_ble_eq_true rfl) ⟨Nat.le_of_ble_eq_true rfl, Nat.le_of_ble_eq_true rfl⟩ d_RC_narrowestOpenCell_38) (fun r_7 u_6 H locs hw hP hD hS => ?_)
          obtain ⟨rfl, rfl⟩ := hw
          have hP : va_P D classes [(a, .inr (2, [.int (nI n), .int (nI g), .int (nI sh), .int (nI al), .ref b1, .ref b2, .ref b3, .ref b4, .ref b5, .ref b6, .ref b7, .ref b8, .ref b9, .ref b10, .int (nI fd)])), (b1, .inl (cI, 36, .inl (nA fx))), (b2, .inl (cI, 36, .inl (nA le))), (b3, .inl (cI, 36, .inl (nA tr))), (b4, .inl (cI, 36, .inl (nA wi))), (b5, .inl (cI, 36, .inl (nA co))), (b6, .inl (cI, 36, .inl (nA ro))), (b7, .inl (cI, 6, .inl (nA uc))), (b8, .inl (cI, 6, .inl (nA ur))), (b9, .inl (cI, 6, .inl (nA pm))), (b10, .inl (cI, 6, .inl (nA qm)))] H := hP
          have hD : va_D A [(a, .inr (2, [.int (nI n), .int (nI g), .int (nI sh), .int (nI al), .ref b1, .ref b2, .ref b3, .ref b4, .ref b5, .ref b6, .ref b7, .ref b8, .ref b9, .ref b10, .int (nI fd)])), (b1, .inl (cI, 36, .inl (nA fx))), (b2, .inl (cI, 36, .inl (nA le))), (b3, .inl (cI, 36, .inl (nA tr))), (b4, .inl (cI, 36, .inl (nA wi))), (b5, .inl (cI, 36, .inl (nA co))), (b6, .inl (cI, 36, .inl (nA ro))), (b7, .inl (cI, 6, .inl (nA uc))), (b8, .inl (cI, 6, .inl (nA ur))), (b9, .inl (cI, 6, .inl (nA pm))), (b10, .inl (cI, 6, .inl (nA qm)))] := hD
          refine lv_istore (lv' := [(4, .int (nI (pop 32 (rCh al co ro uc ur k)))), (0, .ref a), (1, .int (nI nw - 1)), (2, .int (nI fw)), (3, .int (nI k))]) hx hb d_RC_narrowestOpenCell_41 hl (by decide) rfl (fun ls hl => ?_)
          refine lv_iload hx hb d_RC_narrowestOpenCell_43 (lv_at hl 0 rfl) ?_
          refine lv_iload_n hx hb d_RC_narrowestOpenCell_45 rfl (lv_at hl 3 rfl) ?_
          refine nr_icmp_ge (tgt := 54) hx hb d_RC_narrowestOpenCell_46 (by decide) (by omega) (by omega) (fun h_8 => ?_) (fun h_8 => ?_)
          · refine nr_iinc (lv' := [(3, .int (nI (k + 1))), (4, .int (nI (pop 32 (rCh al co ro uc ur k)))), (0, .ref a), (1, .int (nI nw - 1)), (2, .int (nI fw))]) hx hb d_RC_narrowestOpenCell_54 hl (k := 4) rfl (by decide) rfl (fun ls hl => ?_)
            refine lv_goto (tgt := 11) hx hb d_RC_narrowestOpenCell_57 (by decide) ?_
            exact ih (k + 1) nw fw (by omega) (by omega) (by omega) (by rw [rNr, if_pos ⟨by omega, by omega⟩] at hq; first | (rw [if_neg (by omega)] at hq; exact hq) | (rw [if_pos (by omega), if_neg (by omega)] at hq; exact hq)) _ _ hP hD hS ls (lv_sub hl [2, 3, 4, 0] rfl)
          · refine lv_iload hx hb d_RC_narrowestOpenCell_49 (lv_at hl 0 rfl) ?_
            refine lv_istore_n (lv' := [(2, .int (nI (pop 32 (rCh al co ro uc ur k)))), (4, .int (nI (pop 32 (rCh al co ro uc ur k)))), (0, .ref a), (1, .int (nI nw - 1)), (3, .int (nI k))]) hx hb d_RC_narrowestOpenCell_51 rfl hl (by decide) rfl (fun ls hl => ?_)
            refine lv_iload_n hx hb d_RC_narrowestOpenCell_52 rfl (lv_at hl 4 rfl) ?_
            refine lv_istore_n (lv' := [(1, .int (nI k)), (2, .int (nI (pop 32 (rCh al co ro uc ur k)))), (4, .int (nI (pop 32 (rCh al co ro uc ur k)))), (0, .ref a), (3, .int (nI k))]) hx hb d_RC_narrowestOpenCell_53 rfl hl (by decide) rfl (fun ls hl => ?_)
            refine nr_iinc (lv' := [(3, .int (nI (k + 1))), (1, .int (nI k)), (2, .int (nI (pop 32 (rCh al co ro uc ur k)))), (4, .int (nI (pop 32 (rCh al co ro uc ur k)))), (0, .ref a)]) hx hb d_RC_narrowestOpenCell_54 hl (k := 4) rfl (by decide) rfl (fun ls hl => ?_)
            refine lv_goto (tgt := 11) hx hb d_RC_narrowestOpenCell_57 (by decide) ?_
            have hl2 : lv_has ls 5 [(0, .ref a), (1, .int (nI k)), (2, .int (nI (pop 32 (rCh al co ro uc ur k)))), (3, .int (nI (k + 1)))] := lv_sub hl [4, 1, 2, 0] rfl
            rw [← nI_pred k] at hl2
            exact ih (k + 1) (k + 1) (pop 32 (rCh al co ro uc ur k)) (by omega) (by omega) (by omega) (by rw [rNr, if_pos ⟨by omega, by omega⟩, if_pos (by omega), if_pos (by omega)] at hq; exact hq) _ _ hP hD hS ls hl2
set_option maxHeartbeats 1000000 in
set_option maxRecDepth 100000 in
theorem c_RC_narrow (l : Launch) (D : va_G) (cI cL : ClassId) (a b1 b2 b3 b4 b5 b6 b7 b8 b9 b10 n g sh al fd : Nat) (fx le tr wi co ro uc ur pm qm : Nat → Nat) (hco : ∀ k, co k < 6) (hro : ∀ k, ro k < 6) (hn : n ≤ 36) (hal : al < 128) (htr : ∀ k, tr k < 8) (hg : g ≤ 6) : CI l y_RC_narrowestOpenCell (.code y_RC_narrowestOpenCell b_RC_narrowestOpenCell 5 (some .int) :: Om) { frames := 1, cells := 0, slots := 0, locals := 21 } D [(a, .inr (2, [.int (nI n), .int (nI g), .int (nI sh), .int (nI al), .ref b1, .ref b2, .ref b3, .ref b4, .ref b5, .ref b6, .ref b7, .ref b8, .ref b9, .ref b10, .int (nI fd)])), (b1, .inl (cI, 36, .inl (nA fx))), (b2, .inl (cI, 36, .inl (nA le))), (b3, .inl (cI, 36, .inl (nA tr))), (b4, .inl (cI, 36, .inl (nA wi))), (b5, .inl (cI, 36, .inl (nA co))), (b6, .inl (cI, 36, .inl (nA ro))), (b7, .inl (cI, 6, .inl (nA uc))), (b8, .inl (cI, 6, .inl (nA ur))), (b9, .inl (cI, 6, .inl (nA pm))), (b10, .inl (cI, 6, .inl (nA qm)))] [(cI, .int), (cL, .long)] [.ref a] (fun r u => r = nI (rNo n g al co ro tr uc ur) - 1 ∧ u = [(a, .inr (2, [.int (nI n), .int (nI g), .int (nI sh), .int (nI al), .ref b1, .ref b2, .ref b3, .ref b4, .ref b5, .ref b6, .ref b7, .ref b8, .ref b9, .ref b10, .int (nI fd)])), (b1, .inl (cI, 36, .inl (nA fx))), (b2, .inl (cI, 36, .inl (nA le))), (b3, .inl (cI, 36, .inl (nA tr))), (b4, .inl (cI, 36, .inl (nA wi))), (b5, .inl (cI, 36, .inl (nA co))), (b6, .inl (cI, 36, .inl (nA ro))), (b7, .inl (cI, 6, .inl (nA uc))), (b8, .inl (cI, 6, .inl (nA ur))), (b9, .inl (cI, 6, .inl (nA pm))), (b10, .inl (cI, 6, .inl (nA qm)))]) := by
  refine en_of (cc := b_RC_narrowestOpenCell) (Qc := qI D [(cI, .int), (cL, .long)] (fun r u => r = nI (rNo n g al co ro tr uc ur) - 1 ∧ u = [(a, .inr (2, [.int (nI n), .int (nI g), .int (nI sh), .int (nI al), .ref b1, .ref b2, .ref b3, .ref b4, .ref b5, .ref b6, .ref b7, .ref b8, .ref b9, .ref b10, .int (nI fd)])), (b1, .inl (cI, 36, .inl (nA fx))), (b2, .inl (cI, 36, .inl (nA le))), (b3, .inl (cI, 36, .inl (nA tr))), (b4, .inl (cI, 36, .inl (nA wi))), (b5, .inl (cI, 36, .inl (nA co))), (b6, .inl (cI, 36, .inl (nA ro))), (b7, .inl (cI, 6, .inl (nA uc))), (b8, .inl (cI, 6, .inl (nA ur))), (b9, .inl (cI, 6, .inl (nA pm))), (b10, .inl (cI, 6, .inl (nA qm)))])) (by decide) rfl (Nat.le_of_ble_eq_true rfl) ?_
  intro p e s m below meth c A E hnm hP hD hS ls hl
  have hl : lv_has ls 5 [(0, .ref a)] := hl
  obtain ⟨hx, hb, hml, hown, hts, hr, hlk, hA, hK, hN⟩ := id E
  have ho : ∀ q ∈ Om, q.before _ s = true := fun q h => hts q (List.mem_cons_of_mem _ h)
  refine lv_iconst (v := (-1)) hx hb d_RC_narrowestOpenCell_0 (by decide) ?_
  refine lv_istore_n (lv' := [(1, .int (-1)), (0, .ref a)]) hx hb d_RC_narrowestOpenCell_1 rfl hl (by decide) rfl (fun ls hl => ?_)
  refine lv_aload_n hx hb d_RC_narrowestOpenCell_2 rfl (lv_at hl 1 rfl) ?_
  refine va_get (D := D) (ci := 2) (v := .int (nI g)) (C := R_RC) (T := F_RC) (N := 15) hx hb ho j_RC hown hK hP 0 rfl rfl 1 (by decide) (ho _ kf_RC_55) (fun _ h9 => h9) rfl d_RC_narrowestOpenCell_3 ?_
  refine lv_iconst (v := nI 1) hx hb d_RC_narrowestOpenCell_6 (by decide) ?_
  refine nr_iadd hx hb d_RC_narrowestOpenCell_7 ?_
  refine lv_istore_n (lv' := [(2, .int (nI (g + 1))), (1, .int (-1)), (0, .ref a)]) hx hb d_RC_narrowestOpenCell_8 rfl hl (by decide) rfl (fun ls hl => ?_)
  refine lv_iconst (v := nI 0) hx hb d_RC_narrowestOpenCell_9 (by decide) ?_
  refine lv_istore_n (lv' := [(3, .int (nI 0)), (2, .int (nI (g + 1))), (1, .int (-1)), (0, .ref a)]) hx hb d_RC_narrowestOpenCell_10 rfl hl (by decide) rfl (fun ls hl => ?_)
  have hl2 : lv_has ls 5 [(0, .ref a), (1, .int (-1)), (2, .int (nI (g + 1))), (3, .int (nI 0))] := lv_sub hl [3, 2, 1, 0] rfl
  rw [show (-1 : Int32) = nI 0 - 1 by decide] at hl2
  exact L_RC_narrow a b1 b2 b3 b4 b5 b6 b7 b8 b9 b10 n g sh al fd fx le tr wi co ro uc ur pm qm hco hro hn hal htr E (n + 1) 0 0 (g + 1) (by omega) (by omega) (by omega) ⟨rfl, rfl⟩ _ _ hP hD hS ls hl2
def rC1 (src : Nat → Nat) : Nat → Nat → (Nat → Nat) → Nat → Nat
  | 0, _, f => f
  | m + 1, k, f => if k < 6 then rC1 src m (k + 1) (va_up f k (src k)) else f
abbrev S2 : Type := (Nat → Nat) × (Nat → Nat)
def rC2 (n al : Nat) (co ro tr uc ur : Nat → Nat) : Nat → Nat → S2 → S2
  | 0, _, st => st
  | m + 1, k, st => if k < n then (if tr k = 0 then rC2 n al co ro tr uc ur m (k + 1) (va_up st.1 (co k) (st.1 (co k) ||| rCh al co ro uc ur k), va_up st.2 (ro k) (st.2 (ro k) ||| rCh al co ro uc ur k)) else rC2 n al co ro tr uc ur m (k + 1) st) else st
def rC3 (g sh : Nat) (st : S2) : Nat → Nat → Nat
  | 0, _ => 0
  | m + 1, v => if v ≤ g then (if rLw st.1 v 7 0 0 < sh ∨ rLw st.2 v 7 0 0 < sh then 1 else rC3 g sh st m (v + 1)) else 0
theorem rC3_1 (g sh : Nat) (st : S2) : ∀ m v, rC3 g sh st m v ≤ 1 := by
  intro m
  induction m with
  | zero => intro v; exact Nat.zero_le 1
  | succ m ih =>
    intro v
    rw [rC3]
    split
    · split
      · omega
      · exact ih _
    · omega
theorem rLw_le (f : Nat → Nat) (v : Nat) : ∀ m k x, rLw f v m k x ≤ x + m := by
  intro m
  induction m with
  | zero => intro k x; exact Nat.le_refl _
  | succ m ih =>
    intro k x
    rw [rLw]
    split
    · have := ih (k + 1) (x + f k / 2 ^ v % 2)
      omega
    · omega
/-- the look ahead: what columns and rows may hold -/
def rPs (n al : Nat) (co ro tr uc ur pm qm : Nat → Nat) : S2 := rC2 n al co ro tr uc ur (n + 1) 0 (rC1 uc 7 0 pm, rC1 ur 7 0 qm)
def rLk (n g sh al : Nat) (co ro tr uc ur pm qm : Nat → Nat) : Nat := rC3 g sh (rPs n al co ro tr uc ur pm qm) (g + 1) 1
theorem or_lt {x y : Nat} (hx : x < 128) (hy : y < 128) : x ||| y < 128 := Nat.or_lt_two_pow (n := 7) hx hy
set_option maxHeartbeats 1000000 in
set_option maxRecDepth 100000 in
theorem L_RC_lk3 {p : Program} {l : Launch} {e : Env} {s : State} {m : MethodId} {args : Array Value} {below : List Frame} {meth : Method} {c : Code} {A : Nat → Prop} {D : va_G} {cI cL : ClassId} {c0 : Cond} {post : Int32 → va_W → Prop} (a b1 b2 b3 b4 b5 b6 b7 b8 b9 b10 n g sh al fd : Nat) (fx le tr wi co ro uc ur : Nat → Nat) (pm qm : Nat → Nat) (hco : ∀ k, co k < 6) (hro : ∀ k, ro k < 6) (hn : n ≤ 36) (hg : g ≤ 6) (hsh : sh ≤ 6) (hal : al < 128) (htr : ∀ k, tr k < 8) (huc : ∀ k, uc k < 128) (hur : ∀ k, ur k < 128) (hpm : ∀ k, pm k < 128) (hqm : ∀ k, qm k < 128) (E : En p s m args meth c b_RC_someNumberLacksPlaces 3 (c0 :: Om) R_RC (some .boolean) A D [(cI, .int), (cL, .long)]) : ∀ (m1 : Nat) (v : Nat), 1 ≤ v → v ≤ g + 1 → g + 1 < v + m1 → post (nI (rC3 g sh (pm, qm) m1 v)) [(a, .inr (2, [.int (nI n), .int (nI g), .int (nI sh), .int (nI al), .ref b1, .ref b2, .ref b3, .ref b4, .ref b5, .ref b6, .ref b7, .ref b8, .ref b9, .ref b10, .int (nI fd)])), (b1, .inl (cI, 36, .inl (nA fx))), (b2, .inl (cI, 36, .inl (nA le))), (b3, .inl (cI, 36, .inl (nA tr))), (b4, .inl (cI, 36, .inl (nA wi))), (b5, .inl (cI, 36, .inl (nA co))), (b6, .inl (cI, 36, .inl (nA ro))), (b7, .inl (cI, 6, .inl (nA uc))), (b8, .inl (cI, 6, .inl (nA ur))), (b9, .inl (cI, 6, .inl (nA pm))), (b10, .inl (cI, 6, .inl (nA qm)))] → ∀ (H : Heap) (locs : List Loc), va_P D classes [(a, .inr (2, [.int (nI n), .int (nI g), .int (nI sh), .int (nI al), .ref b1, .ref b2, .ref b3, .ref b4, .ref b5, .ref b6, .ref b7, .ref b8, .ref b9, .ref b10, .int (nI fd)])), (b1, .inl (cI, 36, .inl (nA fx))), (b2, .inl (cI, 36, .inl (nA le))), (b3, .inl (cI, 36, .inl (nA tr))), (b4, .inl (cI, 36, .inl (nA wi))), (b5, .inl (cI, 36, .inl (nA co))), (b6, .inl (cI, 36, .inl (nA ro))), (b7, .inl (cI, 6, .inl (nA uc))), (b8, .inl (cI, 6, .inl (nA ur))), (b9, .inl (cI, 6, .inl (nA pm))), (b10, .inl (cI, 6, .inl (nA qm)))] H → va_D A [(a, .inr (2, [.int (nI n), .int (nI g), .int (nI sh), .int (nI al), .ref b1, .ref b2, .ref b3, .ref b4, .ref b5, .ref b6, .ref b7, .ref b8, .ref b9, .ref b10, .int (nI fd)])), (b1, .inl (cI, 36, .inl (nA fx))), (b2, .inl (cI, 36, .inl (nA le))), (b3, .inl (cI, 36, .inl (nA tr))), (b4, .inl (cI, 36, .inl (nA wi))), (b5, .inl (cI, 36, .inl (nA co))), (b6, .inl (cI, 36, .inl (nA ro))), (b7, .inl (cI, 6, .inl (nA uc))), (b8, .inl (cI, 6, .inl (nA ur))), (b9, .inl (cI, 6, .inl (nA pm))), (b10, .inl (cI, 6, .inl (nA qm)))] → va_S A s.heap H locs → ∀ ls : Array Slot, lv_has ls 3 [(0, .ref a), (1, .int (nI v))] → W p l e { frames := 1, cells := 0, slots := 0, locals := 26 } s m args below meth c H locs 0 0 (MQ below (qI D [(cI, .int), (cL, .long)] post A) args s 0 0 A) (F0 m 101 ls []) := by
  obtain ⟨hx, hb, hml, hown, hts, hr, hlk, hA, hK, hN⟩ := id E
  have ho : ∀ q ∈ Om, q.before _ s = true := fun q h => hts q (List.mem_cons_of_mem _ h)
  intro m1
  induction m1 with
  | zero =>
    intro v h0 h1 h2 hq
    exact absurd h2 (by omega)
  | succ m1 ih =>
    intro v h0 h1 h2 hq H locs hP hD hS ls hl
    refine lv_iload_n hx hb d_RC_someNumberLacksPlaces_101 rfl (lv_at hl 1 rfl) ?_
    refine lv_aload_n hx hb d_RC_someNumberLacksPlaces_102 rfl (lv_at hl 0 rfl) ?_
    refine va_get (D := D) (ci := 2) (v := .int (nI g)) (C := R_RC) (T := F_RC) (N := 15) hx hb ho j_RC hown hK hP 0 rfl rfl 1 (by decide) (ho _ kf_RC_55) (fun _ h9 => h9) rfl d_RC_someNumberLacksPlaces_103 ?_
    refine nr_icmp_gt (tgt := 147) hx hb d_RC_someNumberLacksPlaces_106 (by decide) (by omega) (by omega) (fun h_1 => ?_) (fun h_1 => ?_)
    · refine lv_iconst (v := nI 0) hx hb d_RC_someNumberLacksPlaces_147 (by decide) ?_
      exact rt_z E hP hD hS (by decide) (by rw [rC3, if_neg (by omega)] at hq; exact hq) d_RC_someNumberLacksPlaces_148
    · refine lv_aload_n hx hb d_RC_someNumberLacksPlaces_109 rfl (lv_at hl 0 rfl) ?_
      refine va_get (D := D) (ci := 2) (v := .ref b9) (C := R_RC) (T := F_RC) (N := 15) hx hb ho j_RC hown hK hP 0 rfl rfl 12 (by decide) (ho _ kf_RC_36) (fun _ h9 => h9) rfl d_RC_someNumberLacksPlaces_110 ?_
      refine lv_iload_n hx hb d_RC_someNumberLacksPlaces_113 rfl (lv_at hl 1 rfl) ?_
      refine af_i (wc := [(b9, .inl (cI, 6, .inl (nA pm)))]) (wr := [(a, .inr (2, [.int (nI n), .int (nI g), .int (nI sh), .int (nI al), .ref b1, .ref b2, .ref b3, .ref b4, .ref b5, .ref b6, .ref b7, .ref b8, .ref b9, .ref b10, .int (nI fd)])), (b1, .inl (cI, 36, .inl (nA fx))), (b2, .inl (cI, 36, .inl (nA le))), (b3, .inl (cI, 36, .inl (nA tr))), (b4, .inl (cI, 36, .inl (nA wi))), (b5, .inl (cI, 36, .inl (nA co))), (b6, .inl (cI, 36, .inl (nA ro))), (b7, .inl (cI, 6, .inl (nA uc))), (b8, .inl (cI, 6, .inl (nA ur))), (b10, .inl (cI, 6, .inl (nA qm)))]) (rest := []) [9] [0, 1, 2, 3, 4, 5, 6, 7, 8, 10] hP hD hS hA rfl rfl (by decide) (by decide) (rn_S E (As := [.ref b9, .int (nI v)]) m_RC_linesWith km_RC_112 (c_RC_linesWith l D cI cL b9 v pm (by omega) (fun k => Nat.lt_trans (hpm k) (by decide)) _) ⟨rfl, rfl, Nat.le_of_ble_eq_true rfl, Nat.le_of_ble_eq_true rfl⟩ (hP.sub [9] rfl) (hD.sub [9] (by decide) rfl) rfl hl.1 rfl (Nat.le_of_ble_eq_true rfl) ⟨Nat.le_of_ble_eq_true rfl, Nat.le_of_ble_eq_true rfl⟩ d_RC_someNumberLacksPlaces_114) (fun r_3 u_2 H locs hw hP hD hS => ?_)
      obtain ⟨rfl, rfl⟩ := hw
      have hP := hP.sub (ws' := [(a, .inr (2, [.int (nI n), .int (nI g), .int (nI sh), .int (nI al), .ref b1, .ref b2, .ref b3, .ref b4, .ref b5, .ref b6, .ref b7, .ref b8, .ref b9, .ref b10, .int (nI fd)])), (b1, .inl (cI, 36, .inl (nA fx))), (b2, .inl (cI, 36, .inl (nA le))), (b3, .inl (cI, 36, .inl (nA tr))), (b4, .inl (cI, 36, .inl (nA wi))), (b5, .inl (cI, 36, .inl (nA co))), (b6, .inl (cI, 36, .inl (nA ro))), (b7, .inl (cI, 6, .inl (nA uc))), (b8, .inl (cI, 6, .inl (nA ur))), (b9, .inl (cI, 6, .inl (nA pm))), (b10, .inl (cI, 6, .inl (nA qm)))]) [0, 1, 2, 3, 4, 5, 6, 7, 8, 10, 9] rfl
      have hD := hD.sub (ws' := [(a, .inr (2, [.int (nI n), .int (nI g), .int (nI sh), .int (nI al), .ref b1, .ref b2, .ref b3, .ref b4, .ref b5, .ref b6, .ref b7, .ref b8, .ref b9, .ref b10, .int (nI fd)])), (b1, .inl (cI, 36, .inl (nA fx))), (b2, .inl (cI, 36, .inl (nA le))), (b3, .inl (cI, 36, .inl (nA tr))), (b4, .inl (cI, 36, .inl (nA wi))), (b5, .inl (cI, 36, .inl (nA co))), (b6, .inl (cI, 36, .inl (nA ro))), (b7, .inl (cI, 6, .inl (nA uc))), (b8, .inl (cI, 6, .inl (nA ur))), (b9, .inl (cI, 6, .inl (nA pm))), (b10, .inl (cI, 6, .inl (nA qm)))]) [0, 1, 2, 3, 4, 5, 6, 7, 8, 10, 9] (by decide) rfl
      have hl1 := rLw_le pm v 7 0 0
      refine lv_aload_n hx hb d_RC_someNumberLacksPlaces_117 rfl (lv_at hl 0 rfl) ?_
      refine va_get (D := D) (ci := 2) (v := .int (nI sh)) (C := R_RC) (T := F_RC) (N := 15) hx hb ho j_RC hown hK hP 0 rfl rfl 2 (by decide) (ho _ kf_RC_58) (fun _ h9 => h9) rfl d_RC_someNumberLacksPlaces_118 ?_
      refine nr_icmp_lt (tgt := 139) hx hb d_RC_someNumberLacksPlaces_121 (by decide) (by omega) (by omega) (fun h_4 => ?_) (fun h_4 => ?_)
      · refine lv_iconst (v := nI 1) hx hb d_RC_someNumberLacksPlaces_139 (by decide) ?_
        exact rt_z E hP hD hS (by decide) (by rw [rC3] at hq; dsimp only at hq; rw [if_pos (by omega), if_pos (by first | exact Or.inl (by assumption) | exact Or.inr (by assumption))] at hq; exact hq) d_RC_someNumberLacksPlaces_140
      · refine lv_aload_n hx hb d_RC_someNumberLacksPlaces_124 rfl (lv_at hl 0 rfl) ?_
        refine va_get (D := D) (ci := 2) (v := .ref b10) (C := R_RC) (T := F_RC) (N := 15) hx hb ho j_RC hown hK hP 0 rfl rfl 13 (by decide) (ho _ kf_RC_39) (fun _ h9 => h9) rfl d_RC_someNumberLacksPlaces_125 ?_
        refine lv_iload_n hx hb d_RC_someNumberLacksPlaces_128 rfl (lv_at hl 1 rfl) ?_
        refine af_i (wc := [(b10, .inl (cI, 6, .inl (nA qm)))]) (wr := [(a, .inr (2, [.int (nI n), .int (nI g), .int (nI sh), .int (nI al), .ref b1, .ref b2, .ref b3, .ref b4, .ref b5, .ref b6, .ref b7, .ref b8, .ref b9, .ref b10, .int (nI fd)])), (b1, .inl (cI, 36, .inl (nA fx))), (b2, .inl (cI, 36, .inl (nA le))), (b3, .inl (cI, 36, .inl (nA tr))), (b4, .inl (cI, 36, .inl (nA wi))), (b5, .inl (cI, 36, .inl (nA co))), (b6, .inl (cI, 36, .inl (nA ro))), (b7, .inl (cI, 6, .inl (nA uc))), (b8, .inl (cI, 6, .inl (nA ur))), (b9, .inl (cI, 6, .inl (nA pm)))]) (rest := []) [10] [0, 1, 2, 3, 4, 5, 6, 7, 8, 9] hP hD hS hA rfl rfl (by decide) (by decide) (rn_S E (As := [.ref b10, .int (nI v)]) m_RC_linesWith km_RC_112 (c_RC_linesWith l D cI cL b10 v qm (by omega) (fun k => Nat.lt_trans (hqm k) (by decide)) _) ⟨rfl, rfl, Nat.le_of_ble_eq_true rfl, Nat.le_of_ble_eq_true rfl⟩ (hP.sub [10] rfl) (hD.sub [10] (by decide) rfl) rfl hl.1 rfl (Nat.le_of_ble_eq_true rfl) ⟨Nat.le_of_ble_eq_true rfl, Nat.le_of_ble_eq_true rfl⟩ d_RC_someNumberLacksPlaces_129) (fun r_6 u_5 H locs hw hP hD hS => ?_)
        obtain ⟨rfl, rfl⟩ := hw
        have hP : va_P D classes [(a, .inr (2, [.int (nI n), .int (nI g), .int (nI sh), .int (nI al), .ref b1, .ref b2, .ref b3, .ref b4, .ref b5, .ref b6, .ref b7, .ref b8, .ref b9, .ref b10, .int (nI fd)])), (b1, .inl (cI, 36, .inl (nA fx))), (b2, .inl (cI, 36, .inl (nA le))), (b3, .inl (cI, 36, .inl (nA tr))), (b4, .inl (cI, 36, .inl (nA wi))), (b5, .inl (cI, 36, .inl (nA co))), (b6, .inl (cI, 36, .inl (nA ro))), (b7, .inl (cI, 6, .inl (nA uc))), (b8, .inl (cI, 6, .inl (nA ur))), (b9, .inl (cI, 6, .inl (nA pm))), (b10, .inl (cI, 6, .inl (nA qm)))] H := hP
        have hD : va_D A [(a, .inr (2, [.int (nI n), .int (nI g), .int (nI sh), .int (nI al), .ref b1, .ref b2, .ref b3, .ref b4, .ref b5, .ref b6, .ref b7, .ref b8, .ref b9, .ref b10, .int (nI fd)])), (b1, .inl (cI, 36, .inl (nA fx))), (b2, .inl (cI, 36, .inl (nA le))), (b3, .inl (cI, 36, .inl (nA tr))), (b4, .inl (cI, 36, .inl (nA wi))), (b5, .inl (cI, 36, .inl (nA co))), (b6, .inl (cI, 36, .inl (nA ro))), (b7, .inl (cI, 6, .inl (nA uc))), (b8, .inl (cI, 6, .inl (nA ur))), (b9, .inl (cI, 6, .inl (nA pm))), (b10, .inl (cI, 6, .inl (nA qm)))] := hD
        have hl9 := rLw_le qm v 7 0 0
        refine lv_aload_n hx hb d_RC_someNumberLacksPlaces_132 rfl (lv_at hl 0 rfl) ?_
        refine va_get (D := D) (ci := 2) (v := .int (nI sh)) (C := R_RC) (T := F_RC) (N := 15) hx hb ho j_RC hown hK hP 0 rfl rfl 2 (by decide) (ho _ kf_RC_58) (fun _ h9 => h9) rfl d_RC_someNumberLacksPlaces_133 ?_
        refine nr_icmp_ge (tgt := 141) hx hb d_RC_someNumberLacksPlaces_136 (by decide) (by omega) (by omega) (fun h_7 => ?_) (fun h_7 => ?_)
        · refine nr_iinc (lv' := [(1, .int (nI (v + 1))), (0, .ref a)]) hx hb d_RC_someNumberLacksPlaces_141 hl (k := 1) rfl (by decide) rfl (fun ls hl => ?_)
          refine lv_goto (tgt := 101) hx hb d_RC_someNumberLacksPlaces_144 (by decide) ?_
          exact ih (v + 1) (by omega) (by omega) (by omega) (by rw [rC3] at hq; dsimp only at hq; rw [if_pos (by omega), if_neg (by omega)] at hq; exact hq) _ _ hP hD hS ls (lv_sub hl [1, 0] rfl)
        · refine lv_iconst (v := nI 1) hx hb d_RC_someNumberLacksPlaces_139 (by decide) ?_
          exact rt_z E hP hD hS (by decide) (by rw [rC3] at hq; dsimp only at hq; rw [if_pos (by omega), if_pos (by first | exact Or.inl (by assumption) | exact Or.inr (by assumption))] at hq; exact hq) d_RC_someNumberLacksPlaces_140
set_option maxHeartbeats 1000000 in
set_option maxRecDepth 100000 in
theorem L_RC_lk2 {p : Program} {l : Launch} {e : Env} {s : State} {m : MethodId} {args : Array Value} {below : List Frame} {meth : Method} {c : Code} {A : Nat → Prop} {D : va_G} {cI cL : ClassId} {c0 : Cond} {post : Int32 → va_W → Prop} (a b1 b2 b3 b4 b5 b6 b7 b8 b9 b10 n g sh al fd : Nat) (fx le tr wi co ro uc ur : Nat → Nat) (hco : ∀ k, co k < 6) (hro : ∀ k, ro k < 6) (hn : n ≤ 36) (hg : g ≤ 6) (hsh : sh ≤ 6) (hal : al < 128) (htr : ∀ k, tr k < 8) (huc : ∀ k, uc k < 128) (hur : ∀ k, ur k < 128) (E : En p s m args meth c b_RC_someNumberLacksPlaces 3 (c0 :: Om) R_RC (some .boolean) A D [(cI, .int), (cL, .long)]) : ∀ (m1 : Nat) (k : Nat) (pm : Nat → Nat) (qm : Nat → Nat), k ≤ n → n < k + m1 → (∀ k, pm k < 128) → (∀ k, qm k < 128) → post (nI (rC3 g sh (rC2 n al co ro tr uc ur m1 k (pm, qm)) (g + 1) 1)) [(a, .inr (2, [.int (nI n), .int (nI g), .int (nI sh), .int (nI al), .ref b1, .ref b2, .ref b3, .ref b4, .ref b5, .ref b6, .ref b7, .ref b8, .ref b9, .ref b10, .int (nI fd)])), (b1, .inl (cI, 36, .inl (nA fx))), (b2, .inl (cI, 36, .inl (nA le))), (b3, .inl (cI, 36, .inl (nA tr))), (b4, .inl (cI, 36, .inl (nA wi))), (b5, .inl (cI, 36, .inl (nA co))), (b6, .inl (cI, 36, .inl (nA ro))), (b7, .inl (cI, 6, .inl (nA uc))), (b8, .inl (cI, 6, .inl (nA ur))), (b9, .inl (cI, 6, .inl (nA ((rC2 n al co ro tr uc ur m1 k (pm, qm)).1)))), (b10, .inl (cI, 6, .inl (nA ((rC2 n al co ro tr uc ur m1 k (pm, qm)).2))))] → ∀ (H : Heap) (locs : List Loc), va_P D classes [(a, .inr (2, [.int (nI n), .int (nI g), .int (nI sh), .int (nI al), .ref b1, .ref b2, .ref b3, .ref b4, .ref b5, .ref b6, .ref b7, .ref b8, .ref b9, .ref b10, .int (nI fd)])), (b1, .inl (cI, 36, .inl (nA fx))), (b2, .inl (cI, 36, .inl (nA le))), (b3, .inl (cI, 36, .inl (nA tr))), (b4, .inl (cI, 36, .inl (nA wi))), (b5, .inl (cI, 36, .inl (nA co))), (b6, .inl (cI, 36, .inl (nA ro))), (b7, .inl (cI, 6, .inl (nA uc))), (b8, .inl (cI, 6, .inl (nA ur))), (b9, .inl (cI, 6, .inl (nA pm))), (b10, .inl (cI, 6, .inl (nA qm)))] H → va_D A [(a, .inr (2, [.int (nI n), .int (nI g), .int (nI sh), .int (nI al), .ref b1, .ref b2, .ref b3, .ref b4, .ref b5, .ref b6, .ref b7, .ref b8, .ref b9, .ref b10, .int (nI fd)])), (b1, .inl (cI, 36, .inl (nA fx))), (b2, .inl (cI, 36, .inl (nA le))), (b3, .inl (cI, 36, .inl (nA tr))), (b4, .inl (cI, 36, .inl (nA wi))), (b5, .inl (cI, 36, .inl (nA co))), (b6, .inl (cI, 36, .inl (nA ro))), (b7, .inl (cI, 6, .inl (nA uc))), (b8, .inl (cI, 6, .inl (nA ur))), (b9, .inl (cI, 6, .inl (nA pm))), (b10, .inl (cI, 6, .inl (nA qm)))] → va_S A s.heap H locs → ∀ ls : Array Slot, lv_has ls 3 [(0, .ref a), (1, .int (nI k))] → W p l e { frames := 1, cells := 0, slots := 0, locals := 26 } s m args below meth c H locs 0 0 (MQ below (qI D [(cI, .int), (cL, .long)] post A) args s 0 0 A) (F0 m 40 ls []) := by
  obtain ⟨hx, hb, hml, hown, hts, hr, hlk, hA, hK, hN⟩ := id E
  have ho : ∀ q ∈ Om, q.before _ s = true := fun q h => hts q (List.mem_cons_of_mem _ h)
  intro m1
  induction m1 with
  | zero =>
    intro k pm qm h1 h2 hpm hqm hq
    exact absurd h2 (by omega)
  | succ m1 ih =>
    intro k pm qm h1 h2 hpm hqm hq H locs hP hD hS ls hl
    refine lv_iload_n hx hb d_RC_someNumberLacksPlaces_40 rfl (lv_at hl 1 rfl) ?_
    refine lv_aload_n hx hb d_RC_someNumberLacksPlaces_41 rfl (lv_at hl 0 rfl) ?_
    refine va_get (D := D) (ci := 2) (v := .int (nI n)) (C := R_RC) (T := F_RC) (N := 15) hx hb ho j_RC hown hK hP 0 rfl rfl 0 (by decide) (ho _ kf_RC_48) (fun _ h9 => h9) rfl d_RC_someNumberLacksPlaces_42 ?_
    refine nr_icmp_ge (tgt := 99) hx hb d_RC_someNumberLacksPlaces_45 (by decide) (by omega) (by omega) (fun h_1 => ?_) (fun h_1 => ?_)
    · refine lv_iconst (v := nI 1) hx hb d_RC_someNumberLacksPlaces_99 (by decide) ?_
      refine lv_istore_n (lv' := [(1, .int (nI 1)), (0, .ref a)]) hx hb d_RC_someNumberLacksPlaces_100 rfl hl (by decide) rfl (fun ls hl => ?_)
      exact L_RC_lk3 a b1 b2 b3 b4 b5 b6 b7 b8 b9 b10 n g sh al fd fx le tr wi co ro uc ur pm qm hco hro hn hg hsh hal htr huc hur hpm hqm E (g + 1) 1 (by omega) (by omega) (by omega) (by rw [rC2] at hq; dsimp only at hq; rw [if_neg (by omega)] at hq; exact hq) _ _ hP hD hS ls (lv_sub hl [1, 0] rfl)
    · refine lv_aload_n hx hb d_RC_someNumberLacksPlaces_48 rfl (lv_at hl 0 rfl) ?_
      refine va_get (D := D) (ci := 2) (v := .ref b3) (C := R_RC) (T := F_RC) (N := 15) hx hb ho j_RC hown hK hP 0 rfl rfl 6 (by decide) (ho _ kf_RC_18) (fun _ h9 => h9) rfl d_RC_someNumberLacksPlaces_49 ?_
      refine lv_iload_n hx hb d_RC_someNumberLacksPlaces_52 rfl (lv_at hl 1 rfl) ?_
      have htk := htr k
      have hk1 := hco k
      have hk2 := hro k
      have hch := rCh_le al co ro uc ur k
      refine nr_ialdN hx hb hK hP 3 0 rfl rfl (i := k) (by omega) (by decide) d_RC_someNumberLacksPlaces_53 ?_
      refine nr_if_ne (tgt := 93) hx hb d_RC_someNumberLacksPlaces_54 (by decide) (by omega) (fun h_2 => ?_) (fun h_2 => ?_)
      · refine nr_iinc (lv' := [(1, .int (nI (k + 1))), (0, .ref a)]) hx hb d_RC_someNumberLacksPlaces_93 hl (k := 1) rfl (by decide) rfl (fun ls hl => ?_)
        refine lv_goto (tgt := 40) hx hb d_RC_someNumberLacksPlaces_96 (by decide) ?_
        exact ih (k + 1) pm qm (by omega) (by omega) hpm hqm (by rw [rC2] at hq; dsimp only at hq; rw [if_pos (by omega), if_neg (by omega)] at hq; exact hq) _ _ hP hD hS ls (lv_sub hl [1, 0] rfl)
      · refine lv_aload_n hx hb d_RC_someNumberLacksPlaces_57 rfl (lv_at hl 0 rfl) ?_
        refine lv_iload_n hx hb d_RC_someNumberLacksPlaces_58 rfl (lv_at hl 1 rfl) ?_
        refine af_i (wc := [(a, .inr (2, [.int (nI n), .int (nI g), .int (nI sh), .int (nI al), .ref b1, .ref b2, .ref b3, .ref b4, .ref b5, .ref b6, .ref b7, .ref b8, .ref b9, .ref b10, .int (nI fd)])), (b1, .inl (cI, 36, .inl (nA fx))), (b2, .inl (cI, 36, .inl (nA le))), (b3, .inl (cI, 36, .inl (nA tr))), (b4, .inl (cI, 36, .inl (nA wi))), (b5, .inl (cI, 36, .inl (nA co))), (b6, .inl (cI, 36, .inl (nA ro))), (b7, .inl (cI, 6, .inl (nA uc))), (b8, .inl (cI, 6, .inl (nA ur))), (b9, .inl (cI, 6, .inl (nA pm))), (b10, .inl (cI, 6, .inl (nA qm)))]) (wr := []) (rest := []) [0, 1, 2, 3, 4, 5, 6, 7, 8, 9, 10] [] hP hD hS hA rfl rfl (by decide) (by decide) (rn_V E (As := [.int (nI k)]) m_RC_choicesAt km_RC_85 (c_RC_choicesAt l D cI cL a b1 b2 b3 b4 b5 b6 b7 b8 b9 b10 n g sh al fd fx le tr wi co ro uc ur pm qm k (by omega) hco hro _) ⟨rfl, rfl, Nat.le_of_ble_eq_true rfl, Nat.le_of_ble_eq_true rfl⟩ (hP.sub [0, 1, 2, 3, 4, 5, 6, 7, 8, 9, 10] rfl) (hD.sub [0, 1, 2, 3, 4, 5, 6, 7, 8, 9, 10] (by decide) rfl) (q0 := 0) (ci := 2) rfl rfl rfl hl.1 rfl (Nat.le_of_ble_eq_true rfl) ⟨Nat.le_of_ble_eq_true rfl, Nat.le_of_ble_eq_true rfl⟩ d_RC_someNumberLacksPlaces_59) (fun r_4 u_3 H locs hw hP hD hS => ?_)
        obtain ⟨rfl, rfl⟩ := hw
        have hP : va_P D classes [(a, .inr (2, [.int (nI n), .int (nI g), .int (nI sh), .int (nI al), .ref b1, .ref b2, .ref b3, .ref b4, .ref b5, .ref b6, .ref b7, .ref b8, .ref b9, .ref b10, .int (nI fd)])), (b1, .inl (cI, 36, .inl (nA fx))), (b2, .inl (cI, 36, .inl (nA le))), (b3, .inl (cI, 36, .inl (nA tr))), (b4, .inl (cI, 36, .inl (nA wi))), (b5, .inl (cI, 36, .inl (nA co))), (b6, .inl (cI, 36, .inl (nA ro))), (b7, .inl (cI, 6, .inl (nA uc))), (b8, .inl (cI, 6, .inl (nA ur))), (b9, .inl (cI, 6, .inl (nA pm))), (b10, .inl (cI, 6, .inl (nA qm)))] H := hP
        have hD : va_D A [(a, .inr (2, [.int (nI n), .int (nI g), .int (nI sh), .int (nI al), .ref b1, .ref b2, .ref b3, .ref b4, .ref b5, .ref b6, .ref b7, .ref b8, .ref b9, .ref b10, .int (nI fd)])), (b1, .inl (cI, 36, .inl (nA fx))), (b2, .inl (cI, 36, .inl (nA le))), (b3, .inl (cI, 36, .inl (nA tr))), (b4, .inl (cI, 36, .inl (nA wi))), (b5, .inl (cI, 36, .inl (nA co))), (b6, .inl (cI, 36, .inl (nA ro))), (b7, .inl (cI, 6, .inl (nA uc))), (b8, .inl (cI, 6, .inl (nA ur))), (b9, .inl (cI, 6, .inl (nA pm))), (b10, .inl (cI, 6, .inl (nA qm)))] := hD
        refine lv_istore_n (lv' := [(2, .int (nI (rCh al co ro uc ur k))), (0, .ref a), (1, .int (nI k))]) hx hb d_RC_someNumberLacksPlaces_62 rfl hl (by decide) rfl (fun ls hl => ?_)
        refine lv_aload_n hx hb d_RC_someNumberLacksPlaces_63 rfl (lv_at hl 1 rfl) ?_
        refine va_get (D := D) (ci := 2) (v := .ref b9) (C := R_RC) (T := F_RC) (N := 15) hx hb ho j_RC hown hK hP 0 rfl rfl 12 (by decide) (ho _ kf_RC_36) (fun _ h9 => h9) rfl d_RC_someNumberLacksPlaces_64 ?_
        refine lv_aload_n hx hb d_RC_someNumberLacksPlaces_67 rfl (lv_at hl 1 rfl) ?_
        refine va_get (D := D) (ci := 2) (v := .ref b5) (C := R_RC) (T := F_RC) (N := 15) hx hb ho j_RC hown hK hP 0 rfl rfl 8 (by decide) (ho _ kf_RC_24) (fun _ h9 => h9) rfl d_RC_someNumberLacksPlaces_68 ?_
        refine lv_iload_n hx hb d_RC_someNumberLacksPlaces_71 rfl (lv_at hl 2 rfl) ?_
        refine nr_ialdN hx hb hK hP 5 0 rfl rfl (i := k) (by omega) (by decide) d_RC_someNumberLacksPlaces_72 ?_
        refine lv_dup2_11 hx hb d_RC_someNumberLacksPlaces_73 rfl rfl ?_
        refine nr_ialdN hx hb hK hP 9 0 rfl rfl (i := co k) (by omega) (by decide) d_RC_someNumberLacksPlaces_74 ?_
        refine lv_iload_n hx hb d_RC_someNumberLacksPlaces_75 rfl (lv_at hl 0 rfl) ?_
        refine nr_ior hx hb d_RC_someNumberLacksPlaces_76 ?_
        refine nr_iast hx hb hK hP hD hS 9 0 rfl rfl (i := co k) (x := (pm (co k)) ||| (rCh al co ro uc ur k)) (by omega) (by decide) d_RC_someNumberLacksPlaces_77 (fun H locs hP hD hS => ?_)
        have hP : va_P D classes [(a, .inr (2, [.int (nI n), .int (nI g), .int (nI sh), .int (nI al), .ref b1, .ref b2, .ref b3, .ref b4, .ref b5, .ref b6, .ref b7, .ref b8, .ref b9, .ref b10, .int (nI fd)])), (b1, .inl (cI, 36, .inl (nA fx))), (b2, .inl (cI, 36, .inl (nA le))), (b3, .inl (cI, 36, .inl (nA tr))), (b4, .inl (cI, 36, .inl (nA wi))), (b5, .inl (cI, 36, .inl (nA co))), (b6, .inl (cI, 36, .inl (nA ro))), (b7, .inl (cI, 6, .inl (nA uc))), (b8, .inl (cI, 6, .inl (nA ur))), (b9, .inl (cI, 6, .inl (nA (va_up pm (co k) ((pm (co k)) ||| (rCh al co ro uc ur k)))))), (b10, .inl (cI, 6, .inl (nA qm)))] H := hP
        have hD : va_D A [(a, .inr (2, [.int (nI n), .int (nI g), .int (nI sh), .int (nI al), .ref b1, .ref b2, .ref b3, .ref b4, .ref b5, .ref b6, .ref b7, .ref b8, .ref b9, .ref b10, .int (nI fd)])), (b1, .inl (cI, 36, .inl (nA fx))), (b2, .inl (cI, 36, .inl (nA le))), (b3, .inl (cI, 36, .inl (nA tr))), (b4, .inl (cI, 36, .inl (nA wi))), (b5, .inl (cI, 36, .inl (nA co))), (b6, .inl (cI, 36, .inl (nA ro))), (b7, .inl (cI, 6, .inl (nA uc))), (b8, .inl (cI, 6, .inl (nA ur))), (b9, .inl (cI, 6, .inl (nA (va_up pm (co k) ((pm (co k)) ||| (rCh al co ro uc ur k)))))), (b10, .inl (cI, 6, .inl (nA qm)))] := hD
        refine lv_aload_n hx hb d_RC_someNumberLacksPlaces_78 rfl (lv_at hl 1 rfl) ?_
        refine va_get (D := D) (ci := 2) (v := .ref b10) (C := R_RC) (T := F_RC) (N := 15) hx hb ho j_RC hown hK hP 0 rfl rfl 13 (by decide) (ho _ kf_RC_39) (fun _ h9 => h9) rfl d_RC_someNumberLacksPlaces_79 ?_
        refine lv_aload_n hx hb d_RC_someNumberLacksPlaces_82 rfl (lv_at hl 1 rfl) ?_
        refine va_get (D := D) (ci := 2) (v := .ref b6) (C := R_RC) (T := F_RC) (N := 15) hx hb ho j_RC hown hK hP 0 rfl rfl 9 (by decide) (ho _ kf_RC_27) (fun _ h9 => h9) rfl d_RC_someNumberLacksPlaces_83 ?_
        refine lv_iload_n hx hb d_RC_someNumberLacksPlaces_86 rfl (lv_at hl 2 rfl) ?_
        refine nr_ialdN hx hb hK hP 6 0 rfl rfl (i := k) (by omega) (by decide) d_RC_someNumberLacksPlaces_87 ?_
        refine lv_dup2_11 hx hb d_RC_someNumberLacksPlaces_88 rfl rfl ?_
        refine nr_ialdN hx hb hK hP 10 0 rfl rfl (i := ro k) (by omega) (by decide) d_RC_someNumberLacksPlaces_89 ?_
        refine lv_iload_n hx hb d_RC_someNumberLacksPlaces_90 rfl (lv_at hl 0 rfl) ?_
        refine nr_ior hx hb d_RC_someNumberLacksPlaces_91 ?_
        refine nr_iast hx hb hK hP hD hS 10 0 rfl rfl (i := ro k) (x := (qm (ro k)) ||| (rCh al co ro uc ur k)) (by omega) (by decide) d_RC_someNumberLacksPlaces_92 (fun H locs hP hD hS => ?_)
        have hP : va_P D classes [(a, .inr (2, [.int (nI n), .int (nI g), .int (nI sh), .int (nI al), .ref b1, .ref b2, .ref b3, .ref b4, .ref b5, .ref b6, .ref b7, .ref b8, .ref b9, .ref b10, .int (nI fd)])), (b1, .inl (cI, 36, .inl (nA fx))), (b2, .inl (cI, 36, .inl (nA le))), (b3, .inl (cI, 36, .inl (nA tr))), (b4, .inl (cI, 36, .inl (nA wi))), (b5, .inl (cI, 36, .inl (nA co))), (b6, .inl (cI, 36, .inl (nA ro))), (b7, .inl (cI, 6, .inl (nA uc))), (b8, .inl (cI, 6, .inl (nA ur))), (b9, .inl (cI, 6, .inl (nA (va_up pm (co k) ((pm (co k)) ||| (rCh al co ro uc ur k)))))), (b10, .inl (cI, 6, .inl (nA (va_up qm (ro k) ((qm (ro k)) ||| (rCh al co ro uc ur k))))))] H := hP
        have hD : va_D A [(a, .inr (2, [.int (nI n), .int (nI g), .int (nI sh), .int (nI al), .ref b1, .ref b2, .ref b3, .ref b4, .ref b5, .ref b6, .ref b7, .ref b8, .ref b9, .ref b10, .int (nI fd)])), (b1, .inl (cI, 36, .inl (nA fx))), (b2, .inl (cI, 36, .inl (nA le))), (b3, .inl (cI, 36, .inl (nA tr))), (b4, .inl (cI, 36, .inl (nA wi))), (b5, .inl (cI, 36, .inl (nA co))), (b6, .inl (cI, 36, .inl (nA ro))), (b7, .inl (cI, 6, .inl (nA uc))), (b8, .inl (cI, 6, .inl (nA ur))), (b9, .inl (cI, 6, .inl (nA (va_up pm (co k) ((pm (co k)) ||| (rCh al co ro uc ur k)))))), (b10, .inl (cI, 6, .inl (nA (va_up qm (ro k) ((qm (ro k)) ||| (rCh al co ro uc ur k))))))] := hD
        refine nr_iinc (lv' := [(1, .int (nI (k + 1))), (2, .int (nI (rCh al co ro uc ur k))), (0, .ref a)]) hx hb d_RC_someNumberLacksPlaces_93 hl (k := 2) rfl (by decide) rfl (fun ls hl => ?_)
        refine lv_goto (tgt := 40) hx hb d_RC_someNumberLacksPlaces_96 (by decide) ?_
        exact ih (k + 1) (va_up pm (co k) ((pm (co k)) ||| (rCh al co ro uc ur k))) (va_up qm (ro k) ((qm (ro k)) ||| (rCh al co ro uc ur k))) (by omega) (by omega) (up_lt hpm (or_lt (hpm _) (by omega))) (up_lt hqm (or_lt (hqm _) (by omega))) (by rw [rC2] at hq; dsimp only at hq; rw [if_pos (by omega), if_pos (by omega)] at hq; exact hq) _ _ hP hD hS ls (lv_sub hl [2, 0] rfl)
set_option maxHeartbeats 1000000 in
set_option maxRecDepth 100000 in
theorem L_RC_lk1 {p : Program} {l : Launch} {e : Env} {s : State} {m : MethodId} {args : Array Value} {below : List Frame} {meth : Method} {c : Code} {A : Nat → Prop} {D : va_G} {cI cL : ClassId} {c0 : Cond} {post : Int32 → va_W → Prop} (a b1 b2 b3 b4 b5 b6 b7 b8 b9 b10 n g sh al fd : Nat) (fx le tr wi co ro uc ur : Nat → Nat) (hco : ∀ k, co k < 6) (hro : ∀ k, ro k < 6) (hn : n ≤ 36) (hg : g ≤ 6) (hsh : sh ≤ 6) (hal : al < 128) (htr : ∀ k, tr k < 8) (huc : ∀ k, uc k < 128) (hur : ∀ k, ur k < 128) (E : En p s m args meth c b_RC_someNumberLacksPlaces 3 (c0 :: Om) R_RC (some .boolean) A D [(cI, .int), (cL, .long)]) : ∀ (m1 : Nat) (k : Nat) (pm : Nat → Nat) (qm : Nat → Nat), k ≤ 6 → 6 < k + m1 → (∀ k, pm k < 128) → (∀ k, qm k < 128) → post (nI (rC3 g sh (rC2 n al co ro tr uc ur (n + 1) 0 (rC1 uc m1 k pm, rC1 ur m1 k qm)) (g + 1) 1)) [(a, .inr (2, [.int (nI n), .int (nI g), .int (nI sh), .int (nI al), .ref b1, .ref b2, .ref b3, .ref b4, .ref b5, .ref b6, .ref b7, .ref b8, .ref b9, .ref b10, .int (nI fd)])), (b1, .inl (cI, 36, .inl (nA fx))), (b2, .inl (cI, 36, .inl (nA le))), (b3, .inl (cI, 36, .inl (nA tr))), (b4, .inl (cI, 36, .inl (nA wi))), (b5, .inl (cI, 36, .inl (nA co))), (b6, .inl (cI, 36, .inl (nA ro))), (b7, .inl (cI, 6, .inl (nA uc))), (b8, .inl (cI, 6, .inl (nA ur))), (b9, .inl (cI, 6, .inl (nA ((rC2 n al co ro tr uc ur (n + 1) 0 (rC1 uc m1 k pm, rC1 ur m1 k qm)).1)))), (b10, .inl (cI, 6, .inl (nA ((rC2 n al co ro tr uc ur (n + 1) 0 (rC1 uc m1 k pm, rC1 ur m1 k qm)).2))))] → ∀ (H : Heap) (locs : List Loc), va_P D classes [(a, .inr (2, [.int (nI n), .int (nI g), .int (nI sh), .int (nI al), .ref b1, .ref b2, .ref b3, .ref b4, .ref b5, .ref b6, .ref b7, .ref b8, .ref b9, .ref b10, .int (nI fd)])), (b1, .inl (cI, 36, .inl (nA fx))), (b2, .inl (cI, 36, .inl (nA le))), (b3, .inl (cI, 36, .inl (nA tr))), (b4, .inl (cI, 36, .inl (nA wi))), (b5, .inl (cI, 36, .inl (nA co))), (b6, .inl (cI, 36, .inl (nA ro))), (b7, .inl (cI, 6, .inl (nA uc))), (b8, .inl (cI, 6, .inl (nA ur))), (b9, .inl (cI, 6, .inl (nA pm))), (b10, .inl (cI, 6, .inl (nA qm)))] H → va_D A [(a, .inr (2, [.int (nI n), .int (nI g), .int (nI sh), .int (nI al), .ref b1, .ref b2, .ref b3, .ref b4, .ref b5, .ref b6, .ref b7, .ref b8, .ref b9, .ref b10, .int (nI fd)])), (b1, .inl (cI, 36, .inl (nA fx))), (b2, .inl (cI, 36, .inl (nA le))), (b3, .inl (cI, 36, .inl (nA tr))), (b4, .inl (cI, 36, .inl (nA wi))), (b5, .inl (cI, 36, .inl (nA co))), (b6, .inl (cI, 36, .inl (nA ro))), (b7, .inl (cI, 6, .inl (nA uc))), (b8, .inl (cI, 6, .inl (nA ur))), (b9, .inl (cI, 6, .inl (nA pm))), (b10, .inl (cI, 6, .inl (nA qm)))] → va_S A s.heap H locs → ∀ ls : Array Slot, lv_has ls 3 [(0, .ref a), (1, .int (nI k))] → W p l e { frames := 1, cells := 0, slots := 0, locals := 26 } s m args below meth c H locs 0 0 (MQ below (qI D [(cI, .int), (cL, .long)] post A) args s 0 0 A) (F0 m 2 ls []) := by
  obtain ⟨hx, hb, hml, hown, hts, hr, hlk, hA, hK, hN⟩ := id E
  have ho : ∀ q ∈ Om, q.before _ s = true := fun q h => hts q (List.mem_cons_of_mem _ h)
  intro m1
  induction m1 with
  | zero =>
    intro k pm qm h1 h2 hpm hqm hq
    exact absurd h2 (by omega)
  | succ m1 ih =>
    intro k pm qm h1 h2 hpm hqm hq H locs hP hD hS ls hl
    refine lv_iload_n hx hb d_RC_someNumberLacksPlaces_2 rfl (lv_at hl 1 rfl) ?_
    refine lv_bipush (v := nI 6) hx hb d_RC_someNumberLacksPlaces_3 (by decide) ?_
    refine nr_icmp_ge (tgt := 38) hx hb d_RC_someNumberLacksPlaces_5 (by decide) (by omega) (by omega) (fun h_1 => ?_) (fun h_1 => ?_)
    · refine lv_iconst (v := nI 0) hx hb d_RC_someNumberLacksPlaces_38 (by decide) ?_
      refine lv_istore_n (lv' := [(1, .int (nI 0)), (0, .ref a)]) hx hb d_RC_someNumberLacksPlaces_39 rfl hl (by decide) rfl (fun ls hl => ?_)
      exact L_RC_lk2 a b1 b2 b3 b4 b5 b6 b7 b8 b9 b10 n g sh al fd fx le tr wi co ro uc ur hco hro hn hg hsh hal htr huc hur E (n + 1) 0 pm qm (by omega) (by omega) hpm hqm (by rw [rC1, rC1, if_neg (by omega), if_neg (by omega)] at hq; exact hq) _ _ hP hD hS ls (lv_sub hl [1, 0] rfl)
    · refine lv_aload_n hx hb d_RC_someNumberLacksPlaces_8 rfl (lv_at hl 0 rfl) ?_
      refine va_get (D := D) (ci := 2) (v := .ref b9) (C := R_RC) (T := F_RC) (N := 15) hx hb ho j_RC hown hK hP 0 rfl rfl 12 (by decide) (ho _ kf_RC_36) (fun _ h9 => h9) rfl d_RC_someNumberLacksPlaces_9 ?_
      refine lv_iload_n hx hb d_RC_someNumberLacksPlaces_12 rfl (lv_at hl 1 rfl) ?_
      refine lv_aload_n hx hb d_RC_someNumberLacksPlaces_13 rfl (lv_at hl 0 rfl) ?_
      refine va_get (D := D) (ci := 2) (v := .ref b7) (C := R_RC) (T := F_RC) (N := 15) hx hb ho j_RC hown hK hP 0 rfl rfl 10 (by decide) (ho _ kf_RC_30) (fun _ h9 => h9) rfl d_RC_someNumberLacksPlaces_14 ?_
      refine lv_iload_n hx hb d_RC_someNumberLacksPlaces_17 rfl (lv_at hl 1 rfl) ?_
      refine nr_ialdN hx hb hK hP 7 0 rfl rfl (i := k) (by omega) (by decide) d_RC_someNumberLacksPlaces_18 ?_
      refine nr_iast hx hb hK hP hD hS 9 0 rfl rfl (i := k) (x := uc k) (by omega) (by decide) d_RC_someNumberLacksPlaces_19 (fun H locs hP hD hS => ?_)
      have hP : va_P D classes [(a, .inr (2, [.int (nI n), .int (nI g), .int (nI sh), .int (nI al), .ref b1, .ref b2, .ref b3, .ref b4, .ref b5, .ref b6, .ref b7, .ref b8, .ref b9, .ref b10, .int (nI fd)])), (b1, .inl (cI, 36, .inl (nA fx))), (b2, .inl (cI, 36, .inl (nA le))), (b3, .inl (cI, 36, .inl (nA tr))), (b4, .inl (cI, 36, .inl (nA wi))), (b5, .inl (cI, 36, .inl (nA co))), (b6, .inl (cI, 36, .inl (nA ro))), (b7, .inl (cI, 6, .inl (nA uc))), (b8, .inl (cI, 6, .inl (nA ur))), (b9, .inl (cI, 6, .inl (nA (va_up pm k (uc k))))), (b10, .inl (cI, 6, .inl (nA qm)))] H := hP
      have hD : va_D A [(a, .inr (2, [.int (nI n), .int (nI g), .int (nI sh), .int (nI al), .ref b1, .ref b2, .ref b3, .ref b4, .ref b5, .ref b6, .ref b7, .ref b8, .ref b9, .ref b10, .int (nI fd)])), (b1, .inl (cI, 36, .inl (nA fx))), (b2, .inl (cI, 36, .inl (nA le))), (b3, .inl (cI, 36, .inl (nA tr))), (b4, .inl (cI, 36, .inl (nA wi))), (b5, .inl (cI, 36, .inl (nA co))), (b6, .inl (cI, 36, .inl (nA ro))), (b7, .inl (cI, 6, .inl (nA uc))), (b8, .inl (cI, 6, .inl (nA ur))), (b9, .inl (cI, 6, .inl (nA (va_up pm k (uc k))))), (b10, .inl (cI, 6, .inl (nA qm)))] := hD
      refine lv_aload_n hx hb d_RC_someNumberLacksPlaces_20 rfl (lv_at hl 0 rfl) ?_
      refine va_get (D := D) (ci := 2) (v := .ref b10) (C := R_RC) (T := F_RC) (N := 15) hx hb ho j_RC hown hK hP 0 rfl rfl 13 (by decide) (ho _ kf_RC_39) (fun _ h9 => h9) rfl d_RC_someNumberLacksPlaces_21 ?_
      refine lv_iload_n hx hb d_RC_someNumberLacksPlaces_24 rfl (lv_at hl 1 rfl) ?_
      refine lv_aload_n hx hb d_RC_someNumberLacksPlaces_25 rfl (lv_at hl 0 rfl) ?_
      refine va_get (D := D) (ci := 2) (v := .ref b8) (C := R_RC) (T := F_RC) (N := 15) hx hb ho j_RC hown hK hP 0 rfl rfl 11 (by decide) (ho _ kf_RC_33) (fun _ h9 => h9) rfl d_RC_someNumberLacksPlaces_26 ?_
      refine lv_iload_n hx hb d_RC_someNumberLacksPlaces_29 rfl (lv_at hl 1 rfl) ?_
      refine nr_ialdN hx hb hK hP 8 0 rfl rfl (i := k) (by omega) (by decide) d_RC_someNumberLacksPlaces_30 ?_
      refine nr_iast hx hb hK hP hD hS 10 0 rfl rfl (i := k) (x := ur k) (by omega) (by decide) d_RC_someNumberLacksPlaces_31 (fun H locs hP hD hS => ?_)
      have hP : va_P D classes [(a, .inr (2, [.int (nI n), .int (nI g), .int (nI sh), .int (nI al), .ref b1, .ref b2, .ref b3, .ref b4, .ref b5, .ref b6, .ref b7, .ref b8, .ref b9, .ref b10, .int (nI fd)])), (b1, .inl (cI, 36, .inl (nA fx))), (b2, .inl (cI, 36, .inl (nA le))), (b3, .inl (cI, 36, .inl (nA tr))), (b4, .inl (cI, 36, .inl (nA wi))), (b5, .inl (cI, 36, .inl (nA co))), (b6, .inl (cI, 36, .inl (nA ro))), (b7, .inl (cI, 6, .inl (nA uc))), (b8, .inl (cI, 6, .inl (nA ur))), (b9, .inl (cI, 6, .inl (nA (va_up pm k (uc k))))), (b10, .inl (cI, 6, .inl (nA (va_up qm k (ur k)))))] H := hP
      have hD : va_D A [(a, .inr (2, [.int (nI n), .int (nI g), .int (nI sh), .int (nI al), .ref b1, .ref b2, .ref b3, .ref b4, .ref b5, .ref b6, .ref b7, .ref b8, .ref b9, .ref b10, .int (nI fd)])), (b1, .inl (cI, 36, .inl (nA fx))), (b2, .inl (cI, 36, .inl (nA le))), (b3, .inl (cI, 36, .inl (nA tr))), (b4, .inl (cI, 36, .inl (nA wi))), (b5, .inl (cI, 36, .inl (nA co))), (b6, .inl (cI, 36, .inl (nA ro))), (b7, .inl (cI, 6, .inl (nA uc))), (b8, .inl (cI, 6, .inl (nA ur))), (b9, .inl (cI, 6, .inl (nA (va_up pm k (uc k))))), (b10, .inl (cI, 6, .inl (nA (va_up qm k (ur k)))))] := hD
      refine nr_iinc (lv' := [(1, .int (nI (k + 1))), (0, .ref a)]) hx hb d_RC_someNumberLacksPlaces_32 hl (k := 1) rfl (by decide) rfl (fun ls hl => ?_)
      refine lv_goto (tgt := 2) hx hb d_RC_someNumberLacksPlaces_35 (by decide) ?_
      exact ih (k + 1) (va_up pm k (uc k)) (va_up qm k (ur k)) (by omega) (by omega) (up_lt hpm (huc k)) (up_lt hqm (hur k)) (by rw [rC1, rC1, if_pos (by omega), if_pos (by omega)] at hq; exact hq) _ _ hP hD hS ls (lv_sub hl [1, 0] rfl)
set_option maxHeartbeats 1000000 in
set_option maxRecDepth 100000 in
theorem c_RC_lacks (l : Launch) (D : va_G) (cI cL : ClassId) (a b1 b2 b3 b4 b5 b6 b7 b8 b9 b10 n g sh al fd : Nat) (fx le tr wi co ro uc ur pm qm : Nat → Nat) (hco : ∀ k, co k < 6) (hro : ∀ k, ro k < 6) (hn : n ≤ 36) (hg : g ≤ 6) (hsh : sh ≤ 6) (hal : al < 128) (htr : ∀ k, tr k < 8) (huc : ∀ k, uc k < 128) (hur : ∀ k, ur k < 128) (hpm : ∀ k, pm k < 128) (hqm : ∀ k, qm k < 128) : CI l y_RC_someNumberLacksPlaces (.code y_RC_someNumberLacksPlaces b_RC_someNumberLacksPlaces 3 (some .boolean) :: Om) { frames := 1, cells := 0, slots := 0, locals := 26 } D [(a, .inr (2, [.int (nI n), .int (nI g), .int (nI sh), .int (nI al), .ref b1, .ref b2, .ref b3, .ref b4, .ref b5, .ref b6, .ref b7, .ref b8, .ref b9, .ref b10, .int (nI fd)])), (b1, .inl (cI, 36, .inl (nA fx))), (b2, .inl (cI, 36, .inl (nA le))), (b3, .inl (cI, 36, .inl (nA tr))), (b4, .inl (cI, 36, .inl (nA wi))), (b5, .inl (cI, 36, .inl (nA co))), (b6, .inl (cI, 36, .inl (nA ro))), (b7, .inl (cI, 6, .inl (nA uc))), (b8, .inl (cI, 6, .inl (nA ur))), (b9, .inl (cI, 6, .inl (nA pm))), (b10, .inl (cI, 6, .inl (nA qm)))] [(cI, .int), (cL, .long)] [.ref a] (fun r u => r = nI (rLk n g sh al co ro tr uc ur pm qm) ∧ u = [(a, .inr (2, [.int (nI n), .int (nI g), .int (nI sh), .int (nI al), .ref b1, .ref b2, .ref b3, .ref b4, .ref b5, .ref b6, .ref b7, .ref b8, .ref b9, .ref b10, .int (nI fd)])), (b1, .inl (cI, 36, .inl (nA fx))), (b2, .inl (cI, 36, .inl (nA le))), (b3, .inl (cI, 36, .inl (nA tr))), (b4, .inl (cI, 36, .inl (nA wi))), (b5, .inl (cI, 36, .inl (nA co))), (b6, .inl (cI, 36, .inl (nA ro))), (b7, .inl (cI, 6, .inl (nA uc))), (b8, .inl (cI, 6, .inl (nA ur))), (b9, .inl (cI, 6, .inl (nA ((rPs n al co ro tr uc ur pm qm).1)))), (b10, .inl (cI, 6, .inl (nA ((rPs n al co ro tr uc ur pm qm).2))))]) := by
  refine en_of (cc := b_RC_someNumberLacksPlaces) (Qc := qI D [(cI, .int), (cL, .long)] (fun r u => r = nI (rLk n g sh al co ro tr uc ur pm qm) ∧ u = [(a, .inr (2, [.int (nI n), .int (nI g), .int (nI sh), .int (nI al), .ref b1, .ref b2, .ref b3, .ref b4, .ref b5, .ref b6, .ref b7, .ref b8, .ref b9, .ref b10, .int (nI fd)])), (b1, .inl (cI, 36, .inl (nA fx))), (b2, .inl (cI, 36, .inl (nA le))), (b3, .inl (cI, 36, .inl (nA tr))), (b4, .inl (cI, 36, .inl (nA wi))), (b5, .inl (cI, 36, .inl (nA co))), (b6, .inl (cI, 36, .inl (nA ro))), (b7, .inl (cI, 6, .inl (nA uc))), (b8, .inl (cI, 6, .inl (nA ur))), (b9, .inl (cI, 6, .inl (nA ((rPs n al co ro tr uc ur pm qm).1)))), (b10, .inl (cI, 6, .inl (nA ((rPs n al co ro tr uc ur pm qm).2))))])) (by decide) rfl (Nat.le_of_ble_eq_true rfl) ?_
  intro p e s m below meth c A E hnm hP hD hS ls hl
  have hl : lv_has ls 3 [(0, .ref a)] := hl
  obtain ⟨hx, hb, hml, hown, hts, hr, hlk, hA, hK, hN⟩ := id E
  have ho : ∀ q ∈ Om, q.before _ s = true := fun q h => hts q (List.mem_cons_of_mem _ h)
  refine lv_iconst (v := nI 0) hx hb d_RC_someNumberLacksPlaces_0 (by decide) ?_
  refine lv_istore_n (lv' := [(1, .int (nI 0)), (0, .ref a)]) hx hb d_RC_someNumberLacksPlaces_1 rfl hl (by decide) rfl (fun ls hl => ?_)
  exact L_RC_lk1 a b1 b2 b3 b4 b5 b6 b7 b8 b9 b10 n g sh al fd fx le tr wi co ro uc ur hco hro hn hg hsh hal htr huc hur E 7 0 pm qm (by omega) (by omega) hpm hqm ⟨rfl, rfl⟩ _ _ hP hD hS ls (lv_sub hl [1, 0] rfl)
end
section
/-! Rectangle: counting, filling up -/
theorem nfw7 : nativeFrameWords "java/lang/System" "arraycopy" 5 = 7 := by decide
theorem nr_copy {p : Program} {l : Launch} {e : Env} {R : Room} {s : State} {m : MethodId} {args : Array Value} {below : List Frame} {meth : Method} {c : Code} {H H0 : Heap} {locs : List Loc} {cells slots : Nat} {Q : State → Prop} {pc : Nat} {ls : Array Slot} {rest : List Value} {cc : ByteArray} {D : va_G} {cl : List vw_C} {tys : List (ClassId × FieldType)} {ws : va_W} {A : Nat → Prop} {a : Nat} (hx : p.tables.exec = Jvm.exec) (hb : c.code = cc) (hml : c.maxLocals = ls.size) {own : String} {index : Nat} (hown : s.vm.findClass own = some m.cls) (hlink : (Cond.methodLink own index arraycopyName).before args s = true) (hnat : (Cond.native arraycopyName).before args s = true) (hstat : (Cond.static arraycopyName).before args s = true) (hini : (Cond.initialized "java/lang/System").before args s = true)
    (hK : va_K D cl tys s) (hP : va_P D cl ws H) (hD : va_D A ws) (hS : va_S A H0 H locs) (q0 q1 t0 : Nat) {a0 : Nat} {c0 : ClassId} {n0 n1 k : Nat} {f g : Nat → Nat} (ha0 : ws[q0]? = some (a0, .inl (c0, n0, .inl (nA f)))) (ha1 : ws[q1]? = some (a, .inl (c0, n1, .inl (nA g)))) (ht0 : tys[t0]? = some (c0, .int)) (hk0 : k ≤ n0) (hk1 : k ≤ n1) (hk2 : k < 2 ^ 31)
    (hframes : 1 ≤ R.frames) (hW : (rest.map fun v => v.category).sum ≤ 8) (hlocals : 26 ≤ R.locals) (hdg : decode cc pc = .ok (.invokestatic index, 3))
    (kk : ∀ (H1 : Heap) (locs1 : List Loc), va_P D cl (ws.set q1 (a, .inl (c0, n1, .inl (nA (va_cpy f g 0 0 k))))) H1 → va_D A (ws.set q1 (a, .inl (c0, n1, .inl (nA (va_cpy f g 0 0 k))))) → va_S A H0 H1 locs1 → W p l e R s m args below meth c H1 locs1 cells slots Q (F0 m (pc + 3) ls rest)) : W p l e R s m args below meth c H locs cells slots Q (F0 m pc ls (.int (nI k) :: .int (nI 0) :: .ref a :: .int (nI 0) :: .ref a0 :: rest)) := by
  have z : (nI 0).toNatClampNeg = 0 := nI_clamp (by decide)
  have kc : (nI k).toNatClampNeg = k := nI_clamp hk2
  refine va_copyi hx hb hml hown hlink hnat hstat hini hK hP hD hS q0 q1 t0 t0 ha0 ha1 ht0 ht0 rfl (nI_pos (by decide)) (nI_pos (by decide)) (nI_pos hk2) (by rw [z, kc]; omega) (by rw [z, kc]; omega) (fun _ _ => rfl) hframes (by rw [nfw7]; omega) hdg ?_
  rw [z, kc, nA_cpy]
  exact kk
abbrev S6 : Type := (Nat → Nat) × (Nat → Nat) × (Nat → Nat) × (Nat → Nat) × (Nat → Nat) × (Nat → Nat)
abbrev sPut (co ro : Nat → Nat) (st : S6) (k v : Nat) : S6 := (va_up st.1 k v, rPut st.2.1 (co k) v, rPut st.2.2.1 (ro k) v, st.2.2.2)
abbrev sTake (co ro : Nat → Nat) (st : S6) (k v : Nat) : S6 := (va_up st.1 k 0, rTake st.2.1 (co k) v, rTake st.2.2.1 (ro k) v, st.2.2.2)
abbrev sWit (st : S6) : S6 := (st.1, st.2.1, st.2.2.1, va_cpy st.1 st.2.2.2.1 0 0 36, st.2.2.2.2)
abbrev sNo (n g al : Nat) (co ro : Nat → Nat) (st : S6) : Nat := rNo n g al co ro st.1 st.2.1 st.2.2.1
abbrev sCh (al : Nat) (co ro : Nat → Nat) (st : S6) (k : Nat) : Nat := rCh al co ro st.2.1 st.2.2.1 k
abbrev sLk (n g sh al : Nat) (co ro : Nat → Nat) (st : S6) : Nat := rLk n g sh al co ro st.1 st.2.1 st.2.2.1 st.2.2.2.2.1 st.2.2.2.2.2
abbrev sPs (n al : Nat) (co ro : Nat → Nat) (st : S6) : S6 := (st.1, st.2.1, st.2.2.1, st.2.2.2.1, rPs n al co ro st.1 st.2.1 st.2.2.1 st.2.2.2.2.1 st.2.2.2.2.2)
def cW (g : Nat) (co ro : Nat → Nat) (go : Nat → S6 → Nat × S6) (k ch most : Nat) : Nat → Nat → Nat → S6 → Nat × S6
  | 0, _, cnt, st => (cnt, st)
  | m + 1, v, cnt, st => if v ≤ g ∧ cnt < most then (if ch / 2 ^ v % 2 = 0 then cW g co ro go k ch most m (v + 1) cnt st else cW g co ro go k ch most m (v + 1) (cnt + (go (most - cnt) (sPut co ro st k v)).1) (sTake co ro (go (most - cnt) (sPut co ro st k v)).2 k v)) else (cnt, st)
/-- how many rectangles, most at the most; e levels are left -/
def cF (n g sh al : Nat) (co ro : Nat → Nat) : Nat → Nat → S6 → Nat × S6
  | 0, _, st => if sNo n g al co ro st = 0 then (1, sWit st) else (0, st)
  | e + 1, most, st => if sNo n g al co ro st = 0 then (1, sWit st) else if 1 < pop 32 (sCh al co ro st (sNo n g al co ro st - 1)) then (if sLk n g sh al co ro st = 0 then cW g co ro (cF n g sh al co ro e) (sNo n g al co ro st - 1) (sCh al co ro st (sNo n g al co ro st - 1)) most (g + 1) 1 0 (sPs n al co ro st) else (0, sPs n al co ro st)) else cW g co ro (cF n g sh al co ro e) (sNo n g al co ro st - 1) (sCh al co ro st (sNo n g al co ro st - 1)) most (g + 1) 1 0 st
abbrev Iv (st : S6) : Prop := (∀ k, st.1 k < 8) ∧ (∀ k, st.2.1 k < 128) ∧ (∀ k, st.2.2.1 k < 128) ∧ (∀ k, st.2.2.2.1 k < 8) ∧ (∀ k, st.2.2.2.2.1 k < 128) ∧ (∀ k, st.2.2.2.2.2 k < 128)
theorem iv_put {co ro : Nat → Nat} {st : S6} {k v : Nat} (h : Iv st) (hv : v < 7) : Iv (sPut co ro st k v) := ⟨up_lt h.1 (by omega), rPut_lt h.2.1 hv, rPut_lt h.2.2.1 hv, h.2.2.2⟩
theorem iv_take {co ro : Nat → Nat} {st : S6} {k v : Nat} (h : Iv st) : Iv (sTake co ro st k v) := ⟨up_lt h.1 (by decide), rTake_lt h.2.1, rTake_lt h.2.2.1, h.2.2.2⟩
theorem iv_wit {st : S6} (h : Iv st) : Iv (sWit st) := ⟨h.1, h.2.1, h.2.2.1, fun k => by
  show va_cpy st.1 st.2.2.2.1 0 0 36 k < 8
  unfold va_cpy
  split
  · exact h.1 _
  · exact h.2.2.2.1 _, h.2.2.2.2⟩
theorem rC1_lt {src : Nat → Nat} (hs : ∀ k, src k < 128) : ∀ m k f, (∀ j, f j < 128) → ∀ j, rC1 src m k f j < 128 := by
  intro m
  induction m with
  | zero => intro k f hf; exact hf
  | succ m ih =>
    intro k f hf
    rw [rC1]
    split
    · exact ih _ _ (up_lt hf (hs k))
    · exact hf
theorem rC2_lt {n al : Nat} {co ro tr uc ur : Nat → Nat} (hal : al < 128) : ∀ m k (st : S2), ((∀ j, st.1 j < 128) ∧ ∀ j, st.2 j < 128) → (∀ j, (rC2 n al co ro tr uc ur m k st).1 j < 128) ∧ ∀ j, (rC2 n al co ro tr uc ur m k st).2 j < 128 := by
  intro m
  induction m with
  | zero => intro k st hs; exact hs
  | succ m ih =>
    intro k st hs
    have hc := Nat.lt_of_le_of_lt (rCh_le al co ro uc ur k) hal
    rw [rC2]
    split
    · split
      · exact ih _ _ ⟨up_lt hs.1 (or_lt (hs.1 _) hc), up_lt hs.2 (or_lt (hs.2 _) hc)⟩
      · exact ih _ _ hs
    · exact hs
theorem iv_ps {n al : Nat} {co ro : Nat → Nat} {st : S6} (hal : al < 128) (h : Iv st) : Iv (sPs n al co ro st) :=
  ⟨h.1, h.2.1, h.2.2.1, h.2.2.2.1, rC2_lt hal _ _ _ ⟨rC1_lt h.2.1 _ _ _ h.2.2.2.2.1, rC1_lt h.2.2.1 _ _ _ h.2.2.2.2.2⟩⟩
theorem cW_ok {g : Nat} {co ro : Nat → Nat} {go : Nat → S6 → Nat × S6} {k ch most : Nat} (hg : g ≤ 6) (hgo : ∀ x st, 1 ≤ x → Iv st → (go x st).1 ≤ x ∧ Iv (go x st).2) : ∀ m v cnt st, cnt ≤ most → Iv st → (cW g co ro go k ch most m v cnt st).1 ≤ most ∧ Iv (cW g co ro go k ch most m v cnt st).2 := by
  intro m
  induction m with
  | zero => intro v cnt st h1 h2; exact ⟨h1, h2⟩
  | succ m ih =>
    intro v cnt st h1 h2
    rw [cW]
    split
    · rename_i hv
      split
      · exact ih _ _ _ h1 h2
      · obtain ⟨g1, g2⟩ := hgo (most - cnt) (sPut co ro st k v) (by omega) (iv_put h2 (by omega))
        exact ih _ _ _ (by omega) (iv_take g2)
    · exact ⟨h1, h2⟩
theorem cF_ok {n g sh al : Nat} {co ro : Nat → Nat} (hg : g ≤ 6) (hal : al < 128) : ∀ e most st, 1 ≤ most → Iv st → (cF n g sh al co ro e most st).1 ≤ most ∧ Iv (cF n g sh al co ro e most st).2 := by
  intro e
  induction e with
  | zero =>
    intro most st h1 h2
    rw [cF]
    split
    · exact ⟨h1, iv_wit h2⟩
    · exact ⟨Nat.zero_le _, h2⟩
  | succ e ih =>
    intro most st h1 h2
    rw [cF]
    split
    · exact ⟨h1, iv_wit h2⟩
    · split
      · split
        · exact cW_ok hg ih _ _ _ _ (Nat.zero_le _) (iv_ps hal h2)
        · exact ⟨Nat.zero_le _, iv_ps hal h2⟩
      · exact cW_ok hg ih _ _ _ _ (Nat.zero_le _) h2
set_option maxHeartbeats 1000000 in
set_option maxRecDepth 100000 in
theorem L_RC_countWith {p : Program} {l : Launch} {e : Env} {s : State} {m : MethodId} {args : Array Value} {below : List Frame} {meth : Method} {c : Code} {A : Nat → Prop} {D : va_G} {cI cL : ClassId} {c0 : Cond} {post : Int32 → va_W → Prop} (a b1 b2 b3 b4 b5 b6 b7 b8 b9 b10 n g sh al fd : Nat) (fx le co ro : Nat → Nat) (e0 k ch most : Nat) (he : e0 + 1 ≤ 36) (hk : k < 36) (hch : ch < 128) (hm : most < 2 ^ 31) (hco : ∀ k, co k < 6) (hro : ∀ k, ro k < 6) (hn : n ≤ 36) (hg : g ≤ 6) (hsh : sh ≤ 6) (hal : al < 128) (hF : ∀ (most : Nat) (st : S6), 1 ≤ most → most < 2 ^ 31 → Iv st → CI l y_RC_countFrom (.code y_RC_countFrom b_RC_countFrom 6 (some .int) :: Om) { frames := 2 * e0 + 3, cells := 0, slots := 0, locals := 60 * e0 + 80 } D [(a, .inr (2, [.int (nI n), .int (nI g), .int (nI sh), .int (nI al), .ref b1, .ref b2, .ref b3, .ref b4, .ref b5, .ref b6, .ref b7, .ref b8, .ref b9, .ref b10, .int (nI fd)])), (b1, .inl (cI, 36, .inl (nA fx))), (b2, .inl (cI, 36, .inl (nA le))), (b3, .inl (cI, 36, .inl (nA st.1))), (b4, .inl (cI, 36, .inl (nA st.2.2.2.1))), (b5, .inl (cI, 36, .inl (nA co))), (b6, .inl (cI, 36, .inl (nA ro))), (b7, .inl (cI, 6, .inl (nA st.2.1))), (b8, .inl (cI, 6, .inl (nA st.2.2.1))), (b9, .inl (cI, 6, .inl (nA st.2.2.2.2.1))), (b10, .inl (cI, 6, .inl (nA st.2.2.2.2.2)))] [(cI, .int), (cL, .long)] [.ref a, .int (nI (36 - e0)), .int (nI most)] (fun r u => r = nI (cF n g sh al co ro e0 most st).1 ∧ u = [(a, .inr (2, [.int (nI n), .int (nI g), .int (nI sh), .int (nI al), .ref b1, .ref b2, .ref b3, .ref b4, .ref b5, .ref b6, .ref b7, .ref b8, .ref b9, .ref b10, .int (nI fd)])), (b1, .inl (cI, 36, .inl (nA fx))), (b2, .inl (cI, 36, .inl (nA le))), (b3, .inl (cI, 36, .inl (nA (((cF n g sh al co ro e0 most st).2).1)))), (b4, .inl (cI, 36, .inl (nA (((cF n g sh al co ro e0 most st).2).2.2.2.1)))), (b5, .inl (cI, 36, .inl (nA co))), (b6, .inl (cI, 36, .inl (nA ro))), (b7, .inl (cI, 6, .inl (nA (((cF n g sh al co ro e0 most st).2).2.1)))), (b8, .inl (cI, 6, .inl (nA (((cF n g sh al co ro e0 most st).2).2.2.1)))), (b9, .inl (cI, 6, .inl (nA (((cF n g sh al co ro e0 most st).2).2.2.2.2.1)))), (b10, .inl (cI, 6, .inl (nA (((cF n g sh al co ro e0 most st).2).2.2.2.2.2))))])) (E : En p s m args meth c b_RC_countWith 7 (c0 :: Om) R_RC (some .int) A D [(cI, .int), (cL, .long)]) : ∀ (m1 : Nat) (v : Nat) (cnt : Nat) (st : S6), 1 ≤ v → v ≤ g + 1 → g + 1 < v + m1 → cnt ≤ most → Iv st → post (nI (cW g co ro (cF n g sh al co ro e0) k ch most m1 v cnt st).1) [(a, .inr (2, [.int (nI n), .int (nI g), .int (nI sh), .int (nI al), .ref b1, .ref b2, .ref b3, .ref b4, .ref b5, .ref b6, .ref b7, .ref b8, .ref b9, .ref b10, .int (nI fd)])), (b1, .inl (cI, 36, .inl (nA fx))), (b2, .inl (cI, 36, .inl (nA le))), (b3, .inl (cI, 36, .inl (nA (((cW g co ro (cF n g sh al co ro e0) k ch most m1 v cnt st).2).1)))), (b4, .inl (cI, 36, .inl (nA (((cW g co ro (cF n g sh al co ro e0) k ch most m1 v cnt st).2).2.2.2.1)))), (b5, .inl (cI, 36, .inl (nA co))), (b6, .inl (cI, 36, .inl (nA ro))), (b7, .inl (cI, 6, .inl (nA (((cW g co ro (cF n g sh al co ro e0) k ch most m1 v cnt st).2).2.1)))), (b8, .inl (cI, 6, .inl (nA (((cW g co ro (cF n g sh al co ro e0) k ch most m1 v cnt st).2).2.2.1)))), (b9, .inl (cI, 6, .inl (nA (((cW g co ro (cF n g sh al co ro e0) k ch most m1 v cnt st).2).2.2.2.2.1)))), (b10, .inl (cI, 6, .inl (nA (((cW g co ro (cF n g sh al co ro e0) k ch most m1 v cnt st).2).2.2.2.2.2))))] → ∀ (H : Heap) (locs : List Loc), va_P D classes [(a, .inr (2, [.int (nI n), .int (nI g), .int (nI sh), .int (nI al), .ref b1, .ref b2, .ref b3, .ref b4, .ref b5, .ref b6, .ref b7, .ref b8, .ref b9, .ref b10, .int (nI fd)])), (b1, .inl (cI, 36, .inl (nA fx))), (b2, .inl (cI, 36, .inl (nA le))), (b3, .inl (cI, 36, .inl (nA st.1))), (b4, .inl (cI, 36, .inl (nA st.2.2.2.1))), (b5, .inl (cI, 36, .inl (nA co))), (b6, .inl (cI, 36, .inl (nA ro))), (b7, .inl (cI, 6, .inl (nA st.2.1))), (b8, .inl (cI, 6, .inl (nA st.2.2.1))), (b9, .inl (cI, 6, .inl (nA st.2.2.2.2.1))), (b10, .inl (cI, 6, .inl (nA st.2.2.2.2.2)))] H → va_D A [(a, .inr (2, [.int (nI n), .int (nI g), .int (nI sh), .int (nI al), .ref b1, .ref b2, .ref b3, .ref b4, .ref b5, .ref b6, .ref b7, .ref b8, .ref b9, .ref b10, .int (nI fd)])), (b1, .inl (cI, 36, .inl (nA fx))), (b2, .inl (cI, 36, .inl (nA le))), (b3, .inl (cI, 36, .inl (nA st.1))), (b4, .inl (cI, 36, .inl (nA st.2.2.2.1))), (b5, .inl (cI, 36, .inl (nA co))), (b6, .inl (cI, 36, .inl (nA ro))), (b7, .inl (cI, 6, .inl (nA st.2.1))), (b8, .inl (cI, 6, .inl (nA st.2.2.1))), (b9, .inl (cI, 6, .inl (nA st.2.2.2.2.1))), (b10, .inl (cI, 6, .inl (nA st.2.2.2.2.2)))] → va_S A s.heap H locs → ∀ ls : Array Slot, lv_has ls 7 [(0, .ref a), (1, .int (nI k)), (2, .int (nI ch)), (3, .int (nI (36 - (e0 + 1)))), (4, .int (nI most)), (5, .int (nI cnt)), (6, .int (nI v))] → W p l e { frames := 2 * e0 + 4, cells := 0, slots := 0, locals := 60 * e0 + 105 } s m args below meth c H locs 0 0 (MQ below (qI D [(cI, .int), (cL, .long)] post A) args s 0 0 A) (F0 m 6 ls []) := by
  obtain ⟨hx, hb, hml, hown, hts, hr, hlk, hA, hK, hN⟩ := id E
  have ho : ∀ q ∈ Om, q.before _ s = true := fun q h => hts q (List.mem_cons_of_mem _ h)
  intro m1
  induction m1 with
  | zero =>
    intro v cnt st h0 h1 h2 hc hiv hq
    exact absurd h2 (by omega)
  | succ m1 ih =>
    intro v cnt st h0 h1 h2 hc hiv hq H locs hP hD hS ls hl
    refine lv_iload hx hb d_RC_countWith_6 (lv_at hl 6 rfl) ?_
    refine lv_aload_n hx hb d_RC_countWith_8 rfl (lv_at hl 0 rfl) ?_
    refine va_get (D := D) (ci := 2) (v := .int (nI g)) (C := R_RC) (T := F_RC) (N := 15) hx hb ho j_RC hown hK hP 0 rfl rfl 1 (by decide) (ho _ kf_RC_55) (fun _ h9 => h9) rfl d_RC_countWith_9 ?_
    refine nr_icmp_gt (tgt := 68) hx hb d_RC_countWith_12 (by decide) (by omega) (by omega) (fun h_1 => ?_) (fun h_1 => ?_)
    · refine lv_iload hx hb d_RC_countWith_68 (lv_at hl 5 rfl) ?_
      exact rt_i E hP hD hS (by rw [cW, if_neg (by omega)] at hq; exact hq) d_RC_countWith_70
    · refine lv_iload hx hb d_RC_countWith_15 (lv_at hl 5 rfl) ?_
      refine lv_iload hx hb d_RC_countWith_17 (lv_at hl 4 rfl) ?_
      refine nr_icmp_ge (tgt := 68) hx hb d_RC_countWith_19 (by decide) (by omega) (by omega) (fun h_2 => ?_) (fun h_2 => ?_)
      · refine lv_iload hx hb d_RC_countWith_68 (lv_at hl 5 rfl) ?_
        exact rt_i E hP hD hS (by rw [cW, if_neg (by omega)] at hq; exact hq) d_RC_countWith_70
      · refine lv_iload_n hx hb d_RC_countWith_22 rfl (lv_at hl 2 rfl) ?_
        refine lv_iload hx hb d_RC_countWith_23 (lv_at hl 6 rfl) ?_
        refine nr_iushr hx hb d_RC_countWith_25 (by omega) (by omega) ?_
        refine lv_iconst (v := nI 1) hx hb d_RC_countWith_26 (by decide) ?_
        refine nr_iand1 hx hb d_RC_countWith_27 ?_
        refine nr_if_eq (tgt := 62) hx hb d_RC_countWith_28 (by decide) (by omega) (fun h_3 => ?_) (fun h_3 => ?_)
        · refine nr_iinc (lv' := [(6, .int (nI (v + 1))), (0, .ref a), (1, .int (nI k)), (2, .int (nI ch)), (3, .int (nI (36 - (e0 + 1)))), (4, .int (nI most)), (5, .int (nI cnt))]) hx hb d_RC_countWith_62 hl (k := 6) rfl (by decide) rfl (fun ls hl => ?_)
          refine lv_goto (tgt := 6) hx hb d_RC_countWith_65 (by decide) ?_
          exact ih (v + 1) cnt st (by omega) (by omega) (by omega) (by omega) hiv (by rw [cW, if_pos ⟨by omega, by omega⟩, if_pos (by omega)] at hq; exact hq) _ _ hP hD hS ls (lv_sub hl [1, 2, 3, 4, 5, 6, 0] rfl)
        · refine lv_aload_n hx hb d_RC_countWith_31 rfl (lv_at hl 0 rfl) ?_
          refine lv_iload_n hx hb d_RC_countWith_32 rfl (lv_at hl 1 rfl) ?_
          refine lv_iload hx hb d_RC_countWith_33 (lv_at hl 6 rfl) ?_
          refine af_v (wc := [(a, .inr (2, [.int (nI n), .int (nI g), .int (nI sh), .int (nI al), .ref b1, .ref b2, .ref b3, .ref b4, .ref b5, .ref b6, .ref b7, .ref b8, .ref b9, .ref b10, .int (nI fd)])), (b1, .inl (cI, 36, .inl (nA fx))), (b2, .inl (cI, 36, .inl (nA le))), (b3, .inl (cI, 36, .inl (nA st.1))), (b4, .inl (cI, 36, .inl (nA st.2.2.2.1))), (b5, .inl (cI, 36, .inl (nA co))), (b6, .inl (cI, 36, .inl (nA ro))), (b7, .inl (cI, 6, .inl (nA st.2.1))), (b8, .inl (cI, 6, .inl (nA st.2.2.1))), (b9, .inl (cI, 6, .inl (nA st.2.2.2.2.1))), (b10, .inl (cI, 6, .inl (nA st.2.2.2.2.2)))]) (wr := []) (rest := []) [0, 1, 2, 3, 4, 5, 6, 7, 8, 9, 10] [] hP hD hS hA rfl rfl (by decide) (by decide) (rn_V E (As := [.int (nI k), .int (nI v)]) m_RC_put km_RC_89 (c_RC_put l D cI cL a b1 b2 b3 b4 b5 b6 b7 b8 b9 b10 n g sh al fd fx le st.1 st.2.2.2.1 co ro st.2.1 st.2.2.1 st.2.2.2.2.1 st.2.2.2.2.2 k v (by omega) (by omega) hco hro _) ⟨rfl, rfl, by dsimp only; omega, by dsimp only; omega⟩ (hP.sub [0, 1, 2, 3, 4, 5, 6, 7, 8, 9, 10] rfl) (hD.sub [0, 1, 2, 3, 4, 5, 6, 7, 8, 9, 10] (by decide) rfl) (q0 := 0) (ci := 2) rfl rfl rfl hl.1 rfl (Nat.le_of_ble_eq_true rfl) ⟨Nat.le_of_ble_eq_true rfl, Nat.le_of_ble_eq_true rfl⟩ d_RC_countWith_35) (fun u_4 H locs hw hP hD hS => ?_)
          obtain rfl := hw
          have hP : va_P D classes [(a, .inr (2, [.int (nI n), .int (nI g), .int (nI sh), .int (nI al), .ref b1, .ref b2, .ref b3, .ref b4, .ref b5, .ref b6, .ref b7, .ref b8, .ref b9, .ref b10, .int (nI fd)])), (b1, .inl (cI, 36, .inl (nA fx))), (b2, .inl (cI, 36, .inl (nA le))), (b3, .inl (cI, 36, .inl (nA (va_up st.1 k v)))), (b4, .inl (cI, 36, .inl (nA st.2.2.2.1))), (b5, .inl (cI, 36, .inl (nA co))), (b6, .inl (cI, 36, .inl (nA ro))), (b7, .inl (cI, 6, .inl (nA (rPut st.2.1 (co k) v)))), (b8, .inl (cI, 6, .inl (nA (rPut st.2.2.1 (ro k) v)))), (b9, .inl (cI, 6, .inl (nA st.2.2.2.2.1))), (b10, .inl (cI, 6, .inl (nA st.2.2.2.2.2)))] H := hP
          have hD : va_D A [(a, .inr (2, [.int (nI n), .int (nI g), .int (nI sh), .int (nI al), .ref b1, .ref b2, .ref b3, .ref b4, .ref b5, .ref b6, .ref b7, .ref b8, .ref b9, .ref b10, .int (nI fd)])), (b1, .inl (cI, 36, .inl (nA fx))), (b2, .inl (cI, 36, .inl (nA le))), (b3, .inl (cI, 36, .inl (nA (va_up st.1 k v)))), (b4, .inl (cI, 36, .inl (nA st.2.2.2.1))), (b5, .inl (cI, 36, .inl (nA co))), (b6, .inl (cI, 36, .inl (nA ro))), (b7, .inl (cI, 6, .inl (nA (rPut st.2.1 (co k) v)))), (b8, .inl (cI, 6, .inl (nA (rPut st.2.2.1 (ro k) v)))), (b9, .inl (cI, 6, .inl (nA st.2.2.2.2.1))), (b10, .inl (cI, 6, .inl (nA st.2.2.2.2.2)))] := hD
          refine lv_iload hx hb d_RC_countWith_38 (lv_at hl 5 rfl) ?_
          refine lv_aload_n hx hb d_RC_countWith_40 rfl (lv_at hl 0 rfl) ?_
          refine lv_iload_n hx hb d_RC_countWith_41 rfl (lv_at hl 3 rfl) ?_
          refine lv_iconst (v := nI 1) hx hb d_RC_countWith_42 (by decide) ?_
          refine nr_iadd hx hb d_RC_countWith_43 ?_
          refine lv_iload hx hb d_RC_countWith_44 (lv_at hl 4 rfl) ?_
          refine lv_iload hx hb d_RC_countWith_46 (lv_at hl 5 rfl) ?_
          refine nr_isub hx hb d_RC_countWith_48 (by omega) ?_
          rw [show 36 - (e0 + 1) + 1 = 36 - e0 by omega]
          have hgo := cF_ok (n := n) (sh := sh) (co := co) (ro := ro) hg hal e0 (most - cnt) (sPut co ro st k v) (by omega) (iv_put hiv (by omega))
          refine af_i (wc := [(a, .inr (2, [.int (nI n), .int (nI g), .int (nI sh), .int (nI al), .ref b1, .ref b2, .ref b3, .ref b4, .ref b5, .ref b6, .ref b7, .ref b8, .ref b9, .ref b10, .int (nI fd)])), (b1, .inl (cI, 36, .inl (nA fx))), (b2, .inl (cI, 36, .inl (nA le))), (b3, .inl (cI, 36, .inl (nA (va_up st.1 k v)))), (b4, .inl (cI, 36, .inl (nA st.2.2.2.1))), (b5, .inl (cI, 36, .inl (nA co))), (b6, .inl (cI, 36, .inl (nA ro))), (b7, .inl (cI, 6, .inl (nA (rPut st.2.1 (co k) v)))), (b8, .inl (cI, 6, .inl (nA (rPut st.2.2.1 (ro k) v)))), (b9, .inl (cI, 6, .inl (nA st.2.2.2.2.1))), (b10, .inl (cI, 6, .inl (nA st.2.2.2.2.2)))]) (wr := []) (rest := [.int (nI cnt)]) [0, 1, 2, 3, 4, 5, 6, 7, 8, 9, 10] [] hP hD hS hA rfl rfl (by decide) (by decide) (rn_V E (As := [.int (nI (36 - e0)), .int (nI (most - cnt))]) m_RC_countFrom km_RC_72 (hF (most - cnt) (sPut co ro st k v) (by omega) (by omega) (iv_put hiv (by omega)) _) ⟨rfl, rfl, by dsimp only; omega, by dsimp only; omega⟩ (hP.sub [0, 1, 2, 3, 4, 5, 6, 7, 8, 9, 10] rfl) (hD.sub [0, 1, 2, 3, 4, 5, 6, 7, 8, 9, 10] (by decide) rfl) (q0 := 0) (ci := 2) rfl rfl rfl hl.1 rfl (Nat.le_of_ble_eq_true rfl) ⟨Nat.le_of_ble_eq_true rfl, Nat.le_of_ble_eq_true rfl⟩ d_RC_countWith_49) (fun r_7 u_6 H locs hw hP hD hS => ?_)
          obtain ⟨rfl, rfl⟩ := hw
          have hP : va_P D classes [(a, .inr (2, [.int (nI n), .int (nI g), .int (nI sh), .int (nI al), .ref b1, .ref b2, .ref b3, .ref b4, .ref b5, .ref b6, .ref b7, .ref b8, .ref b9, .ref b10, .int (nI fd)])), (b1, .inl (cI, 36, .inl (nA fx))), (b2, .inl (cI, 36, .inl (nA le))), (b3, .inl (cI, 36, .inl (nA (((cF n g sh al co ro e0 (most - cnt) (sPut co ro st k v)).2).1)))), (b4, .inl (cI, 36, .inl (nA (((cF n g sh al co ro e0 (most - cnt) (sPut co ro st k v)).2).2.2.2.1)))), (b5, .inl (cI, 36, .inl (nA co))), (b6, .inl (cI, 36, .inl (nA ro))), (b7, .inl (cI, 6, .inl (nA (((cF n g sh al co ro e0 (most - cnt) (sPut co ro st k v)).2).2.1)))), (b8, .inl (cI, 6, .inl (nA (((cF n g sh al co ro e0 (most - cnt) (sPut co ro st k v)).2).2.2.1)))), (b9, .inl (cI, 6, .inl (nA (((cF n g sh al co ro e0 (most - cnt) (sPut co ro st k v)).2).2.2.2.2.1)))), (b10, .inl (cI, 6, .inl (nA (((cF n g sh al co ro e0 (most - cnt) (sPut co ro st k v)).2).2.2.2.2.2))))] H := hP
          have hD : va_D A [(a, .inr (2, [.int (nI n), .int (nI g), .int (nI sh), .int (nI al), .ref b1, .ref b2, .ref b3, .ref b4, .ref b5, .ref b6, .ref b7, .ref b8, .ref b9, .ref b10, .int (nI fd)])), (b1, .inl (cI, 36, .inl (nA fx))), (b2, .inl (cI, 36, .inl (nA le))), (b3, .inl (cI, 36, .inl (nA (((cF n g sh al co ro e0 (most - cnt) (sPut co ro st k v)).2).1)))), (b4, .inl (cI, 36, .inl (nA (((cF n g sh al co ro e0 (most - cnt) (sPut co ro st k v)).2).2.2.2.1)))), (b5, .inl (cI, 36, .inl (nA co))), (b6, .inl (cI, 36, .inl (nA ro))), (b7, .inl (cI, 6, .inl (nA (((cF n g sh al co ro e0 (most - cnt) (sPut co ro st k v)).2).2.1)))), (b8, .inl (cI, 6, .inl (nA (((cF n g sh al co ro e0 (most - cnt) (sPut co ro st k v)).2).2.2.1)))), (b9, .inl (cI, 6, .inl (nA (((cF n g sh al co ro e0 (most - cnt) (sPut co ro st k v)).2).2.2.2.2.1)))), (b10, .inl (cI, 6, .inl (nA (((cF n g sh al co ro e0 (most - cnt) (sPut co ro st k v)).2).2.2.2.2.2))))] := hD
          refine nr_iadd hx hb d_RC_countWith_52 ?_
          refine lv_istore (lv' := [(5, .int (nI (cnt + ((cF n g sh al co ro e0 (most - cnt) (sPut co ro st k v)).1)))), (0, .ref a), (1, .int (nI k)), (2, .int (nI ch)), (3, .int (nI (36 - (e0 + 1)))), (4, .int (nI most)), (6, .int (nI v))]) hx hb d_RC_countWith_53 hl (by decide) rfl (fun ls hl => ?_)
          refine lv_aload_n hx hb d_RC_countWith_55 rfl (lv_at hl 1 rfl) ?_
          refine lv_iload_n hx hb d_RC_countWith_56 rfl (lv_at hl 2 rfl) ?_
          refine lv_iload hx hb d_RC_countWith_57 (lv_at hl 6 rfl) ?_
          refine af_v (wc := [(a, .inr (2, [.int (nI n), .int (nI g), .int (nI sh), .int (nI al), .ref b1, .ref b2, .ref b3, .ref b4, .ref b5, .ref b6, .ref b7, .ref b8, .ref b9, .ref b10, .int (nI fd)])), (b1, .inl (cI, 36, .inl (nA fx))), (b2, .inl (cI, 36, .inl (nA le))), (b3, .inl (cI, 36, .inl (nA (((cF n g sh al co ro e0 (most - cnt) (sPut co ro st k v)).2).1)))), (b4, .inl (cI, 36, .inl (nA (((cF n g sh al co ro e0 (most - cnt) (sPut co ro st k v)).2).2.2.2.1)))), (b5, .inl (cI, 36, .inl (nA co))), (b6, .inl (cI, 36, .inl (nA ro))), (b7, .inl (cI, 6, .inl (nA (((cF n g sh al co ro e0 (most - cnt) (sPut co ro st k v)).2).2.1)))), (b8, .inl (cI, 6, .inl (nA (((cF n g sh al co ro e0 (most - cnt) (sPut co ro st k v)).2).2.2.1)))), (b9, .inl (cI, 6, .inl (nA (((cF n g sh al co ro e0 (most - cnt) (sPut co ro st k v)).2).2.2.2.2.1)))), (b10, .inl (cI, 6, .inl (nA (((cF n g sh al co ro e0 (most - cnt) (sPut co ro st k v)).2).2.2.2.2.2))))]) (wr := []) (rest := []) [0, 1, 2, 3, 4, 5, 6, 7, 8, 9, 10] [] hP hD hS hA rfl rfl (by decide) (by decide) (rn_V E (As := [.int (nI k), .int (nI v)]) m_RC_take km_RC_93 (c_RC_take l D cI cL a b1 b2 b3 b4 b5 b6 b7 b8 b9 b10 n g sh al fd fx le (((cF n g sh al co ro e0 (most - cnt) (sPut co ro st k v)).2).1) (((cF n g sh al co ro e0 (most - cnt) (sPut co ro st k v)).2).2.2.2.1) co ro (((cF n g sh al co ro e0 (most - cnt) (sPut co ro st k v)).2).2.1) (((cF n g sh al co ro e0 (most - cnt) (sPut co ro st k v)).2).2.2.1) (((cF n g sh al co ro e0 (most - cnt) (sPut co ro st k v)).2).2.2.2.2.1) (((cF n g sh al co ro e0 (most - cnt) (sPut co ro st k v)).2).2.2.2.2.2) k v (by omega) (by omega) hco hro _) ⟨rfl, rfl, by dsimp only; omega, by dsimp only; omega⟩ (hP.sub [0, 1, 2, 3, 4, 5, 6, 7, 8, 9, 10] rfl) (hD.sub [0, 1, 2, 3, 4, 5, 6, 7, 8, 9, 10] (by decide) rfl) (q0 := 0) (ci := 2) rfl rfl rfl hl.1 rfl (Nat.le_of_ble_eq_true rfl) ⟨Nat.le_of_ble_eq_true rfl, Nat.le_of_ble_eq_true rfl⟩ d_RC_countWith_59) (fun u_8 H locs hw hP hD hS => ?_)
          obtain rfl := hw
          have hP : va_P D classes [(a, .inr (2, [.int (nI n), .int (nI g), .int (nI sh), .int (nI al), .ref b1, .ref b2, .ref b3, .ref b4, .ref b5, .ref b6, .ref b7, .ref b8, .ref b9, .ref b10, .int (nI fd)])), (b1, .inl (cI, 36, .inl (nA fx))), (b2, .inl (cI, 36, .inl (nA le))), (b3, .inl (cI, 36, .inl (nA (va_up (((cF n g sh al co ro e0 (most - cnt) (sPut co ro st k v)).2).1) k 0)))), (b4, .inl (cI, 36, .inl (nA (((cF n g sh al co ro e0 (most - cnt) (sPut co ro st k v)).2).2.2.2.1)))), (b5, .inl (cI, 36, .inl (nA co))), (b6, .inl (cI, 36, .inl (nA ro))), (b7, .inl (cI, 6, .inl (nA (rTake (((cF n g sh al co ro e0 (most - cnt) (sPut co ro st k v)).2).2.1) (co k) v)))), (b8, .inl (cI, 6, .inl (nA (rTake (((cF n g sh al co ro e0 (most - cnt) (sPut co ro st k v)).2).2.2.1) (ro k) v)))), (b9, .inl (cI, 6, .inl (nA (((cF n g sh al co ro e0 (most - cnt) (sPut co ro st k v)).2).2.2.2.2.1)))), (b10, .inl (cI, 6, .inl (nA (((cF n g sh al co ro e0 (most - cnt) (sPut co ro st k v)).2).2.2.2.2.2))))] H := hP
          have hD : va_D A [(a, .inr (2, [.int (nI n), .int (nI g), .int (nI sh), .int (nI al), .ref b1, .ref b2, .ref b3, .ref b4, .ref b5, .ref b6, .ref b7, .ref b8, .ref b9, .ref b10, .int (nI fd)])), (b1, .inl (cI, 36, .inl (nA fx))), (b2, .inl (cI, 36, .inl (nA le))), (b3, .inl (cI, 36, .inl (nA (va_up (((cF n g sh al co ro e0 (most - cnt) (sPut co ro st k v)).2).1) k 0)))), (b4, .inl (cI, 36, .inl (nA (((cF n g sh al co ro e0 (most - cnt) (sPut co ro st k v)).2).2.2.2.1)))), (b5, .inl (cI, 36, .inl (nA co))), (b6, .inl (cI, 36, .inl (nA ro))), (b7, .inl (cI, 6, .inl (nA (rTake (((cF n g sh al co ro e0 (most - cnt) (sPut co ro st k v)).2).2.1) (co k) v)))), (b8, .inl (cI, 6, .inl (nA (rTake (((cF n g sh al co ro e0 (most - cnt) (sPut co ro st k v)).2).2.2.1) (ro k) v)))), (b9, .inl (cI, 6, .inl (nA (((cF n g sh al co ro e0 (most - cnt) (sPut co ro st k v)).2).2.2.2.2.1)))), (b10, .inl (cI, 6, .inl (nA (((cF n g sh al co ro e0 (most - cnt) (sPut co ro st k v)).2).2.2.2.2.2))))] := hD
          refine nr_iinc (lv' := [(6, .int (nI (v + 1))), (5, .int (nI (cnt + ((cF n g sh al co ro e0 (most - cnt) (sPut co ro st k v)).1)))), (0, .ref a), (1, .int (nI k)), (2, .int (nI ch)), (3, .int (nI (36 - (e0 + 1)))), (4, .int (nI most))]) hx hb d_RC_countWith_62 hl (k := 6) rfl (by decide) rfl (fun ls hl => ?_)
          refine lv_goto (tgt := 6) hx hb d_RC_countWith_65 (by decide) ?_
          exact ih (v + 1) (cnt + (cF n g sh al co ro e0 (most - cnt) (sPut co ro st k v)).1) (sTake co ro (cF n g sh al co ro e0 (most - cnt) (sPut co ro st k v)).2 k v) (by omega) (by omega) (by omega) (by omega) (iv_take hgo.2) (by rw [cW, if_pos ⟨by omega, by omega⟩, if_neg (by omega)] at hq; exact hq) _ _ hP hD hS ls (lv_sub hl [2, 3, 4, 5, 6, 1, 0] rfl)
set_option maxHeartbeats 1000000 in
set_option maxRecDepth 100000 in
theorem c_RC_countWith (l : Launch) (D : va_G) (cI cL : ClassId) (a b1 b2 b3 b4 b5 b6 b7 b8 b9 b10 n g sh al fd : Nat) (fx le co ro : Nat → Nat) (e0 k ch most : Nat) (he : e0 + 1 ≤ 36) (hk : k < 36) (hch : ch < 128) (hm : most < 2 ^ 31) (hco : ∀ k, co k < 6) (hro : ∀ k, ro k < 6) (hn : n ≤ 36) (hg : g ≤ 6) (hsh : sh ≤ 6) (hal : al < 128) (hF : ∀ (most : Nat) (st : S6), 1 ≤ most → most < 2 ^ 31 → Iv st → CI l y_RC_countFrom (.code y_RC_countFrom b_RC_countFrom 6 (some .int) :: Om) { frames := 2 * e0 + 3, cells := 0, slots := 0, locals := 60 * e0 + 80 } D [(a, .inr (2, [.int (nI n), .int (nI g), .int (nI sh), .int (nI al), .ref b1, .ref b2, .ref b3, .ref b4, .ref b5, .ref b6, .ref b7, .ref b8, .ref b9, .ref b10, .int (nI fd)])), (b1, .inl (cI, 36, .inl (nA fx))), (b2, .inl (cI, 36, .inl (nA le))), (b3, .inl (cI, 36, .inl (nA st.1))), (b4, .inl (cI, 36, .inl (nA st.2.2.2.1))), (b5, .inl (cI, 36, .inl (nA co))), (b6, .inl (cI, 36, .inl (nA ro))), (b7, .inl (cI, 6, .inl (nA st.2.1))), (b8, .inl (cI, 6, .inl (nA st.2.2.1))), (b9, .inl (cI, 6, .inl (nA st.2.2.2.2.1))), (b10, .inl (cI, 6, .inl (nA st.2.2.2.2.2)))] [(cI, .int), (cL, .long)] [.ref a, .int (nI (36 - e0)), .int (nI most)] (fun r u => r = nI (cF n g sh al co ro e0 most st).1 ∧ u = [(a, .inr (2, [.int (nI n), .int (nI g), .int (nI sh), .int (nI al), .ref b1, .ref b2, .ref b3, .ref b4, .ref b5, .ref b6, .ref b7, .ref b8, .ref b9, .ref b10, .int (nI fd)])), (b1, .inl (cI, 36, .inl (nA fx))), (b2, .inl (cI, 36, .inl (nA le))), (b3, .inl (cI, 36, .inl (nA (((cF n g sh al co ro e0 most st).2).1)))), (b4, .inl (cI, 36, .inl (nA (((cF n g sh al co ro e0 most st).2).2.2.2.1)))), (b5, .inl (cI, 36, .inl (nA co))), (b6, .inl (cI, 36, .inl (nA ro))), (b7, .inl (cI, 6, .inl (nA (((cF n g sh al co ro e0 most st).2).2.1)))), (b8, .inl (cI, 6, .inl (nA (((cF n g sh al co ro e0 most st).2).2.2.1)))), (b9, .inl (cI, 6, .inl (nA (((cF n g sh al co ro e0 most st).2).2.2.2.2.1)))), (b10, .inl (cI, 6, .inl (nA (((cF n g sh al co ro e0 most st).2).2.2.2.2.2))))])) (st : S6) (hiv : Iv st) : CI l y_RC_countWith (.code y_RC_countWith b_RC_countWith 7 (some .int) :: Om) { frames := 2 * e0 + 4, cells := 0, slots := 0, locals := 60 * e0 + 105 } D [(a, .inr (2, [.int (nI n), .int (nI g), .int (nI sh), .int (nI al), .ref b1, .ref b2, .ref b3, .ref b4, .ref b5, .ref b6, .ref b7, .ref b8, .ref b9, .ref b10, .int (nI fd)])), (b1, .inl (cI, 36, .inl (nA fx))), (b2, .inl (cI, 36, .inl (nA le))), (b3, .inl (cI, 36, .inl (nA st.1))), (b4, .inl (cI, 36, .inl (nA st.2.2.2.1))), (b5, .inl (cI, 36, .inl (nA co))), (b6, .inl (cI, 36, .inl (nA ro))), (b7, .inl (cI, 6, .inl (nA st.2.1))), (b8, .inl (cI, 6, .inl (nA st.2.2.1))), (b9, .inl (cI, 6, .inl (nA st.2.2.2.2.1))), (b10, .inl (cI, 6, .inl (nA st.2.2.2.2.2)))] [(cI, .int), (cL, .long)] [.ref a, .int (nI k), .int (nI ch), .int (nI (36 - (e0 + 1))), .int (nI most)] (fun r u => r = nI (cW g co ro (cF n g sh al co ro e0) k ch most (g + 1) 1 0 st).1 ∧ u = [(a, .inr (2, [.int (nI n), .int (nI g), .int (nI sh), .int (nI al), .ref b1, .ref b2, .ref b3, .ref b4, .ref b5, .ref b6, .ref b7, .ref b8, .ref b9, .ref b10, .int (nI fd)])), (b1, .inl (cI, 36, .inl (nA fx))), (b2, .inl (cI, 36, .inl (nA le))), (b3, .inl (cI, 36, .inl (nA (((cW g co ro (cF n g sh al co ro e0) k ch most (g + 1) 1 0 st).2).1)))), (b4, .inl (cI, 36, .inl (nA (((cW g co ro (cF n g sh al co ro e0) k ch most (g + 1) 1 0 st).2).2.2.2.1)))), (b5, .inl (cI, 36, .inl (nA co))), (b6, .inl (cI, 36, .inl (nA ro))), (b7, .inl (cI, 6, .inl (nA (((cW g co ro (cF n g sh al co ro e0) k ch most (g + 1) 1 0 st).2).2.1)))), (b8, .inl (cI, 6, .inl (nA (((cW g co ro (cF n g sh al co ro e0) k ch most (g + 1) 1 0 st).2).2.2.1)))), (b9, .inl (cI, 6, .inl (nA (((cW g co ro (cF n g sh al co ro e0) k ch most (g + 1) 1 0 st).2).2.2.2.2.1)))), (b10, .inl (cI, 6, .inl (nA (((cW g co ro (cF n g sh al co ro e0) k ch most (g + 1) 1 0 st).2).2.2.2.2.2))))]) := by
  refine en_of (cc := b_RC_countWith) (Qc := qI D [(cI, .int), (cL, .long)] (fun r u => r = nI (cW g co ro (cF n g sh al co ro e0) k ch most (g + 1) 1 0 st).1 ∧ u = [(a, .inr (2, [.int (nI n), .int (nI g), .int (nI sh), .int (nI al), .ref b1, .ref b2, .ref b3, .ref b4, .ref b5, .ref b6, .ref b7, .ref b8, .ref b9, .ref b10, .int (nI fd)])), (b1, .inl (cI, 36, .inl (nA fx))), (b2, .inl (cI, 36, .inl (nA le))), (b3, .inl (cI, 36, .inl (nA (((cW g co ro (cF n g sh al co ro e0) k ch most (g + 1) 1 0 st).2).1)))), (b4, .inl (cI, 36, .inl (nA (((cW g co ro (cF n g sh al co ro e0) k ch most (g + 1) 1 0 st).2).2.2.2.1)))), (b5, .inl (cI, 36, .inl (nA co))), (b6, .inl (cI, 36, .inl (nA ro))), (b7, .inl (cI, 6, .inl (nA (((cW g co ro (cF n g sh al co ro e0) k ch most (g + 1) 1 0 st).2).2.1)))), (b8, .inl (cI, 6, .inl (nA (((cW g co ro (cF n g sh al co ro e0) k ch most (g + 1) 1 0 st).2).2.2.1)))), (b9, .inl (cI, 6, .inl (nA (((cW g co ro (cF n g sh al co ro e0) k ch most (g + 1) 1 0 st).2).2.2.2.2.1)))), (b10, .inl (cI, 6, .inl (nA (((cW g co ro (cF n g sh al co ro e0) k ch most (g + 1) 1 0 st).2).2.2.2.2.2))))])) (by decide) rfl (Nat.le_of_ble_eq_true rfl) ?_
  intro p e s m below meth c A E hnm hP hD hS ls hl
  have hl : lv_has ls 7 [(0, .ref a), (1, .int (nI k)), (2, .int (nI ch)), (3, .int (nI (36 - (e0 + 1)))), (4, .int (nI most))] := hl
  obtain ⟨hx, hb, hml, hown, hts, hr, hlk, hA, hK, hN⟩ := id E
  have ho : ∀ q ∈ Om, q.before _ s = true := fun q h => hts q (List.mem_cons_of_mem _ h)
  refine lv_iconst (v := nI 0) hx hb d_RC_countWith_0 (by decide) ?_
  refine lv_istore (lv' := [(5, .int (nI 0)), (0, .ref a), (1, .int (nI k)), (2, .int (nI ch)), (3, .int (nI (36 - (e0 + 1)))), (4, .int (nI most))]) hx hb d_RC_countWith_1 hl (by decide) rfl (fun ls hl => ?_)
  refine lv_iconst (v := nI 1) hx hb d_RC_countWith_3 (by decide) ?_
  refine lv_istore (lv' := [(6, .int (nI 1)), (5, .int (nI 0)), (0, .ref a), (1, .int (nI k)), (2, .int (nI ch)), (3, .int (nI (36 - (e0 + 1)))), (4, .int (nI most))]) hx hb d_RC_countWith_4 hl (by decide) rfl (fun ls hl => ?_)
  exact L_RC_countWith a b1 b2 b3 b4 b5 b6 b7 b8 b9 b10 n g sh al fd fx le co ro e0 k ch most he hk hch hm hco hro hn hg hsh hal hF E (g + 1) 1 0 st (by omega) (by omega) (by omega) (by omega) hiv ⟨rfl, rfl⟩ _ _ hP hD hS ls (lv_sub hl [2, 3, 4, 5, 6, 1, 0] rfl)
set_option maxHeartbeats 1000000 in
set_option maxRecDepth 100000 in
theorem c_RC_F0full (l : Launch) (D : va_G) (cI cL : ClassId) (a b1 b2 b3 b4 b5 b6 b7 b8 b9 b10 n g sh al fd : Nat) (fx le co ro : Nat → Nat) (most : Nat) (hco : ∀ k, co k < 6) (hro : ∀ k, ro k < 6) (hn : n ≤ 36) (hg : g ≤ 6) (hsh : sh ≤ 6) (hal : al < 128) (st : S6) (hiv : Iv st) (hno : sNo n g al co ro st = 0) : CI l y_RC_countFrom (.code y_RC_countFrom b_RC_countFrom 6 (some .int) :: Om) { frames := 2 * 0 + 3, cells := 0, slots := 0, locals := 60 * 0 + 80 } D [(a, .inr (2, [.int (nI n), .int (nI g), .int (nI sh), .int (nI al), .ref b1, .ref b2, .ref b3, .ref b4, .ref b5, .ref b6, .ref b7, .ref b8, .ref b9, .ref b10, .int (nI fd)])), (b1, .inl (cI, 36, .inl (nA fx))), (b2, .inl (cI, 36, .inl (nA le))), (b3, .inl (cI, 36, .inl (nA st.1))), (b4, .inl (cI, 36, .inl (nA st.2.2.2.1))), (b5, .inl (cI, 36, .inl (nA co))), (b6, .inl (cI, 36, .inl (nA ro))), (b7, .inl (cI, 6, .inl (nA st.2.1))), (b8, .inl (cI, 6, .inl (nA st.2.2.1))), (b9, .inl (cI, 6, .inl (nA st.2.2.2.2.1))), (b10, .inl (cI, 6, .inl (nA st.2.2.2.2.2)))] [(cI, .int), (cL, .long)] [.ref a, .int (nI (36 - 0)), .int (nI most)] (fun r u => r = nI (cF n g sh al co ro 0 most st).1 ∧ u = [(a, .inr (2, [.int (nI n), .int (nI g), .int (nI sh), .int (nI al), .ref b1, .ref b2, .ref b3, .ref b4, .ref b5, .ref b6, .ref b7, .ref b8, .ref b9, .ref b10, .int (nI fd)])), (b1, .inl (cI, 36, .inl (nA fx))), (b2, .inl (cI, 36, .inl (nA le))), (b3, .inl (cI, 36, .inl (nA (((cF n g sh al co ro 0 most st).2).1)))), (b4, .inl (cI, 36, .inl (nA (((cF n g sh al co ro 0 most st).2).2.2.2.1)))), (b5, .inl (cI, 36, .inl (nA co))), (b6, .inl (cI, 36, .inl (nA ro))), (b7, .inl (cI, 6, .inl (nA (((cF n g sh al co ro 0 most st).2).2.1)))), (b8, .inl (cI, 6, .inl (nA (((cF n g sh al co ro 0 most st).2).2.2.1)))), (b9, .inl (cI, 6, .inl (nA (((cF n g sh al co ro 0 most st).2).2.2.2.2.1)))), (b10, .inl (cI, 6, .inl (nA (((cF n g sh al co ro 0 most st).2).2.2.2.2.2))))]) := by
  refine en_of (cc := b_RC_countFrom) (Qc := qI D [(cI, .int), (cL, .long)] (fun r u => r = nI (cF n g sh al co ro 0 most st).1 ∧ u = [(a, .inr (2, [.int (nI n), .int (nI g), .int (nI sh), .int (nI al), .ref b1, .ref b2, .ref b3, .ref b4, .ref b5, .ref b6, .ref b7, .ref b8, .ref b9, .ref b10, .int (nI fd)])), (b1, .inl (cI, 36, .inl (nA fx))), (b2, .inl (cI, 36, .inl (nA le))), (b3, .inl (cI, 36, .inl (nA (((cF n g sh al co ro 0 most st).2).1)))), (b4, .inl (cI, 36, .inl (nA (((cF n g sh al co ro 0 most st).2).2.2.2.1)))), (b5, .inl (cI, 36, .inl (nA co))), (b6, .inl (cI, 36, .inl (nA ro))), (b7, .inl (cI, 6, .inl (nA (((cF n g sh al co ro 0 most st).2).2.1)))), (b8, .inl (cI, 6, .inl (nA (((cF n g sh al co ro 0 most st).2).2.2.1)))), (b9, .inl (cI, 6, .inl (nA (((cF n g sh al co ro 0 most st).2).2.2.2.2.1)))), (b10, .inl (cI, 6, .inl (nA (((cF n g sh al co ro 0 most st).2).2.2.2.2.2))))])) (by decide) rfl (Nat.le_of_ble_eq_true rfl) ?_
  intro p e s m below meth c A E hnm hP hD hS ls hl
  have hl : lv_has ls 6 [(0, .ref a), (1, .int (nI (36 - 0))), (2, .int (nI most))] := hl
  obtain ⟨hx, hb, hml, hown, hts, hr, hlk, hA, hK, hN⟩ := id E
  have ho : ∀ q ∈ Om, q.before _ s = true := fun q h => hts q (List.mem_cons_of_mem _ h)
  refine lv_aload_n hx hb d_RC_countFrom_0 rfl (lv_at hl 0 rfl) ?_
  refine af_i (wc := [(a, .inr (2, [.int (nI n), .int (nI g), .int (nI sh), .int (nI al), .ref b1, .ref b2, .ref b3, .ref b4, .ref b5, .ref b6, .ref b7, .ref b8, .ref b9, .ref b10, .int (nI fd)])), (b1, .inl (cI, 36, .inl (nA fx))), (b2, .inl (cI, 36, .inl (nA le))), (b3, .inl (cI, 36, .inl (nA st.1))), (b4, .inl (cI, 36, .inl (nA st.2.2.2.1))), (b5, .inl (cI, 36, .inl (nA co))), (b6, .inl (cI, 36, .inl (nA ro))), (b7, .inl (cI, 6, .inl (nA st.2.1))), (b8, .inl (cI, 6, .inl (nA st.2.2.1))), (b9, .inl (cI, 6, .inl (nA st.2.2.2.2.1))), (b10, .inl (cI, 6, .inl (nA st.2.2.2.2.2)))]) (wr := []) (rest := []) [0, 1, 2, 3, 4, 5, 6, 7, 8, 9, 10] [] hP hD hS hA rfl rfl (by decide) (by decide) (rn_V E (As := []) m_RC_narrowestOpenCell km_RC_96 (c_RC_narrow l D cI cL a b1 b2 b3 b4 b5 b6 b7 b8 b9 b10 n g sh al fd fx le st.1 st.2.2.2.1 co ro st.2.1 st.2.2.1 st.2.2.2.2.1 st.2.2.2.2.2 hco hro hn hal hiv.1 hg _) ⟨rfl, rfl, by dsimp only; omega, by dsimp only; omega⟩ (hP.sub [0, 1, 2, 3, 4, 5, 6, 7, 8, 9, 10] rfl) (hD.sub [0, 1, 2, 3, 4, 5, 6, 7, 8, 9, 10] (by decide) rfl) (q0 := 0) (ci := 2) rfl rfl rfl hl.1 rfl (Nat.le_of_ble_eq_true rfl) ⟨Nat.le_of_ble_eq_true rfl, Nat.le_of_ble_eq_true rfl⟩ d_RC_countFrom_1) (fun r_2 u_1 H locs hw hP hD hS => ?_)
  obtain ⟨rfl, rfl⟩ := hw
  rw [show rNo n g al co ro st.1 st.2.1 st.2.2.1 = 0 from hno]
  have hP : va_P D classes [(a, .inr (2, [.int (nI n), .int (nI g), .int (nI sh), .int (nI al), .ref b1, .ref b2, .ref b3, .ref b4, .ref b5, .ref b6, .ref b7, .ref b8, .ref b9, .ref b10, .int (nI fd)])), (b1, .inl (cI, 36, .inl (nA fx))), (b2, .inl (cI, 36, .inl (nA le))), (b3, .inl (cI, 36, .inl (nA st.1))), (b4, .inl (cI, 36, .inl (nA st.2.2.2.1))), (b5, .inl (cI, 36, .inl (nA co))), (b6, .inl (cI, 36, .inl (nA ro))), (b7, .inl (cI, 6, .inl (nA st.2.1))), (b8, .inl (cI, 6, .inl (nA st.2.2.1))), (b9, .inl (cI, 6, .inl (nA st.2.2.2.2.1))), (b10, .inl (cI, 6, .inl (nA st.2.2.2.2.2)))] H := hP
  have hD : va_D A [(a, .inr (2, [.int (nI n), .int (nI g), .int (nI sh), .int (nI al), .ref b1, .ref b2, .ref b3, .ref b4, .ref b5, .ref b6, .ref b7, .ref b8, .ref b9, .ref b10, .int (nI fd)])), (b1, .inl (cI, 36, .inl (nA fx))), (b2, .inl (cI, 36, .inl (nA le))), (b3, .inl (cI, 36, .inl (nA st.1))), (b4, .inl (cI, 36, .inl (nA st.2.2.2.1))), (b5, .inl (cI, 36, .inl (nA co))), (b6, .inl (cI, 36, .inl (nA ro))), (b7, .inl (cI, 6, .inl (nA st.2.1))), (b8, .inl (cI, 6, .inl (nA st.2.2.1))), (b9, .inl (cI, 6, .inl (nA st.2.2.2.2.1))), (b10, .inl (cI, 6, .inl (nA st.2.2.2.2.2)))] := hD
  refine lv_istore_n (lv' := [(3, .int (nI 0 - 1)), (0, .ref a), (1, .int (nI (36 - 0))), (2, .int (nI most))]) hx hb d_RC_countFrom_4 rfl hl (by decide) rfl (fun ls hl => ?_)
  refine lv_iload_n hx hb d_RC_countFrom_5 rfl (lv_at hl 0 rfl) ?_
  refine lv_if_ge (tgt := 26) hx hb d_RC_countFrom_6 (by decide) (fun h9 => absurd h9 (by decide)) (fun _ => ?_)
  refine lv_aload_n hx hb d_RC_countFrom_9 rfl (lv_at hl 1 rfl) ?_
  refine va_get (D := D) (ci := 2) (v := .ref b3) (C := R_RC) (T := F_RC) (N := 15) hx hb ho j_RC hown hK hP 0 rfl rfl 6 (by decide) (ho _ kf_RC_18) (fun _ h9 => h9) rfl d_RC_countFrom_10 ?_
  refine lv_iconst (v := nI 0) hx hb d_RC_countFrom_13 (by decide) ?_
  refine lv_aload_n hx hb d_RC_countFrom_14 rfl (lv_at hl 1 rfl) ?_
  refine va_get (D := D) (ci := 2) (v := .ref b4) (C := R_RC) (T := F_RC) (N := 15) hx hb ho j_RC hown hK hP 0 rfl rfl 7 (by decide) (ho _ kf_RC_21) (fun _ h9 => h9) rfl d_RC_countFrom_15 ?_
  refine lv_iconst (v := nI 0) hx hb d_RC_countFrom_18 (by decide) ?_
  refine lv_bipush (v := nI 36) hx hb d_RC_countFrom_19 (by decide) ?_
  refine nr_copy hx hb (hml.trans hl.1.symm) hown (ho _ km_RC_79) (ho _ kq_copy.1) (ho _ kq_copy.2) (ho _ kz_SY) hK hP hD hS 3 4 0 rfl rfl rfl (by decide) (by decide) (by decide) (by first | decide | (dsimp only; omega)) (Nat.le_of_ble_eq_true rfl) (by first | decide | (dsimp only; omega)) d_RC_countFrom_21 (fun H locs hP hD hS => ?_)
  have hP : va_P D classes [(a, .inr (2, [.int (nI n), .int (nI g), .int (nI sh), .int (nI al), .ref b1, .ref b2, .ref b3, .ref b4, .ref b5, .ref b6, .ref b7, .ref b8, .ref b9, .ref b10, .int (nI fd)])), (b1, .inl (cI, 36, .inl (nA fx))), (b2, .inl (cI, 36, .inl (nA le))), (b3, .inl (cI, 36, .inl (nA st.1))), (b4, .inl (cI, 36, .inl (nA (va_cpy st.1 st.2.2.2.1 0 0 36)))), (b5, .inl (cI, 36, .inl (nA co))), (b6, .inl (cI, 36, .inl (nA ro))), (b7, .inl (cI, 6, .inl (nA st.2.1))), (b8, .inl (cI, 6, .inl (nA st.2.2.1))), (b9, .inl (cI, 6, .inl (nA st.2.2.2.2.1))), (b10, .inl (cI, 6, .inl (nA st.2.2.2.2.2)))] H := hP
  have hD : va_D A [(a, .inr (2, [.int (nI n), .int (nI g), .int (nI sh), .int (nI al), .ref b1, .ref b2, .ref b3, .ref b4, .ref b5, .ref b6, .ref b7, .ref b8, .ref b9, .ref b10, .int (nI fd)])), (b1, .inl (cI, 36, .inl (nA fx))), (b2, .inl (cI, 36, .inl (nA le))), (b3, .inl (cI, 36, .inl (nA st.1))), (b4, .inl (cI, 36, .inl (nA (va_cpy st.1 st.2.2.2.1 0 0 36)))), (b5, .inl (cI, 36, .inl (nA co))), (b6, .inl (cI, 36, .inl (nA ro))), (b7, .inl (cI, 6, .inl (nA st.2.1))), (b8, .inl (cI, 6, .inl (nA st.2.2.1))), (b9, .inl (cI, 6, .inl (nA st.2.2.2.2.1))), (b10, .inl (cI, 6, .inl (nA st.2.2.2.2.2)))] := hD
  refine lv_iconst (v := nI 1) hx hb d_RC_countFrom_24 (by decide) ?_
  exact rt_i E hP hD hS (by rw [cF, if_pos hno]; exact ⟨rfl, rfl⟩) d_RC_countFrom_25
set_option maxHeartbeats 1000000 in
set_option maxRecDepth 100000 in
theorem c_RC_FSfull (l : Launch) (D : va_G) (cI cL : ClassId) (a b1 b2 b3 b4 b5 b6 b7 b8 b9 b10 n g sh al fd : Nat) (fx le co ro : Nat → Nat) (e0 : Nat) (he : e0 + 1 ≤ 36) (most : Nat) (hco : ∀ k, co k < 6) (hro : ∀ k, ro k < 6) (hn : n ≤ 36) (hg : g ≤ 6) (hsh : sh ≤ 6) (hal : al < 128) (st : S6) (hiv : Iv st) (hno : sNo n g al co ro st = 0) : CI l y_RC_countFrom (.code y_RC_countFrom b_RC_countFrom 6 (some .int) :: Om) { frames := 2 * (e0 + 1) + 3, cells := 0, slots := 0, locals := 60 * (e0 + 1) + 80 } D [(a, .inr (2, [.int (nI n), .int (nI g), .int (nI sh), .int (nI al), .ref b1, .ref b2, .ref b3, .ref b4, .ref b5, .ref b6, .ref b7, .ref b8, .ref b9, .ref b10, .int (nI fd)])), (b1, .inl (cI, 36, .inl (nA fx))), (b2, .inl (cI, 36, .inl (nA le))), (b3, .inl (cI, 36, .inl (nA st.1))), (b4, .inl (cI, 36, .inl (nA st.2.2.2.1))), (b5, .inl (cI, 36, .inl (nA co))), (b6, .inl (cI, 36, .inl (nA ro))), (b7, .inl (cI, 6, .inl (nA st.2.1))), (b8, .inl (cI, 6, .inl (nA st.2.2.1))), (b9, .inl (cI, 6, .inl (nA st.2.2.2.2.1))), (b10, .inl (cI, 6, .inl (nA st.2.2.2.2.2)))] [(cI, .int), (cL, .long)] [.ref a, .int (nI (36 - (e0 + 1))), .int (nI most)] (fun r u => r = nI (cF n g sh al co ro (e0 + 1) most st).1 ∧ u = [(a, .inr (2, [.int (nI n), .int (nI g), .int (nI sh), .int (nI al), .ref b1, .ref b2, .ref b3, .ref b4, .ref b5, .ref b6, .ref b7, .ref b8, .ref b9, .ref b10, .int (nI fd)])), (b1, .inl (cI, 36, .inl (nA fx))), (b2, .inl (cI, 36, .inl (nA le))), (b3, .inl (cI, 36, .inl (nA (((cF n g sh al co ro (e0 + 1) most st).2).1)))), (b4, .inl (cI, 36, .inl (nA (((cF n g sh al co ro (e0 + 1) most st).2).2.2.2.1)))), (b5, .inl (cI, 36, .inl (nA co))), (b6, .inl (cI, 36, .inl (nA ro))), (b7, .inl (cI, 6, .inl (nA (((cF n g sh al co ro (e0 + 1) most st).2).2.1)))), (b8, .inl (cI, 6, .inl (nA (((cF n g sh al co ro (e0 + 1) most st).2).2.2.1)))), (b9, .inl (cI, 6, .inl (nA (((cF n g sh al co ro (e0 + 1) most st).2).2.2.2.2.1)))), (b10, .inl (cI, 6, .inl (nA (((cF n g sh al co ro (e0 + 1) most st).2).2.2.2.2.2))))]) := by
  refine en_of (cc := b_RC_countFrom) (Qc := qI D [(cI, .int), (cL, .long)] (fun r u => r = nI (cF n g sh al co ro (e0 + 1) most st).1 ∧ u = [(a, .inr (2, [.int (nI n), .int (nI g), .int (nI sh), .int (nI al), .ref b1, .ref b2, .ref b3, .ref b4, .ref b5, .ref b6, .ref b7, .ref b8, .ref b9, .ref b10, .int (nI fd)])), (b1, .inl (cI, 36, .inl (nA fx))), (b2, .inl (cI, 36, .inl (nA le))), (b3, .inl (cI, 36, .inl (nA (((cF n g sh al co ro (e0 + 1) most st).2).1)))), (b4, .inl (cI, 36, .inl (nA (((cF n g sh al co ro (e0 + 1) most st).2).2.2.2.1)))), (b5, .inl (cI, 36, .inl (nA co))), (b6, .inl (cI, 36, .inl (nA ro))), (b7, .inl (cI, 6, .inl (nA (((cF n g sh al co ro (e0 + 1) most st).2).2.1)))), (b8, .inl (cI, 6, .inl (nA (((cF n g sh al co ro (e0 + 1) most st).2).2.2.1)))), (b9, .inl (cI, 6, .inl (nA (((cF n g sh al co ro (e0 + 1) most st).2).2.2.2.2.1)))), (b10, .inl (cI, 6, .inl (nA (((cF n g sh al co ro (e0 + 1) most st).2).2.2.2.2.2))))])) (by decide) rfl (Nat.le_of_ble_eq_true rfl) ?_
  intro p e s m below meth c A E hnm hP hD hS ls hl
  have hl : lv_has ls 6 [(0, .ref a), (1, .int (nI (36 - (e0 + 1)))), (2, .int (nI most))] := hl
  obtain ⟨hx, hb, hml, hown, hts, hr, hlk, hA, hK, hN⟩ := id E
  have ho : ∀ q ∈ Om, q.before _ s = true := fun q h => hts q (List.mem_cons_of_mem _ h)
  refine lv_aload_n hx hb d_RC_countFrom_0 rfl (lv_at hl 0 rfl) ?_
  refine af_i (wc := [(a, .inr (2, [.int (nI n), .int (nI g), .int (nI sh), .int (nI al), .ref b1, .ref b2, .ref b3, .ref b4, .ref b5, .ref b6, .ref b7, .ref b8, .ref b9, .ref b10, .int (nI fd)])), (b1, .inl (cI, 36, .inl (nA fx))), (b2, .inl (cI, 36, .inl (nA le))), (b3, .inl (cI, 36, .inl (nA st.1))), (b4, .inl (cI, 36, .inl (nA st.2.2.2.1))), (b5, .inl (cI, 36, .inl (nA co))), (b6, .inl (cI, 36, .inl (nA ro))), (b7, .inl (cI, 6, .inl (nA st.2.1))), (b8, .inl (cI, 6, .inl (nA st.2.2.1))), (b9, .inl (cI, 6, .inl (nA st.2.2.2.2.1))), (b10, .inl (cI, 6, .inl (nA st.2.2.2.2.2)))]) (wr := []) (rest := []) [0, 1, 2, 3, 4, 5, 6, 7, 8, 9, 10] [] hP hD hS hA rfl rfl (by decide) (by decide) (rn_V E (As := []) m_RC_narrowestOpenCell km_RC_96 (c_RC_narrow l D cI cL a b1 b2 b3 b4 b5 b6 b7 b8 b9 b10 n g sh al fd fx le st.1 st.2.2.2.1 co ro st.2.1 st.2.2.1 st.2.2.2.2.1 st.2.2.2.2.2 hco hro hn hal hiv.1 hg _) ⟨rfl, rfl, by dsimp only; omega, by dsimp only; omega⟩ (hP.sub [0, 1, 2, 3, 4, 5, 6, 7, 8, 9, 10] rfl) (hD.sub [0, 1, 2, 3, 4, 5, 6, 7, 8, 9, 10] (by decide) rfl) (q0 := 0) (ci := 2) rfl rfl rfl hl.1 rfl (Nat.le_of_ble_eq_true rfl) ⟨Nat.le_of_ble_eq_true rfl, Nat.le_of_ble_eq_true rfl⟩ d_RC_countFrom_1) (fun r_2 u_1 H locs hw hP hD hS => ?_)
  obtain ⟨rfl, rfl⟩ := hw
  rw [show rNo n g al co ro st.1 st.2.1 st.2.2.1 = 0 from hno]
  have hP : va_P D classes [(a, .inr (2, [.int (nI n), .int (nI g), .int (nI sh), .int (nI al), .ref b1, .ref b2, .ref b3, .ref b4, .ref b5, .ref b6, .ref b7, .ref b8, .ref b9, .ref b10, .int (nI fd)])), (b1, .inl (cI, 36, .inl (nA fx))), (b2, .inl (cI, 36, .inl (nA le))), (b3, .inl (cI, 36, .inl (nA st.1))), (b4, .inl (cI, 36, .inl (nA st.2.2.2.1))), (b5, .inl (cI, 36, .inl (nA co))), (b6, .inl (cI, 36, .inl (nA ro))), (b7, .inl (cI, 6, .inl (nA st.2.1))), (b8, .inl (cI, 6, .inl (nA st.2.2.1))), (b9, .inl (cI, 6, .inl (nA st.2.2.2.2.1))), (b10, .inl (cI, 6, .inl (nA st.2.2.2.2.2)))] H := hP
  have hD : va_D A [(a, .inr (2, [.int (nI n), .int (nI g), .int (nI sh), .int (nI al), .ref b1, .ref b2, .ref b3, .ref b4, .ref b5, .ref b6, .ref b7, .ref b8, .ref b9, .ref b10, .int (nI fd)])), (b1, .inl (cI, 36, .inl (nA fx))), (b2, .inl (cI, 36, .inl (nA le))), (b3, .inl (cI, 36, .inl (nA st.1))), (b4, .inl (cI, 36, .inl (nA st.2.2.2.1))), (b5, .inl (cI, 36, .inl (nA co))), (b6, .inl (cI, 36, .inl (nA ro))), (b7, .inl (cI, 6, .inl (nA st.2.1))), (b8, .inl (cI, 6, .inl (nA st.2.2.1))), (b9, .inl (cI, 6, .inl (nA st.2.2.2.2.1))), (b10, .inl (cI, 6, .inl (nA st.2.2.2.2.2)))] := hD
  refine lv_istore_n (lv' := [(3, .int (nI 0 - 1)), (0, .ref a), (1, .int (nI (36 - (e0 + 1)))), (2, .int (nI most))]) hx hb d_RC_countFrom_4 rfl hl (by decide) rfl (fun ls hl => ?_)
  refine lv_iload_n hx hb d_RC_countFrom_5 rfl (lv_at hl 0 rfl) ?_
  refine lv_if_ge (tgt := 26) hx hb d_RC_countFrom_6 (by decide) (fun h9 => absurd h9 (by decide)) (fun _ => ?_)
  refine lv_aload_n hx hb d_RC_countFrom_9 rfl (lv_at hl 1 rfl) ?_
  refine va_get (D := D) (ci := 2) (v := .ref b3) (C := R_RC) (T := F_RC) (N := 15) hx hb ho j_RC hown hK hP 0 rfl rfl 6 (by decide) (ho _ kf_RC_18) (fun _ h9 => h9) rfl d_RC_countFrom_10 ?_
  refine lv_iconst (v := nI 0) hx hb d_RC_countFrom_13 (by decide) ?_
  refine lv_aload_n hx hb d_RC_countFrom_14 rfl (lv_at hl 1 rfl) ?_
  refine va_get (D := D) (ci := 2) (v := .ref b4) (C := R_RC) (T := F_RC) (N := 15) hx hb ho j_RC hown hK hP 0 rfl rfl 7 (by decide) (ho _ kf_RC_21) (fun _ h9 => h9) rfl d_RC_countFrom_15 ?_
  refine lv_iconst (v := nI 0) hx hb d_RC_countFrom_18 (by decide) ?_
  refine lv_bipush (v := nI 36) hx hb d_RC_countFrom_19 (by decide) ?_
  refine nr_copy hx hb (hml.trans hl.1.symm) hown (ho _ km_RC_79) (ho _ kq_copy.1) (ho _ kq_copy.2) (ho _ kz_SY) hK hP hD hS 3 4 0 rfl rfl rfl (by decide) (by decide) (by decide) (by first | decide | (dsimp only; omega)) (Nat.le_of_ble_eq_true rfl) (by first | decide | (dsimp only; omega)) d_RC_countFrom_21 (fun H locs hP hD hS => ?_)
  have hP : va_P D classes [(a, .inr (2, [.int (nI n), .int (nI g), .int (nI sh), .int (nI al), .ref b1, .ref b2, .ref b3, .ref b4, .ref b5, .ref b6, .ref b7, .ref b8, .ref b9, .ref b10, .int (nI fd)])), (b1, .inl (cI, 36, .inl (nA fx))), (b2, .inl (cI, 36, .inl (nA le))), (b3, .inl (cI, 36, .inl (nA st.1))), (b4, .inl (cI, 36, .inl (nA (va_cpy st.1 st.2.2.2.1 0 0 36)))), (b5, .inl (cI, 36, .inl (nA co))), (b6, .inl (cI, 36, .inl (nA ro))), (b7, .inl (cI, 6, .inl (nA st.2.1))), (b8, .inl (cI, 6, .inl (nA st.2.2.1))), (b9, .inl (cI, 6, .inl (nA st.2.2.2.2.1))), (b10, .inl (cI, 6, .inl (nA st.2.2.2.2.2)))] H := hP
  have hD : va_D A [(a, .inr (2, [.int (nI n), .int (nI g), .int (nI sh), .int (nI al), .ref b1, .ref b2, .ref b3, .ref b4, .ref b5, .ref b6, .ref b7, .ref b8, .ref b9, .ref b10, .int (nI fd)])), (b1, .inl (cI, 36, .inl (nA fx))), (b2, .inl (cI, 36, .inl (nA le))), (b3, .inl (cI, 36, .inl (nA st.1))), (b4, .inl (cI, 36, .inl (nA (va_cpy st.1 st.2.2.2.1 0 0 36)))), (b5, .inl (cI, 36, .inl (nA co))), (b6, .inl (cI, 36, .inl (nA ro))), (b7, .inl (cI, 6, .inl (nA st.2.1))), (b8, .inl (cI, 6, .inl (nA st.2.2.1))), (b9, .inl (cI, 6, .inl (nA st.2.2.2.2.1))), (b10, .inl (cI, 6, .inl (nA st.2.2.2.2.2)))] := hD
  refine lv_iconst (v := nI 1) hx hb d_RC_countFrom_24 (by decide) ?_
  exact rt_i E hP hD hS (by rw [cF, if_pos hno]; exact ⟨rfl, rfl⟩) d_RC_countFrom_25
set_option maxHeartbeats 1000000 in
set_option maxRecDepth 100000 in
theorem c_RC_F0open (l : Launch) (D : va_G) (cI cL : ClassId) (a b1 b2 b3 b4 b5 b6 b7 b8 b9 b10 n g sh al fd : Nat) (fx le co ro : Nat → Nat) (most : Nat) (hco : ∀ k, co k < 6) (hro : ∀ k, ro k < 6) (hn : n ≤ 36) (hg : g ≤ 6) (hsh : sh ≤ 6) (hal : al < 128) (st : S6) (hiv : Iv st) (k : Nat) (hk : k < 36) (hno : sNo n g al co ro st = k + 1) : CI l y_RC_countFrom (.code y_RC_countFrom b_RC_countFrom 6 (some .int) :: Om) { frames := 2 * 0 + 3, cells := 0, slots := 0, locals := 60 * 0 + 80 } D [(a, .inr (2, [.int (nI n), .int (nI g), .int (nI sh), .int (nI al), .ref b1, .ref b2, .ref b3, .ref b4, .ref b5, .ref b6, .ref b7, .ref b8, .ref b9, .ref b10, .int (nI fd)])), (b1, .inl (cI, 36, .inl (nA fx))), (b2, .inl (cI, 36, .inl (nA le))), (b3, .inl (cI, 36, .inl (nA st.1))), (b4, .inl (cI, 36, .inl (nA st.2.2.2.1))), (b5, .inl (cI, 36, .inl (nA co))), (b6, .inl (cI, 36, .inl (nA ro))), (b7, .inl (cI, 6, .inl (nA st.2.1))), (b8, .inl (cI, 6, .inl (nA st.2.2.1))), (b9, .inl (cI, 6, .inl (nA st.2.2.2.2.1))), (b10, .inl (cI, 6, .inl (nA st.2.2.2.2.2)))] [(cI, .int), (cL, .long)] [.ref a, .int (nI (36 - 0)), .int (nI most)] (fun r u => r = nI (cF n g sh al co ro 0 most st).1 ∧ u = [(a, .inr (2, [.int (nI n), .int (nI g), .int (nI sh), .int (nI al), .ref b1, .ref b2, .ref b3, .ref b4, .ref b5, .ref b6, .ref b7, .ref b8, .ref b9, .ref b10, .int (nI fd)])), (b1, .inl (cI, 36, .inl (nA fx))), (b2, .inl (cI, 36, .inl (nA le))), (b3, .inl (cI, 36, .inl (nA (((cF n g sh al co ro 0 most st).2).1)))), (b4, .inl (cI, 36, .inl (nA (((cF n g sh al co ro 0 most st).2).2.2.2.1)))), (b5, .inl (cI, 36, .inl (nA co))), (b6, .inl (cI, 36, .inl (nA ro))), (b7, .inl (cI, 6, .inl (nA (((cF n g sh al co ro 0 most st).2).2.1)))), (b8, .inl (cI, 6, .inl (nA (((cF n g sh al co ro 0 most st).2).2.2.1)))), (b9, .inl (cI, 6, .inl (nA (((cF n g sh al co ro 0 most st).2).2.2.2.2.1)))), (b10, .inl (cI, 6, .inl (nA (((cF n g sh al co ro 0 most st).2).2.2.2.2.2))))]) := by
  refine en_of (cc := b_RC_countFrom) (Qc := qI D [(cI, .int), (cL, .long)] (fun r u => r = nI (cF n g sh al co ro 0 most st).1 ∧ u = [(a, .inr (2, [.int (nI n), .int (nI g), .int (nI sh), .int (nI al), .ref b1, .ref b2, .ref b3, .ref b4, .ref b5, .ref b6, .ref b7, .ref b8, .ref b9, .ref b10, .int (nI fd)])), (b1, .inl (cI, 36, .inl (nA fx))), (b2, .inl (cI, 36, .inl (nA le))), (b3, .inl (cI, 36, .inl (nA (((cF n g sh al co ro 0 most st).2).1)))), (b4, .inl (cI, 36, .inl (nA (((cF n g sh al co ro 0 most st).2).2.2.2.1)))), (b5, .inl (cI, 36, .inl (nA co))), (b6, .inl (cI, 36, .inl (nA ro))), (b7, .inl (cI, 6, .inl (nA (((cF n g sh al co ro 0 most st).2).2.1)))), (b8, .inl (cI, 6, .inl (nA (((cF n g sh al co ro 0 most st).2).2.2.1)))), (b9, .inl (cI, 6, .inl (nA (((cF n g sh al co ro 0 most st).2).2.2.2.2.1)))), (b10, .inl (cI, 6, .inl (nA (((cF n g sh al co ro 0 most st).2).2.2.2.2.2))))])) (by decide) rfl (Nat.le_of_ble_eq_true rfl) ?_
  intro p e s m below meth c A E hnm hP hD hS ls hl
  have hl : lv_has ls 6 [(0, .ref a), (1, .int (nI (36 - 0))), (2, .int (nI most))] := hl
  obtain ⟨hx, hb, hml, hown, hts, hr, hlk, hA, hK, hN⟩ := id E
  have ho : ∀ q ∈ Om, q.before _ s = true := fun q h => hts q (List.mem_cons_of_mem _ h)
  refine lv_aload_n hx hb d_RC_countFrom_0 rfl (lv_at hl 0 rfl) ?_
  refine af_i (wc := [(a, .inr (2, [.int (nI n), .int (nI g), .int (nI sh), .int (nI al), .ref b1, .ref b2, .ref b3, .ref b4, .ref b5, .ref b6, .ref b7, .ref b8, .ref b9, .ref b10, .int (nI fd)])), (b1, .inl (cI, 36, .inl (nA fx))), (b2, .inl (cI, 36, .inl (nA le))), (b3, .inl (cI, 36, .inl (nA st.1))), (b4, .inl (cI, 36, .inl (nA st.2.2.2.1))), (b5, .inl (cI, 36, .inl (nA co))), (b6, .inl (cI, 36, .inl (nA ro))), (b7, .inl (cI, 6, .inl (nA st.2.1))), (b8, .inl (cI, 6, .inl (nA st.2.2.1))), (b9, .inl (cI, 6, .inl (nA st.2.2.2.2.1))), (b10, .inl (cI, 6, .inl (nA st.2.2.2.2.2)))]) (wr := []) (rest := []) [0, 1, 2, 3, 4, 5, 6, 7, 8, 9, 10] [] hP hD hS hA rfl rfl (by decide) (by decide) (rn_V E (As := []) m_RC_narrowestOpenCell km_RC_96 (c_RC_narrow l D cI cL a b1 b2 b3 b4 b5 b6 b7 b8 b9 b10 n g sh al fd fx le st.1 st.2.2.2.1 co ro st.2.1 st.2.2.1 st.2.2.2.2.1 st.2.2.2.2.2 hco hro hn hal hiv.1 hg _) ⟨rfl, rfl, by dsimp only; omega, by dsimp only; omega⟩ (hP.sub [0, 1, 2, 3, 4, 5, 6, 7, 8, 9, 10] rfl) (hD.sub [0, 1, 2, 3, 4, 5, 6, 7, 8, 9, 10] (by decide) rfl) (q0 := 0) (ci := 2) rfl rfl rfl hl.1 rfl (Nat.le_of_ble_eq_true rfl) ⟨Nat.le_of_ble_eq_true rfl, Nat.le_of_ble_eq_true rfl⟩ d_RC_countFrom_1) (fun r_2 u_1 H locs hw hP hD hS => ?_)
  obtain ⟨rfl, rfl⟩ := hw
  rw [show rNo n g al co ro st.1 st.2.1 st.2.2.1 = k + 1 from hno, nI_pred]
  have hP : va_P D classes [(a, .inr (2, [.int (nI n), .int (nI g), .int (nI sh), .int (nI al), .ref b1, .ref b2, .ref b3, .ref b4, .ref b5, .ref b6, .ref b7, .ref b8, .ref b9, .ref b10, .int (nI fd)])), (b1, .inl (cI, 36, .inl (nA fx))), (b2, .inl (cI, 36, .inl (nA le))), (b3, .inl (cI, 36, .inl (nA st.1))), (b4, .inl (cI, 36, .inl (nA st.2.2.2.1))), (b5, .inl (cI, 36, .inl (nA co))), (b6, .inl (cI, 36, .inl (nA ro))), (b7, .inl (cI, 6, .inl (nA st.2.1))), (b8, .inl (cI, 6, .inl (nA st.2.2.1))), (b9, .inl (cI, 6, .inl (nA st.2.2.2.2.1))), (b10, .inl (cI, 6, .inl (nA st.2.2.2.2.2)))] H := hP
  have hD : va_D A [(a, .inr (2, [.int (nI n), .int (nI g), .int (nI sh), .int (nI al), .ref b1, .ref b2, .ref b3, .ref b4, .ref b5, .ref b6, .ref b7, .ref b8, .ref b9, .ref b10, .int (nI fd)])), (b1, .inl (cI, 36, .inl (nA fx))), (b2, .inl (cI, 36, .inl (nA le))), (b3, .inl (cI, 36, .inl (nA st.1))), (b4, .inl (cI, 36, .inl (nA st.2.2.2.1))), (b5, .inl (cI, 36, .inl (nA co))), (b6, .inl (cI, 36, .inl (nA ro))), (b7, .inl (cI, 6, .inl (nA st.2.1))), (b8, .inl (cI, 6, .inl (nA st.2.2.1))), (b9, .inl (cI, 6, .inl (nA st.2.2.2.2.1))), (b10, .inl (cI, 6, .inl (nA st.2.2.2.2.2)))] := hD
  refine lv_istore_n (lv' := [(3, .int (nI k)), (0, .ref a), (1, .int (nI (36 - 0))), (2, .int (nI most))]) hx hb d_RC_countFrom_4 rfl hl (by decide) rfl (fun ls hl => ?_)
  refine lv_iload_n hx hb d_RC_countFrom_5 rfl (lv_at hl 0 rfl) ?_
  refine nr_if_ge (tgt := 26) hx hb d_RC_countFrom_6 (by decide) (by omega) ?_
  refine lv_aload_n hx hb d_RC_countFrom_26 rfl (lv_at hl 1 rfl) ?_
  refine lv_iload_n hx hb d_RC_countFrom_27 rfl (lv_at hl 0 rfl) ?_
  refine af_i (wc := [(a, .inr (2, [.int (nI n), .int (nI g), .int (nI sh), .int (nI al), .ref b1, .ref b2, .ref b3, .ref b4, .ref b5, .ref b6, .ref b7, .ref b8, .ref b9, .ref b10, .int (nI fd)])), (b1, .inl (cI, 36, .inl (nA fx))), (b2, .inl (cI, 36, .inl (nA le))), (b3, .inl (cI, 36, .inl (nA st.1))), (b4, .inl (cI, 36, .inl (nA st.2.2.2.1))), (b5, .inl (cI, 36, .inl (nA co))), (b6, .inl (cI, 36, .inl (nA ro))), (b7, .inl (cI, 6, .inl (nA st.2.1))), (b8, .inl (cI, 6, .inl (nA st.2.2.1))), (b9, .inl (cI, 6, .inl (nA st.2.2.2.2.1))), (b10, .inl (cI, 6, .inl (nA st.2.2.2.2.2)))]) (wr := []) (rest := []) [0, 1, 2, 3, 4, 5, 6, 7, 8, 9, 10] [] hP hD hS hA rfl rfl (by decide) (by decide) (rn_V E (As := [.int (nI k)]) m_RC_choicesAt km_RC_85 (c_RC_choicesAt l D cI cL a b1 b2 b3 b4 b5 b6 b7 b8 b9 b10 n g sh al fd fx le st.1 st.2.2.2.1 co ro st.2.1 st.2.2.1 st.2.2.2.2.1 st.2.2.2.2.2 k (by omega) hco hro _) ⟨rfl, rfl, by dsimp only; omega, by dsimp only; omega⟩ (hP.sub [0, 1, 2, 3, 4, 5, 6, 7, 8, 9, 10] rfl) (hD.sub [0, 1, 2, 3, 4, 5, 6, 7, 8, 9, 10] (by decide) rfl) (q0 := 0) (ci := 2) rfl rfl rfl hl.1 rfl (Nat.le_of_ble_eq_true rfl) ⟨Nat.le_of_ble_eq_true rfl, Nat.le_of_ble_eq_true rfl⟩ d_RC_countFrom_28) (fun r_4 u_3 H locs hw hP hD hS => ?_)
  obtain ⟨rfl, rfl⟩ := hw
  have hP : va_P D classes [(a, .inr (2, [.int (nI n), .int (nI g), .int (nI sh), .int (nI al), .ref b1, .ref b2, .ref b3, .ref b4, .ref b5, .ref b6, .ref b7, .ref b8, .ref b9, .ref b10, .int (nI fd)])), (b1, .inl (cI, 36, .inl (nA fx))), (b2, .inl (cI, 36, .inl (nA le))), (b3, .inl (cI, 36, .inl (nA st.1))), (b4, .inl (cI, 36, .inl (nA st.2.2.2.1))), (b5, .inl (cI, 36, .inl (nA co))), (b6, .inl (cI, 36, .inl (nA ro))), (b7, .inl (cI, 6, .inl (nA st.2.1))), (b8, .inl (cI, 6, .inl (nA st.2.2.1))), (b9, .inl (cI, 6, .inl (nA st.2.2.2.2.1))), (b10, .inl (cI, 6, .inl (nA st.2.2.2.2.2)))] H := hP
  have hD : va_D A [(a, .inr (2, [.int (nI n), .int (nI g), .int (nI sh), .int (nI al), .ref b1, .ref b2, .ref b3, .ref b4, .ref b5, .ref b6, .ref b7, .ref b8, .ref b9, .ref b10, .int (nI fd)])), (b1, .inl (cI, 36, .inl (nA fx))), (b2, .inl (cI, 36, .inl (nA le))), (b3, .inl (cI, 36, .inl (nA st.1))), (b4, .inl (cI, 36, .inl (nA st.2.2.2.1))), (b5, .inl (cI, 36, .inl (nA co))), (b6, .inl (cI, 36, .inl (nA ro))), (b7, .inl (cI, 6, .inl (nA st.2.1))), (b8, .inl (cI, 6, .inl (nA st.2.2.1))), (b9, .inl (cI, 6, .inl (nA st.2.2.2.2.1))), (b10, .inl (cI, 6, .inl (nA st.2.2.2.2.2)))] := hD
  refine lv_istore (lv' := [(4, .int (nI (rCh al co ro st.2.1 st.2.2.1 k))), (3, .int (nI k)), (0, .ref a), (1, .int (nI (36 - 0))), (2, .int (nI most))]) hx hb d_RC_countFrom_31 hl (by decide) rfl (fun ls hl => ?_)
  refine lv_iload_n hx hb d_RC_countFrom_33 rfl (lv_at hl 3 rfl) ?_
  refine lv_bipush (v := nI 36) hx hb d_RC_countFrom_34 (by decide) ?_
  refine nr_icmp_ge (tgt := 55) hx hb d_RC_countFrom_36 (by decide) (by omega) (by omega) (fun _ => ?_) (fun h9 => absurd h9 (by omega))
  refine lv_iconst (v := nI 1) hx hb d_RC_countFrom_55 (by decide) ?_
  refine lv_goto (tgt := 60) hx hb d_RC_countFrom_56 (by decide) ?_
  refine lv_istore (lv' := [(5, .int (nI 1)), (4, .int (nI (rCh al co ro st.2.1 st.2.2.1 k))), (3, .int (nI k)), (0, .ref a), (1, .int (nI (36 - 0))), (2, .int (nI most))]) hx hb d_RC_countFrom_60 hl (by decide) rfl (fun ls hl => ?_)
  refine lv_iload hx hb d_RC_countFrom_62 (lv_at hl 0 rfl) ?_
  refine nr_if_eq (tgt := 71) hx hb d_RC_countFrom_64 (by decide) (by decide) (fun h9 => absurd h9 (by decide)) (fun _ => ?_)
  refine lv_iconst (v := nI 0) hx hb d_RC_countFrom_67 (by decide) ?_
  refine lv_goto (tgt := 80) hx hb d_RC_countFrom_68 (by decide) ?_
  exact rt_i E hP hD hS (by rw [cF, if_neg (by omega)]; exact ⟨rfl, rfl⟩) d_RC_countFrom_80
set_option maxHeartbeats 1000000 in
set_option maxRecDepth 100000 in
theorem c_RC_FSopen (l : Launch) (D : va_G) (cI cL : ClassId) (a b1 b2 b3 b4 b5 b6 b7 b8 b9 b10 n g sh al fd : Nat) (fx le co ro : Nat → Nat) (e0 : Nat) (he : e0 + 1 ≤ 36) (most : Nat) (hm : most < 2 ^ 31) (hco : ∀ k, co k < 6) (hro : ∀ k, ro k < 6) (hn : n ≤ 36) (hg : g ≤ 6) (hsh : sh ≤ 6) (hal : al < 128) (hF : ∀ (most : Nat) (st : S6), 1 ≤ most → most < 2 ^ 31 → Iv st → CI l y_RC_countFrom (.code y_RC_countFrom b_RC_countFrom 6 (some .int) :: Om) { frames := 2 * e0 + 3, cells := 0, slots := 0, locals := 60 * e0 + 80 } D [(a, .inr (2, [.int (nI n), .int (nI g), .int (nI sh), .int (nI al), .ref b1, .ref b2, .ref b3, .ref b4, .ref b5, .ref b6, .ref b7, .ref b8, .ref b9, .ref b10, .int (nI fd)])), (b1, .inl (cI, 36, .inl (nA fx))), (b2, .inl (cI, 36, .inl (nA le))), (b3, .inl (cI, 36, .inl (nA st.1))), (b4, .inl (cI, 36, .inl (nA st.2.2.2.1))), (b5, .inl (cI, 36, .inl (nA co))), (b6, .inl (cI, 36, .inl (nA ro))), (b7, .inl (cI, 6, .inl (nA st.2.1))), (b8, .inl (cI, 6, .inl (nA st.2.2.1))), (b9, .inl (cI, 6, .inl (nA st.2.2.2.2.1))), (b10, .inl (cI, 6, .inl (nA st.2.2.2.2.2)))] [(cI, .int), (cL, .long)] [.ref a, .int (nI (36 - e0)), .int (nI most)] (fun r u => r = nI (cF n g sh al co ro e0 most st).1 ∧ u = [(a, .inr (2, [.int (nI n), .int (nI g), .int (nI sh), .int (nI al), .ref b1, .ref b2, .ref b3, .ref b4, .ref b5, .ref b6, .ref b7, .ref b8, .ref b9, .ref b10, .int (nI fd)])), (b1, .inl (cI, 36, .inl (nA fx))), (b2, .inl (cI, 36, .inl (nA le))), (b3, .inl (cI, 36, .inl (nA (((cF n g sh al co ro e0 most st).2).1)))), (b4, .inl (cI, 36, .inl (nA (((cF n g sh al co ro e0 most st).2).2.2.2.1)))), (b5, .inl (cI, 36, .inl (nA co))), (b6, .inl (cI, 36, .inl (nA ro))), (b7, .inl (cI, 6, .inl (nA (((cF n g sh al co ro e0 most st).2).2.1)))), (b8, .inl (cI, 6, .inl (nA (((cF n g sh al co ro e0 most st).2).2.2.1)))), (b9, .inl (cI, 6, .inl (nA (((cF n g sh al co ro e0 most st).2).2.2.2.2.1)))), (b10, .inl (cI, 6, .inl (nA (((cF n g sh al co ro e0 most st).2).2.2.2.2.2))))])) (st : S6) (hiv : Iv st) (k : Nat) (hk : k < 36) (hno : sNo n g al co ro st = k + 1) : CI l y_RC_countFrom (.code y_RC_countFrom b_RC_countFrom 6 (some .int) :: Om) { frames := 2 * (e0 + 1) + 3, cells := 0, slots := 0, locals := 60 * (e0 + 1) + 80 } D [(a, .inr (2, [.int (nI n), .int (nI g), .int (nI sh), .int (nI al), .ref b1, .ref b2, .ref b3, .ref b4, .ref b5, .ref b6, .ref b7, .ref b8, .ref b9, .ref b10, .int (nI fd)])), (b1, .inl (cI, 36, .inl (nA fx))), (b2, .inl (cI, 36, .inl (nA le))), (b3, .inl (cI, 36, .inl (nA st.1))), (b4, .inl (cI, 36, .inl (nA st.2.2.2.1))), (b5, .inl (cI, 36, .inl (nA co))), (b6, .inl (cI, 36, .inl (nA ro))), (b7, .inl (cI, 6, .inl (nA st.2.1))), (b8, .inl (cI, 6, .inl (nA st.2.2.1))), (b9, .inl (cI, 6, .inl (nA st.2.2.2.2.1))), (b10, .inl (cI, 6, .inl (nA st.2.2.2.2.2)))] [(cI, .int), (cL, .long)] [.ref a, .int (nI (36 - (e0 + 1))), .int (nI most)] (fun r u => r = nI (cF n g sh al co ro (e0 + 1) most st).1 ∧ u = [(a, .inr (2, [.int (nI n), .int (nI g), .int (nI sh), .int (nI al), .ref b1, .ref b2, .ref b3, .ref b4, .ref b5, .ref b6, .ref b7, .ref b8, .ref b9, .ref b10, .int (nI fd)])), (b1, .inl (cI, 36, .inl (nA fx))), (b2, .inl (cI, 36, .inl (nA le))), (b3, .inl (cI, 36, .inl (nA (((cF n g sh al co ro (e0 + 1) most st).2).1)))), (b4, .inl (cI, 36, .inl (nA (((cF n g sh al co ro (e0 + 1) most st).2).2.2.2.1)))), (b5, .inl (cI, 36, .inl (nA co))), (b6, .inl (cI, 36, .inl (nA ro))), (b7, .inl (cI, 6, .inl (nA (((cF n g sh al co ro (e0 + 1) most st).2).2.1)))), (b8, .inl (cI, 6, .inl (nA (((cF n g sh al co ro (e0 + 1) most st).2).2.2.1)))), (b9, .inl (cI, 6, .inl (nA (((cF n g sh al co ro (e0 + 1) most st).2).2.2.2.2.1)))), (b10, .inl (cI, 6, .inl (nA (((cF n g sh al co ro (e0 + 1) most st).2).2.2.2.2.2))))]) := by
  refine en_of (cc := b_RC_countFrom) (Qc := qI D [(cI, .int), (cL, .long)] (fun r u => r = nI (cF n g sh al co ro (e0 + 1) most st).1 ∧ u = [(a, .inr (2, [.int (nI n), .int (nI g), .int (nI sh), .int (nI al), .ref b1, .ref b2, .ref b3, .ref b4, .ref b5, .ref b6, .ref b7, .ref b8, .ref b9, .ref b10, .int (nI fd)])), (b1, .inl (cI, 36, .inl (nA fx))), (b2, .inl (cI, 36, .inl (nA le))), (b3, .inl (cI, 36, .inl (nA (((cF n g sh al co ro (e0 + 1) most st).2).1)))), (b4, .inl (cI, 36, .inl (nA (((cF n g sh al co ro (e0 + 1) most st).2).2.2.2.1)))), (b5, .inl (cI, 36, .inl (nA co))), (b6, .inl (cI, 36, .inl (nA ro))), (b7, .inl (cI, 6, .inl (nA (((cF n g sh al co ro (e0 + 1) most st).2).2.1)))), (b8, .inl (cI, 6, .inl (nA (((cF n g sh al co ro (e0 + 1) most st).2).2.2.1)))), (b9, .inl (cI, 6, .inl (nA (((cF n g sh al co ro (e0 + 1) most st).2).2.2.2.2.1)))), (b10, .inl (cI, 6, .inl (nA (((cF n g sh al co ro (e0 + 1) most st).2).2.2.2.2.2))))])) (by decide) rfl (Nat.le_of_ble_eq_true rfl) ?_
  intro p e s m below meth c A E hnm hP hD hS ls hl
  have hl : lv_has ls 6 [(0, .ref a), (1, .int (nI (36 - (e0 + 1)))), (2, .int (nI most))] := hl
  obtain ⟨hx, hb, hml, hown, hts, hr, hlk, hA, hK, hN⟩ := id E
  have ho : ∀ q ∈ Om, q.before _ s = true := fun q h => hts q (List.mem_cons_of_mem _ h)
  refine lv_aload_n hx hb d_RC_countFrom_0 rfl (lv_at hl 0 rfl) ?_
  refine af_i (wc := [(a, .inr (2, [.int (nI n), .int (nI g), .int (nI sh), .int (nI al), .ref b1, .ref b2, .ref b3, .ref b4, .ref b5, .ref b6, .ref b7, .ref b8, .ref b9, .ref b10, .int (nI fd)])), (b1, .inl (cI, 36, .inl (nA fx))), (b2, .inl (cI, 36, .inl (nA le))), (b3, .inl (cI, 36, .inl (nA st.1))), (b4, .inl (cI, 36, .inl (nA st.2.2.2.1))), (b5, .inl (cI, 36, .inl (nA co))), (b6, .inl (cI, 36, .inl (nA ro))), (b7, .inl (cI, 6, .inl (nA st.2.1))), (b8, .inl (cI, 6, .inl (nA st.2.2.1))), (b9, .inl (cI, 6, .inl (nA st.2.2.2.2.1))), (b10, .inl (cI, 6, .inl (nA st.2.2.2.2.2)))]) (wr := []) (rest := []) [0, 1, 2, 3, 4, 5, 6, 7, 8, 9, 10] [] hP hD hS hA rfl rfl (by decide) (by decide) (rn_V E (As := []) m_RC_narrowestOpenCell km_RC_96 (c_RC_narrow l D cI cL a b1 b2 b3 b4 b5 b6 b7 b8 b9 b10 n g sh al fd fx le st.1 st.2.2.2.1 co ro st.2.1 st.2.2.1 st.2.2.2.2.1 st.2.2.2.2.2 hco hro hn hal hiv.1 hg _) ⟨rfl, rfl, by dsimp only; omega, by dsimp only; omega⟩ (hP.sub [0, 1, 2, 3, 4, 5, 6, 7, 8, 9, 10] rfl) (hD.sub [0, 1, 2, 3, 4, 5, 6, 7, 8, 9, 10] (by decide) rfl) (q0 := 0) (ci := 2) rfl rfl rfl hl.1 rfl (Nat.le_of_ble_eq_true rfl) ⟨Nat.le_of_ble_eq_true rfl, Nat.le_of_ble_eq_true rfl⟩ d_RC_countFrom_1) (fun r_2 u_1 H locs hw hP hD hS => ?_)
  obtain ⟨rfl, rfl⟩ := hw
  rw [show rNo n g al co ro st.1 st.2.1 st.2.2.1 = k + 1 from hno, nI_pred]
  have hP : va_P D classes [(a, .inr (2, [.int (nI n), .int (nI g), .int (nI sh), .int (nI al), .ref b1, .ref b2, .ref b3, .ref b4, .ref b5, .ref b6, .ref b7, .ref b8, .ref b9, .ref b10, .int (nI fd)])), (b1, .inl (cI, 36, .inl (nA fx))), (b2, .inl (cI, 36, .inl (nA le))), (b3, .inl (cI, 36, .inl (nA st.1))), (b4, .inl (cI, 36, .inl (nA st.2.2.2.1))), (b5, .inl (cI, 36, .inl (nA co))), (b6, .inl (cI, 36, .inl (nA ro))), (b7, .inl (cI, 6, .inl (nA st.2.1))), (b8, .inl (cI, 6, .inl (nA st.2.2.1))), (b9, .inl (cI, 6, .inl (nA st.2.2.2.2.1))), (b10, .inl (cI, 6, .inl (nA st.2.2.2.2.2)))] H := hP
  have hD : va_D A [(a, .inr (2, [.int (nI n), .int (nI g), .int (nI sh), .int (nI al), .ref b1, .ref b2, .ref b3, .ref b4, .ref b5, .ref b6, .ref b7, .ref b8, .ref b9, .ref b10, .int (nI fd)])), (b1, .inl (cI, 36, .inl (nA fx))), (b2, .inl (cI, 36, .inl (nA le))), (b3, .inl (cI, 36, .inl (nA st.1))), (b4, .inl (cI, 36, .inl (nA st.2.2.2.1))), (b5, .inl (cI, 36, .inl (nA co))), (b6, .inl (cI, 36, .inl (nA ro))), (b7, .inl (cI, 6, .inl (nA st.2.1))), (b8, .inl (cI, 6, .inl (nA st.2.2.1))), (b9, .inl (cI, 6, .inl (nA st.2.2.2.2.1))), (b10, .inl (cI, 6, .inl (nA st.2.2.2.2.2)))] := hD
  refine lv_istore_n (lv' := [(3, .int (nI k)), (0, .ref a), (1, .int (nI (36 - (e0 + 1)))), (2, .int (nI most))]) hx hb d_RC_countFrom_4 rfl hl (by decide) rfl (fun ls hl => ?_)
  refine lv_iload_n hx hb d_RC_countFrom_5 rfl (lv_at hl 0 rfl) ?_
  refine nr_if_ge (tgt := 26) hx hb d_RC_countFrom_6 (by decide) (by omega) ?_
  refine lv_aload_n hx hb d_RC_countFrom_26 rfl (lv_at hl 1 rfl) ?_
  refine lv_iload_n hx hb d_RC_countFrom_27 rfl (lv_at hl 0 rfl) ?_
  refine af_i (wc := [(a, .inr (2, [.int (nI n), .int (nI g), .int (nI sh), .int (nI al), .ref b1, .ref b2, .ref b3, .ref b4, .ref b5, .ref b6, .ref b7, .ref b8, .ref b9, .ref b10, .int (nI fd)])), (b1, .inl (cI, 36, .inl (nA fx))), (b2, .inl (cI, 36, .inl (nA le))), (b3, .inl (cI, 36, .inl (nA st.1))), (b4, .inl (cI, 36, .inl (nA st.2.2.2.1))), (b5, .inl (cI, 36, .inl (nA co))), (b6, .inl (cI, 36, .inl (nA ro))), (b7, .inl (cI, 6, .inl (nA st.2.1))), (b8, .inl (cI, 6, .inl (nA st.2.2.1))), (b9, .inl (cI, 6, .inl (nA st.2.2.2.2.1))), (b10, .inl (cI, 6, .inl (nA st.2.2.2.2.2)))]) (wr := []) (rest := []) [0, 1, 2, 3, 4, 5, 6, 7, 8, 9, 10] [] hP hD hS hA rfl rfl (by decide) (by decide) (rn_V E (As := [.int (nI k)]) m_RC_choicesAt km_RC_85 (c_RC_choicesAt l D cI cL a b1 b2 b3 b4 b5 b6 b7 b8 b9 b10 n g sh al fd fx le st.1 st.2.2.2.1 co ro st.2.1 st.2.2.1 st.2.2.2.2.1 st.2.2.2.2.2 k (by omega) hco hro _) ⟨rfl, rfl, by dsimp only; omega, by dsimp only; omega⟩ (hP.sub [0, 1, 2, 3, 4, 5, 6, 7, 8, 9, 10] rfl) (hD.sub [0, 1, 2, 3, 4, 5, 6, 7, 8, 9, 10] (by decide) rfl) (q0 := 0) (ci := 2) rfl rfl rfl hl.1 rfl (Nat.le_of_ble_eq_true rfl) ⟨Nat.le_of_ble_eq_true rfl, Nat.le_of_ble_eq_true rfl⟩ d_RC_countFrom_28) (fun r_4 u_3 H locs hw hP hD hS => ?_)
  obtain ⟨rfl, rfl⟩ := hw
  have hP : va_P D classes [(a, .inr (2, [.int (nI n), .int (nI g), .int (nI sh), .int (nI al), .ref b1, .ref b2, .ref b3, .ref b4, .ref b5, .ref b6, .ref b7, .ref b8, .ref b9, .ref b10, .int (nI fd)])), (b1, .inl (cI, 36, .inl (nA fx))), (b2, .inl (cI, 36, .inl (nA le))), (b3, .inl (cI, 36, .inl (nA st.1))), (b4, .inl (cI, 36, .inl (nA st.2.2.2.1))), (b5, .inl (cI, 36, .inl (nA co))), (b6, .inl (cI, 36, .inl (nA ro))), (b7, .inl (cI, 6, .inl (nA st.2.1))), (b8, .inl (cI, 6, .inl (nA st.2.2.1))), (b9, .inl (cI, 6, .inl (nA st.2.2.2.2.1))), (b10, .inl (cI, 6, .inl (nA st.2.2.2.2.2)))] H := hP
  have hD : va_D A [(a, .inr (2, [.int (nI n), .int (nI g), .int (nI sh), .int (nI al), .ref b1, .ref b2, .ref b3, .ref b4, .ref b5, .ref b6, .ref b7, .ref b8, .ref b9, .ref b10, .int (nI fd)])), (b1, .inl (cI, 36, .inl (nA fx))), (b2, .inl (cI, 36, .inl (nA le))), (b3, .inl (cI, 36, .inl (nA st.1))), (b4, .inl (cI, 36, .inl (nA st.2.2.2.1))), (b5, .inl (cI, 36, .inl (nA co))), (b6, .inl (cI, 36, .inl (nA ro))), (b7, .inl (cI, 6, .inl (nA st.2.1))), (b8, .inl (cI, 6, .inl (nA st.2.2.1))), (b9, .inl (cI, 6, .inl (nA st.2.2.2.2.1))), (b10, .inl (cI, 6, .inl (nA st.2.2.2.2.2)))] := hD
  have hch : sCh al co ro st k ≤ al := rCh_le _ _ _ _ _ _
  have hpc := pop_le 32 (sCh al co ro st k)
  refine lv_istore (lv' := [(4, .int (nI (sCh al co ro st k))), (3, .int (nI k)), (0, .ref a), (1, .int (nI (36 - (e0 + 1)))), (2, .int (nI most))]) hx hb d_RC_countFrom_31 hl (by decide) rfl (fun ls hl => ?_)
  refine lv_iload_n hx hb d_RC_countFrom_33 rfl (lv_at hl 3 rfl) ?_
  refine lv_bipush (v := nI 36) hx hb d_RC_countFrom_34 (by decide) ?_
  refine nr_icmp_ge (tgt := 55) hx hb d_RC_countFrom_36 (by decide) (by omega) (by omega) (fun h9 => absurd h9 (by omega)) (fun _ => ?_)
  refine lv_iload hx hb d_RC_countFrom_39 (lv_at hl 0 rfl) ?_
  refine af_i (wc := []) (wr := [(a, .inr (2, [.int (nI n), .int (nI g), .int (nI sh), .int (nI al), .ref b1, .ref b2, .ref b3, .ref b4, .ref b5, .ref b6, .ref b7, .ref b8, .ref b9, .ref b10, .int (nI fd)])), (b1, .inl (cI, 36, .inl (nA fx))), (b2, .inl (cI, 36, .inl (nA le))), (b3, .inl (cI, 36, .inl (nA st.1))), (b4, .inl (cI, 36, .inl (nA st.2.2.2.1))), (b5, .inl (cI, 36, .inl (nA co))), (b6, .inl (cI, 36, .inl (nA ro))), (b7, .inl (cI, 6, .inl (nA st.2.1))), (b8, .inl (cI, 6, .inl (nA st.2.2.1))), (b9, .inl (cI, 6, .inl (nA st.2.2.2.2.1))), (b10, .inl (cI, 6, .inl (nA st.2.2.2.2.2)))]) (rest := []) [] [0, 1, 2, 3, 4, 5, 6, 7, 8, 9, 10] hP hD hS hA rfl rfl (by decide) (by decide) (rn_S E (As := [.int (nI (sCh al co ro st k))]) m_IN_bitCount km_RC_100 (c_IN_bitCount l D cI cL (sCh al co ro st k) (by omega) _) ⟨rfl, rfl, Nat.le_of_ble_eq_true rfl, Nat.le_of_ble_eq_true rfl⟩ (hP.sub [] rfl) (hD.sub [] (by decide) rfl) rfl hl.1 rfl (Nat.le_of_ble_eq_true rfl) ⟨Nat.le_of_ble_eq_true rfl, Nat.le_of_ble_eq_true rfl⟩ d_RC_countFrom_41) (fun r_6 u_5 H locs hw hP hD hS => ?_)
  obtain ⟨rfl, rfl⟩ := hw
  have hP : va_P D classes [(a, .inr (2, [.int (nI n), .int (nI g), .int (nI sh), .int (nI al), .ref b1, .ref b2, .ref b3, .ref b4, .ref b5, .ref b6, .ref b7, .ref b8, .ref b9, .ref b10, .int (nI fd)])), (b1, .inl (cI, 36, .inl (nA fx))), (b2, .inl (cI, 36, .inl (nA le))), (b3, .inl (cI, 36, .inl (nA st.1))), (b4, .inl (cI, 36, .inl (nA st.2.2.2.1))), (b5, .inl (cI, 36, .inl (nA co))), (b6, .inl (cI, 36, .inl (nA ro))), (b7, .inl (cI, 6, .inl (nA st.2.1))), (b8, .inl (cI, 6, .inl (nA st.2.2.1))), (b9, .inl (cI, 6, .inl (nA st.2.2.2.2.1))), (b10, .inl (cI, 6, .inl (nA st.2.2.2.2.2)))] H := hP
  have hD : va_D A [(a, .inr (2, [.int (nI n), .int (nI g), .int (nI sh), .int (nI al), .ref b1, .ref b2, .ref b3, .ref b4, .ref b5, .ref b6, .ref b7, .ref b8, .ref b9, .ref b10, .int (nI fd)])), (b1, .inl (cI, 36, .inl (nA fx))), (b2, .inl (cI, 36, .inl (nA le))), (b3, .inl (cI, 36, .inl (nA st.1))), (b4, .inl (cI, 36, .inl (nA st.2.2.2.1))), (b5, .inl (cI, 36, .inl (nA co))), (b6, .inl (cI, 36, .inl (nA ro))), (b7, .inl (cI, 6, .inl (nA st.2.1))), (b8, .inl (cI, 6, .inl (nA st.2.2.1))), (b9, .inl (cI, 6, .inl (nA st.2.2.2.2.1))), (b10, .inl (cI, 6, .inl (nA st.2.2.2.2.2)))] := hD
  refine lv_iconst (v := nI 1) hx hb d_RC_countFrom_44 (by decide) ?_
  refine nr_icmp_le (tgt := 59) hx hb d_RC_countFrom_45 (by decide) (by omega) (by omega) (fun h_7 => ?_) (fun h_7 => ?_)
  · refine lv_iconst (v := nI 0) hx hb d_RC_countFrom_59 (by decide) ?_
    refine lv_istore (lv' := [(5, .int (nI 0)), (4, .int (nI (sCh al co ro st k))), (3, .int (nI k)), (0, .ref a), (1, .int (nI (36 - (e0 + 1)))), (2, .int (nI most))]) hx hb d_RC_countFrom_60 hl (by decide) rfl (fun ls hl => ?_)
    refine lv_iload hx hb d_RC_countFrom_62 (lv_at hl 0 rfl) ?_
    refine nr_if_eq (tgt := 71) hx hb d_RC_countFrom_64 (by decide) (by decide) (fun _ => ?_) (fun h9 => absurd h9 (by decide))
    refine lv_aload_n hx hb d_RC_countFrom_71 rfl (lv_at hl 3 rfl) ?_
    refine lv_iload_n hx hb d_RC_countFrom_72 rfl (lv_at hl 2 rfl) ?_
    refine lv_iload hx hb d_RC_countFrom_73 (lv_at hl 1 rfl) ?_
    refine lv_iload_n hx hb d_RC_countFrom_75 rfl (lv_at hl 4 rfl) ?_
    refine lv_iload_n hx hb d_RC_countFrom_76 rfl (lv_at hl 5 rfl) ?_
    refine af_i (wc := [(a, .inr (2, [.int (nI n), .int (nI g), .int (nI sh), .int (nI al), .ref b1, .ref b2, .ref b3, .ref b4, .ref b5, .ref b6, .ref b7, .ref b8, .ref b9, .ref b10, .int (nI fd)])), (b1, .inl (cI, 36, .inl (nA fx))), (b2, .inl (cI, 36, .inl (nA le))), (b3, .inl (cI, 36, .inl (nA st.1))), (b4, .inl (cI, 36, .inl (nA st.2.2.2.1))), (b5, .inl (cI, 36, .inl (nA co))), (b6, .inl (cI, 36, .inl (nA ro))), (b7, .inl (cI, 6, .inl (nA st.2.1))), (b8, .inl (cI, 6, .inl (nA st.2.2.1))), (b9, .inl (cI, 6, .inl (nA st.2.2.2.2.1))), (b10, .inl (cI, 6, .inl (nA st.2.2.2.2.2)))]) (wr := []) (rest := []) [0, 1, 2, 3, 4, 5, 6, 7, 8, 9, 10] [] hP hD hS hA rfl rfl (by decide) (by decide) (rn_V E (As := [.int (nI k), .int (nI (sCh al co ro st k)), .int (nI (36 - (e0 + 1))), .int (nI most)]) m_RC_countWith km_RC_108 (c_RC_countWith l D cI cL a b1 b2 b3 b4 b5 b6 b7 b8 b9 b10 n g sh al fd fx le co ro e0 k (sCh al co ro st k) most he hk (by omega) hm hco hro hn hg hsh hal hF st hiv _) ⟨rfl, rfl, by dsimp only; omega, by dsimp only; omega⟩ (hP.sub [0, 1, 2, 3, 4, 5, 6, 7, 8, 9, 10] rfl) (hD.sub [0, 1, 2, 3, 4, 5, 6, 7, 8, 9, 10] (by decide) rfl) (q0 := 0) (ci := 2) rfl rfl rfl hl.1 rfl (Nat.le_of_ble_eq_true rfl) ⟨Nat.le_of_ble_eq_true rfl, Nat.le_of_ble_eq_true rfl⟩ d_RC_countFrom_77) (fun r_9 u_8 H locs hw hP hD hS => ?_)
    obtain ⟨rfl, rfl⟩ := hw
    have hP : va_P D classes [(a, .inr (2, [.int (nI n), .int (nI g), .int (nI sh), .int (nI al), .ref b1, .ref b2, .ref b3, .ref b4, .ref b5, .ref b6, .ref b7, .ref b8, .ref b9, .ref b10, .int (nI fd)])), (b1, .inl (cI, 36, .inl (nA fx))), (b2, .inl (cI, 36, .inl (nA le))), (b3, .inl (cI, 36, .inl (nA (((cW g co ro (cF n g sh al co ro e0) k (sCh al co ro st k) most (g + 1) 1 0 st).2).1)))), (b4, .inl (cI, 36, .inl (nA (((cW g co ro (cF n g sh al co ro e0) k (sCh al co ro st k) most (g + 1) 1 0 st).2).2.2.2.1)))), (b5, .inl (cI, 36, .inl (nA co))), (b6, .inl (cI, 36, .inl (nA ro))), (b7, .inl (cI, 6, .inl (nA (((cW g co ro (cF n g sh al co ro e0) k (sCh al co ro st k) most (g + 1) 1 0 st).2).2.1)))), (b8, .inl (cI, 6, .inl (nA (((cW g co ro (cF n g sh al co ro e0) k (sCh al co ro st k) most (g + 1) 1 0 st).2).2.2.1)))), (b9, .inl (cI, 6, .inl (nA (((cW g co ro (cF n g sh al co ro e0) k (sCh al co ro st k) most (g + 1) 1 0 st).2).2.2.2.2.1)))), (b10, .inl (cI, 6, .inl (nA (((cW g co ro (cF n g sh al co ro e0) k (sCh al co ro st k) most (g + 1) 1 0 st).2).2.2.2.2.2))))] H := hP
    have hD : va_D A [(a, .inr (2, [.int (nI n), .int (nI g), .int (nI sh), .int (nI al), .ref b1, .ref b2, .ref b3, .ref b4, .ref b5, .ref b6, .ref b7, .ref b8, .ref b9, .ref b10, .int (nI fd)])), (b1, .inl (cI, 36, .inl (nA fx))), (b2, .inl (cI, 36, .inl (nA le))), (b3, .inl (cI, 36, .inl (nA (((cW g co ro (cF n g sh al co ro e0) k (sCh al co ro st k) most (g + 1) 1 0 st).2).1)))), (b4, .inl (cI, 36, .inl (nA (((cW g co ro (cF n g sh al co ro e0) k (sCh al co ro st k) most (g + 1) 1 0 st).2).2.2.2.1)))), (b5, .inl (cI, 36, .inl (nA co))), (b6, .inl (cI, 36, .inl (nA ro))), (b7, .inl (cI, 6, .inl (nA (((cW g co ro (cF n g sh al co ro e0) k (sCh al co ro st k) most (g + 1) 1 0 st).2).2.1)))), (b8, .inl (cI, 6, .inl (nA (((cW g co ro (cF n g sh al co ro e0) k (sCh al co ro st k) most (g + 1) 1 0 st).2).2.2.1)))), (b9, .inl (cI, 6, .inl (nA (((cW g co ro (cF n g sh al co ro e0) k (sCh al co ro st k) most (g + 1) 1 0 st).2).2.2.2.2.1)))), (b10, .inl (cI, 6, .inl (nA (((cW g co ro (cF n g sh al co ro e0) k (sCh al co ro st k) most (g + 1) 1 0 st).2).2.2.2.2.2))))] := hD
    exact rt_i E hP hD hS (by rw [cF, if_neg (by omega), show sNo n g al co ro st - 1 = k by omega]; first | (rw [if_pos (by omega), if_pos (by omega)]; exact ⟨rfl, rfl⟩) | (rw [if_pos (by omega), if_neg (by omega)]; exact ⟨rfl, rfl⟩) | (rw [if_neg (by omega)]; exact ⟨rfl, rfl⟩)) d_RC_countFrom_80
  · refine lv_aload_n hx hb d_RC_countFrom_48 rfl (lv_at hl 2 rfl) ?_
    have hlk1 : sLk n g sh al co ro st ≤ 1 := rC3_1 _ _ _ _ _
    have hlk2 : rLk n g sh al co ro st.1 st.2.1 st.2.2.1 st.2.2.2.2.1 st.2.2.2.2.2 = sLk n g sh al co ro st := rfl
    refine af_i (wc := [(a, .inr (2, [.int (nI n), .int (nI g), .int (nI sh), .int (nI al), .ref b1, .ref b2, .ref b3, .ref b4, .ref b5, .ref b6, .ref b7, .ref b8, .ref b9, .ref b10, .int (nI fd)])), (b1, .inl (cI, 36, .inl (nA fx))), (b2, .inl (cI, 36, .inl (nA le))), (b3, .inl (cI, 36, .inl (nA st.1))), (b4, .inl (cI, 36, .inl (nA st.2.2.2.1))), (b5, .inl (cI, 36, .inl (nA co))), (b6, .inl (cI, 36, .inl (nA ro))), (b7, .inl (cI, 6, .inl (nA st.2.1))), (b8, .inl (cI, 6, .inl (nA st.2.2.1))), (b9, .inl (cI, 6, .inl (nA st.2.2.2.2.1))), (b10, .inl (cI, 6, .inl (nA st.2.2.2.2.2)))]) (wr := []) (rest := []) [0, 1, 2, 3, 4, 5, 6, 7, 8, 9, 10] [] hP hD hS hA rfl rfl (by decide) (by decide) (rn_V E (As := []) m_RC_someNumberLacksPlaces km_RC_105 (c_RC_lacks l D cI cL a b1 b2 b3 b4 b5 b6 b7 b8 b9 b10 n g sh al fd fx le st.1 st.2.2.2.1 co ro st.2.1 st.2.2.1 st.2.2.2.2.1 st.2.2.2.2.2 hco hro hn hg hsh hal hiv.1 hiv.2.1 hiv.2.2.1 hiv.2.2.2.2.1 hiv.2.2.2.2.2 _) ⟨rfl, rfl, by dsimp only; omega, by dsimp only; omega⟩ (hP.sub [0, 1, 2, 3, 4, 5, 6, 7, 8, 9, 10] rfl) (hD.sub [0, 1, 2, 3, 4, 5, 6, 7, 8, 9, 10] (by decide) rfl) (q0 := 0) (ci := 2) rfl rfl rfl hl.1 rfl (Nat.le_of_ble_eq_true rfl) ⟨Nat.le_of_ble_eq_true rfl, Nat.le_of_ble_eq_true rfl⟩ d_RC_countFrom_49) (fun r_11 u_10 H locs hw hP hD hS => ?_)
    obtain ⟨rfl, rfl⟩ := hw
    have hP : va_P D classes [(a, .inr (2, [.int (nI n), .int (nI g), .int (nI sh), .int (nI al), .ref b1, .ref b2, .ref b3, .ref b4, .ref b5, .ref b6, .ref b7, .ref b8, .ref b9, .ref b10, .int (nI fd)])), (b1, .inl (cI, 36, .inl (nA fx))), (b2, .inl (cI, 36, .inl (nA le))), (b3, .inl (cI, 36, .inl (nA st.1))), (b4, .inl (cI, 36, .inl (nA st.2.2.2.1))), (b5, .inl (cI, 36, .inl (nA co))), (b6, .inl (cI, 36, .inl (nA ro))), (b7, .inl (cI, 6, .inl (nA st.2.1))), (b8, .inl (cI, 6, .inl (nA st.2.2.1))), (b9, .inl (cI, 6, .inl (nA ((sPs n al co ro st).2.2.2.2.1)))), (b10, .inl (cI, 6, .inl (nA ((sPs n al co ro st).2.2.2.2.2))))] H := hP
    have hD : va_D A [(a, .inr (2, [.int (nI n), .int (nI g), .int (nI sh), .int (nI al), .ref b1, .ref b2, .ref b3, .ref b4, .ref b5, .ref b6, .ref b7, .ref b8, .ref b9, .ref b10, .int (nI fd)])), (b1, .inl (cI, 36, .inl (nA fx))), (b2, .inl (cI, 36, .inl (nA le))), (b3, .inl (cI, 36, .inl (nA st.1))), (b4, .inl (cI, 36, .inl (nA st.2.2.2.1))), (b5, .inl (cI, 36, .inl (nA co))), (b6, .inl (cI, 36, .inl (nA ro))), (b7, .inl (cI, 6, .inl (nA st.2.1))), (b8, .inl (cI, 6, .inl (nA st.2.2.1))), (b9, .inl (cI, 6, .inl (nA ((sPs n al co ro st).2.2.2.2.1)))), (b10, .inl (cI, 6, .inl (nA ((sPs n al co ro st).2.2.2.2.2))))] := hD
    refine nr_if_eq (tgt := 59) hx hb d_RC_countFrom_52 (by decide) (by omega) (fun h_12 => ?_) (fun h_12 => ?_)
    · refine lv_iconst (v := nI 0) hx hb d_RC_countFrom_59 (by decide) ?_
      refine lv_istore (lv' := [(5, .int (nI 0)), (4, .int (nI (sCh al co ro st k))), (3, .int (nI k)), (0, .ref a), (1, .int (nI (36 - (e0 + 1)))), (2, .int (nI most))]) hx hb d_RC_countFrom_60 hl (by decide) rfl (fun ls hl => ?_)
      refine lv_iload hx hb d_RC_countFrom_62 (lv_at hl 0 rfl) ?_
      refine nr_if_eq (tgt := 71) hx hb d_RC_countFrom_64 (by decide) (by decide) (fun _ => ?_) (fun h9 => absurd h9 (by decide))
      refine lv_aload_n hx hb d_RC_countFrom_71 rfl (lv_at hl 3 rfl) ?_
      refine lv_iload_n hx hb d_RC_countFrom_72 rfl (lv_at hl 2 rfl) ?_
      refine lv_iload hx hb d_RC_countFrom_73 (lv_at hl 1 rfl) ?_
      refine lv_iload_n hx hb d_RC_countFrom_75 rfl (lv_at hl 4 rfl) ?_
      refine lv_iload_n hx hb d_RC_countFrom_76 rfl (lv_at hl 5 rfl) ?_
      refine af_i (wc := [(a, .inr (2, [.int (nI n), .int (nI g), .int (nI sh), .int (nI al), .ref b1, .ref b2, .ref b3, .ref b4, .ref b5, .ref b6, .ref b7, .ref b8, .ref b9, .ref b10, .int (nI fd)])), (b1, .inl (cI, 36, .inl (nA fx))), (b2, .inl (cI, 36, .inl (nA le))), (b3, .inl (cI, 36, .inl (nA st.1))), (b4, .inl (cI, 36, .inl (nA st.2.2.2.1))), (b5, .inl (cI, 36, .inl (nA co))), (b6, .inl (cI, 36, .inl (nA ro))), (b7, .inl (cI, 6, .inl (nA st.2.1))), (b8, .inl (cI, 6, .inl (nA st.2.2.1))), (b9, .inl (cI, 6, .inl (nA ((sPs n al co ro st).2.2.2.2.1)))), (b10, .inl (cI, 6, .inl (nA ((sPs n al co ro st).2.2.2.2.2))))]) (wr := []) (rest := []) [0, 1, 2, 3, 4, 5, 6, 7, 8, 9, 10] [] hP hD hS hA rfl rfl (by decide) (by decide) (rn_V E (As := [.int (nI k), .int (nI (sCh al co ro st k)), .int (nI (36 - (e0 + 1))), .int (nI most)]) m_RC_countWith km_RC_108 (c_RC_countWith l D cI cL a b1 b2 b3 b4 b5 b6 b7 b8 b9 b10 n g sh al fd fx le co ro e0 k (sCh al co ro st k) most he hk (by omega) hm hco hro hn hg hsh hal hF (sPs n al co ro st) (iv_ps hal hiv) _) ⟨rfl, rfl, by dsimp only; omega, by dsimp only; omega⟩ (hP.sub [0, 1, 2, 3, 4, 5, 6, 7, 8, 9, 10] rfl) (hD.sub [0, 1, 2, 3, 4, 5, 6, 7, 8, 9, 10] (by decide) rfl) (q0 := 0) (ci := 2) rfl rfl rfl hl.1 rfl (Nat.le_of_ble_eq_true rfl) ⟨Nat.le_of_ble_eq_true rfl, Nat.le_of_ble_eq_true rfl⟩ d_RC_countFrom_77) (fun r_14 u_13 H locs hw hP hD hS => ?_)
      obtain ⟨rfl, rfl⟩ := hw
      have hP : va_P D classes [(a, .inr (2, [.int (nI n), .int (nI g), .int (nI sh), .int (nI al), .ref b1, .ref b2, .ref b3, .ref b4, .ref b5, .ref b6, .ref b7, .ref b8, .ref b9, .ref b10, .int (nI fd)])), (b1, .inl (cI, 36, .inl (nA fx))), (b2, .inl (cI, 36, .inl (nA le))), (b3, .inl (cI, 36, .inl (nA (((cW g co ro (cF n g sh al co ro e0) k (sCh al co ro st k) most (g + 1) 1 0 (sPs n al co ro st)).2).1)))), (b4, .inl (cI, 36, .inl (nA (((cW g co ro (cF n g sh al co ro e0) k (sCh al co ro st k) most (g + 1) 1 0 (sPs n al co ro st)).2).2.2.2.1)))), (b5, .inl (cI, 36, .inl (nA co))), (b6, .inl (cI, 36, .inl (nA ro))), (b7, .inl (cI, 6, .inl (nA (((cW g co ro (cF n g sh al co ro e0) k (sCh al co ro st k) most (g + 1) 1 0 (sPs n al co ro st)).2).2.1)))), (b8, .inl (cI, 6, .inl (nA (((cW g co ro (cF n g sh al co ro e0) k (sCh al co ro st k) most (g + 1) 1 0 (sPs n al co ro st)).2).2.2.1)))), (b9, .inl (cI, 6, .inl (nA (((cW g co ro (cF n g sh al co ro e0) k (sCh al co ro st k) most (g + 1) 1 0 (sPs n al co ro st)).2).2.2.2.2.1)))), (b10, .inl (cI, 6, .inl (nA (((cW g co ro (cF n g sh al co ro e0) k (sCh al co ro st k) most (g + 1) 1 0 (sPs n al co ro st)).2).2.2.2.2.2))))] H := hP
      have hD : va_D A [(a, .inr (2, [.int (nI n), .int (nI g), .int (nI sh), .int (nI al), .ref b1, .ref b2, .ref b3, .ref b4, .ref b5, .ref b6, .ref b7, .ref b8, .ref b9, .ref b10, .int (nI fd)])), (b1, .inl (cI, 36, .inl (nA fx))), (b2, .inl (cI, 36, .inl (nA le))), (b3, .inl (cI, 36, .inl (nA (((cW g co ro (cF n g sh al co ro e0) k (sCh al co ro st k) most (g + 1) 1 0 (sPs n al co ro st)).2).1)))), (b4, .inl (cI, 36, .inl (nA (((cW g co ro (cF n g sh al co ro e0) k (sCh al co ro st k) most (g + 1) 1 0 (sPs n al co ro st)).2).2.2.2.1)))), (b5, .inl (cI, 36, .inl (nA co))), (b6, .inl (cI, 36, .inl (nA ro))), (b7, .inl (cI, 6, .inl (nA (((cW g co ro (cF n g sh al co ro e0) k (sCh al co ro st k) most (g + 1) 1 0 (sPs n al co ro st)).2).2.1)))), (b8, .inl (cI, 6, .inl (nA (((cW g co ro (cF n g sh al co ro e0) k (sCh al co ro st k) most (g + 1) 1 0 (sPs n al co ro st)).2).2.2.1)))), (b9, .inl (cI, 6, .inl (nA (((cW g co ro (cF n g sh al co ro e0) k (sCh al co ro st k) most (g + 1) 1 0 (sPs n al co ro st)).2).2.2.2.2.1)))), (b10, .inl (cI, 6, .inl (nA (((cW g co ro (cF n g sh al co ro e0) k (sCh al co ro st k) most (g + 1) 1 0 (sPs n al co ro st)).2).2.2.2.2.2))))] := hD
      exact rt_i E hP hD hS (by rw [cF, if_neg (by omega), show sNo n g al co ro st - 1 = k by omega]; first | (rw [if_pos (by omega), if_pos (by omega)]; exact ⟨rfl, rfl⟩) | (rw [if_pos (by omega), if_neg (by omega)]; exact ⟨rfl, rfl⟩) | (rw [if_neg (by omega)]; exact ⟨rfl, rfl⟩)) d_RC_countFrom_80
    · refine lv_iconst (v := nI 1) hx hb d_RC_countFrom_55 (by decide) ?_
      refine lv_goto (tgt := 60) hx hb d_RC_countFrom_56 (by decide) ?_
      refine lv_istore (lv' := [(5, .int (nI 1)), (4, .int (nI (sCh al co ro st k))), (3, .int (nI k)), (0, .ref a), (1, .int (nI (36 - (e0 + 1)))), (2, .int (nI most))]) hx hb d_RC_countFrom_60 hl (by decide) rfl (fun ls hl => ?_)
      refine lv_iload hx hb d_RC_countFrom_62 (lv_at hl 0 rfl) ?_
      refine nr_if_eq (tgt := 71) hx hb d_RC_countFrom_64 (by decide) (by decide) (fun h9 => absurd h9 (by decide)) (fun _ => ?_)
      refine lv_iconst (v := nI 0) hx hb d_RC_countFrom_67 (by decide) ?_
      refine lv_goto (tgt := 80) hx hb d_RC_countFrom_68 (by decide) ?_
      exact rt_i E hP hD hS (by rw [cF, if_neg (by omega), show sNo n g al co ro st - 1 = k by omega]; first | (rw [if_pos (by omega), if_pos (by omega)]; exact ⟨rfl, rfl⟩) | (rw [if_pos (by omega), if_neg (by omega)]; exact ⟨rfl, rfl⟩) | (rw [if_neg (by omega)]; exact ⟨rfl, rfl⟩)) d_RC_countFrom_80
theorem rNr_le {n al : Nat} {co ro tr uc ur : Nat → Nat} : ∀ m k nw fw, nw ≤ n → rNr n al co ro tr uc ur m k nw fw ≤ n := by
  intro m
  induction m with
  | zero => intro k nw fw h; exact h
  | succ m ih =>
    intro k nw fw h
    rw [rNr]
    split
    · split
      · split
        · exact ih _ _ _ (by omega)
        · exact ih _ _ _ h
      · exact ih _ _ _ h
    · exact h
theorem c_RC_countFrom (l : Launch) (D : va_G) (cI cL : ClassId) (a b1 b2 b3 b4 b5 b6 b7 b8 b9 b10 n g sh al fd : Nat) (fx le co ro : Nat → Nat) (hco : ∀ k, co k < 6) (hro : ∀ k, ro k < 6) (hn : n ≤ 36) (hg : g ≤ 6) (hsh : sh ≤ 6) (hal : al < 128) : ∀ e, e ≤ 36 → ∀ (most : Nat) (st : S6), 1 ≤ most → most < 2 ^ 31 → Iv st → CI l y_RC_countFrom (.code y_RC_countFrom b_RC_countFrom 6 (some .int) :: Om) { frames := 2 * e + 3, cells := 0, slots := 0, locals := 60 * e + 80 } D [(a, .inr (2, [.int (nI n), .int (nI g), .int (nI sh), .int (nI al), .ref b1, .ref b2, .ref b3, .ref b4, .ref b5, .ref b6, .ref b7, .ref b8, .ref b9, .ref b10, .int (nI fd)])), (b1, .inl (cI, 36, .inl (nA fx))), (b2, .inl (cI, 36, .inl (nA le))), (b3, .inl (cI, 36, .inl (nA st.1))), (b4, .inl (cI, 36, .inl (nA st.2.2.2.1))), (b5, .inl (cI, 36, .inl (nA co))), (b6, .inl (cI, 36, .inl (nA ro))), (b7, .inl (cI, 6, .inl (nA st.2.1))), (b8, .inl (cI, 6, .inl (nA st.2.2.1))), (b9, .inl (cI, 6, .inl (nA st.2.2.2.2.1))), (b10, .inl (cI, 6, .inl (nA st.2.2.2.2.2)))] [(cI, .int), (cL, .long)] [.ref a, .int (nI (36 - e)), .int (nI most)] (fun r u => r = nI (cF n g sh al co ro e most st).1 ∧ u = [(a, .inr (2, [.int (nI n), .int (nI g), .int (nI sh), .int (nI al), .ref b1, .ref b2, .ref b3, .ref b4, .ref b5, .ref b6, .ref b7, .ref b8, .ref b9, .ref b10, .int (nI fd)])), (b1, .inl (cI, 36, .inl (nA fx))), (b2, .inl (cI, 36, .inl (nA le))), (b3, .inl (cI, 36, .inl (nA (((cF n g sh al co ro e most st).2).1)))), (b4, .inl (cI, 36, .inl (nA (((cF n g sh al co ro e most st).2).2.2.2.1)))), (b5, .inl (cI, 36, .inl (nA co))), (b6, .inl (cI, 36, .inl (nA ro))), (b7, .inl (cI, 6, .inl (nA (((cF n g sh al co ro e most st).2).2.1)))), (b8, .inl (cI, 6, .inl (nA (((cF n g sh al co ro e most st).2).2.2.1)))), (b9, .inl (cI, 6, .inl (nA (((cF n g sh al co ro e most st).2).2.2.2.2.1)))), (b10, .inl (cI, 6, .inl (nA (((cF n g sh al co ro e most st).2).2.2.2.2.2))))]) := by
  intro e
  induction e with
  | zero =>
    intro _ most st h1 hm hiv
    have hle : sNo n g al co ro st ≤ n := rNr_le _ _ _ _ (Nat.zero_le _)
    rcases h : sNo n g al co ro st with _ | k
    · exact c_RC_F0full l D cI cL a b1 b2 b3 b4 b5 b6 b7 b8 b9 b10 n g sh al fd fx le co ro most hco hro hn hg hsh hal st hiv h
    · exact c_RC_F0open l D cI cL a b1 b2 b3 b4 b5 b6 b7 b8 b9 b10 n g sh al fd fx le co ro most hco hro hn hg hsh hal st hiv k (by omega) h
  | succ e ih =>
    intro he most st h1 hm hiv
    have hle : sNo n g al co ro st ≤ n := rNr_le _ _ _ _ (Nat.zero_le _)
    rcases h : sNo n g al co ro st with _ | k
    · exact c_RC_FSfull l D cI cL a b1 b2 b3 b4 b5 b6 b7 b8 b9 b10 n g sh al fd fx le co ro e he most hco hro hn hg hsh hal st hiv h
    · exact c_RC_FSopen l D cI cL a b1 b2 b3 b4 b5 b6 b7 b8 b9 b10 n g sh al fd fx le co ro e he most hm hco hro hn hg hsh hal (ih (by omega)) st hiv k (by omega) h
end
section
/-! Rectangle: fills and fill -/
theorem rZ_lt {b c : Nat} (hc : 0 < c) : ∀ m k f, (∀ j, f j < c) → ∀ j, rZ m k b f j < c := by
  intro m
  induction m with
  | zero => intro k f hf; exact hf
  | succ m ih =>
    intro k f hf
    rw [rZ]
    split
    · exact ih _ _ (up_lt hf hc)
    · exact hf
theorem rLay_ok {n al : Nat} {fx co ro : Nat → Nat} (hfx : ∀ k, fx k < 7) : ∀ m k (st : S3), ((∀ j, st.1 j < 8) ∧ (∀ j, st.2.1 j < 128) ∧ (∀ j, st.2.2 j < 128)) → (rLay n al fx co ro m k st).1 ≤ 1 ∧ (∀ j, (rLay n al fx co ro m k st).2.1 j < 8) ∧ (∀ j, (rLay n al fx co ro m k st).2.2.1 j < 128) ∧ (∀ j, (rLay n al fx co ro m k st).2.2.2 j < 128) := by
  intro m
  induction m with
  | zero => intro k st hs; exact ⟨Nat.le_refl 1, hs⟩
  | succ m ih =>
    intro k st hs
    rw [rLay]
    split
    · split
      · exact ih _ _ hs
      · split
        · exact ⟨Nat.zero_le 1, hs⟩
        · exact ih _ _ ⟨up_lt hs.1 (by have := hfx k; omega), rPut_lt hs.2.1 (hfx k), rPut_lt hs.2.2 (hfx k)⟩
    · exact ⟨Nat.le_refl 1, hs⟩
abbrev sL0 (n al : Nat) (fx co ro : Nat → Nat) (st : S6) : Nat × S3 := rLG n al fx co ro (st.1, st.2.1, st.2.2.1)
abbrev sLG (n al : Nat) (fx co ro : Nat → Nat) (st : S6) : S6 := ((sL0 n al fx co ro st).2.1, (sL0 n al fx co ro st).2.2.1, (sL0 n al fx co ro st).2.2.2, st.2.2.2)
theorem iv_lg {n al : Nat} {fx co ro : Nat → Nat} {st : S6} (hfx : ∀ k, fx k < 7) (h : Iv st) : (sL0 n al fx co ro st).1 ≤ 1 ∧ Iv (sLG n al fx co ro st) := by
  obtain ⟨h0, h1, h2, h3⟩ := rLay_ok (n := n) (al := al) (fx := fx) (co := co) (ro := ro) hfx (n + 1) 0 (rZ (n + 1) 0 n st.1, rZ 7 0 6 st.2.1, rZ 7 0 6 st.2.2.1) ⟨rZ_lt (by decide) _ _ _ h.1, rZ_lt (by decide) _ _ _ h.2.1, rZ_lt (by decide) _ _ _ h.2.2.1⟩
  exact ⟨h0, h1, h2, h3, h.2.2.2⟩
/-- fills: how many, and what the arrays are then -/
def sUp (n g sh al : Nat) (fx co ro : Nat → Nat) (most : Nat) (st : S6) : Nat × S6 := if most = 0 then (0, st) else if (sL0 n al fx co ro st).1 = 0 then (0, sLG n al fx co ro st) else cF n g sh al co ro 36 most (sLG n al fx co ro st)
/-- one cell settled on its least number; known: the number of a rectangle that there is -/
def sSt (n g sh al : Nat) (co ro : Nat → Nat) (k known ch : Nat) : Nat → Nat → S6 → S6
  | 0, _, st => sPut co ro st k known
  | m + 1, v, st => if v < known then (if ch / 2 ^ v % 2 = 0 then sSt n g sh al co ro k known ch m (v + 1) st else if (cF n g sh al co ro 36 1 (sPut co ro st k v)).1 = 0 then sSt n g sh al co ro k known ch m (v + 1) (sTake co ro (cF n g sh al co ro 36 1 (sPut co ro st k v)).2 k v) else (cF n g sh al co ro 36 1 (sPut co ro st k v)).2) else sPut co ro st k known
abbrev sS1 (n g sh al : Nat) (co ro : Nat → Nat) (k : Nat) (st : S6) : S6 := sSt n g sh al co ro k (st.2.2.2.1 k) (sCh al co ro st k) 8 1 st
def sLp (n g sh al : Nat) (co ro : Nat → Nat) : Nat → Nat → S6 → S6
  | 0, _, st => st
  | m + 1, k, st => if k < n then (if st.1 k = 0 then sLp n g sh al co ro m (k + 1) (sS1 n g sh al co ro k st) else sLp n g sh al co ro m (k + 1) st) else st
theorem iv_st {n g sh al : Nat} {co ro : Nat → Nat} (hg : g ≤ 6) (hal : al < 128) {k known ch : Nat} (hk : known < 7) : ∀ m v st, known ≤ v + m → Iv st → Iv (sSt n g sh al co ro k known ch m v st) := by
  intro m
  induction m with
  | zero => intro v st _ h; exact iv_put h hk
  | succ m ih =>
    intro v st hm h
    rw [sSt]
    split
    · have g1 := cF_ok (n := n) (sh := sh) (co := co) (ro := ro) hg hal 36 1 (sPut co ro st k v) (by decide) (iv_put h (by omega))
      split
      · exact ih _ _ (by omega) h
      · split
        · exact ih _ _ (by omega) (iv_take g1.2)
        · exact g1.2
    · exact iv_put h hk
set_option maxHeartbeats 1000000 in
set_option maxRecDepth 100000 in
theorem c_RC_countUpTo (l : Launch) (D : va_G) (cI cL : ClassId) (a b1 b2 b3 b4 b5 b6 b7 b8 b9 b10 n g sh al fd : Nat) (fx le co ro : Nat → Nat) (most : Nat) (hm : most < 2 ^ 31) (hco : ∀ k, co k < 6) (hro : ∀ k, ro k < 6) (hn : n ≤ 36) (hg : g ≤ 6) (hsh : sh ≤ 6) (hal : al < 128) (hfx : ∀ k, fx k < 7) (st : S6) (hiv : Iv st) : CI l y_RC_countUpTo (.code y_RC_countUpTo b_RC_countUpTo 2 (some .int) :: Om) { frames := 76, cells := 0, slots := 0, locals := 2300 } D [(a, .inr (2, [.int (nI n), .int (nI g), .int (nI sh), .int (nI al), .ref b1, .ref b2, .ref b3, .ref b4, .ref b5, .ref b6, .ref b7, .ref b8, .ref b9, .ref b10, .int (nI fd)])), (b1, .inl (cI, 36, .inl (nA fx))), (b2, .inl (cI, 36, .inl (nA le))), (b3, .inl (cI, 36, .inl (nA st.1))), (b4, .inl (cI, 36, .inl (nA st.2.2.2.1))), (b5, .inl (cI, 36, .inl (nA co))), (b6, .inl (cI, 36, .inl (nA ro))), (b7, .inl (cI, 6, .inl (nA st.2.1))), (b8, .inl (cI, 6, .inl (nA st.2.2.1))), (b9, .inl (cI, 6, .inl (nA st.2.2.2.2.1))), (b10, .inl (cI, 6, .inl (nA st.2.2.2.2.2)))] [(cI, .int), (cL, .long)] [.ref a, .int (nI most)] (fun r u => r = nI (sUp n g sh al fx co ro most st).1 ∧ u = [(a, .inr (2, [.int (nI n), .int (nI g), .int (nI sh), .int (nI al), .ref b1, .ref b2, .ref b3, .ref b4, .ref b5, .ref b6, .ref b7, .ref b8, .ref b9, .ref b10, .int (nI fd)])), (b1, .inl (cI, 36, .inl (nA fx))), (b2, .inl (cI, 36, .inl (nA le))), (b3, .inl (cI, 36, .inl (nA (((sUp n g sh al fx co ro most st).2).1)))), (b4, .inl (cI, 36, .inl (nA (((sUp n g sh al fx co ro most st).2).2.2.2.1)))), (b5, .inl (cI, 36, .inl (nA co))), (b6, .inl (cI, 36, .inl (nA ro))), (b7, .inl (cI, 6, .inl (nA (((sUp n g sh al fx co ro most st).2).2.1)))), (b8, .inl (cI, 6, .inl (nA (((sUp n g sh al fx co ro most st).2).2.2.1)))), (b9, .inl (cI, 6, .inl (nA (((sUp n g sh al fx co ro most st).2).2.2.2.2.1)))), (b10, .inl (cI, 6, .inl (nA (((sUp n g sh al fx co ro most st).2).2.2.2.2.2))))]) := by
  refine en_of (cc := b_RC_countUpTo) (Qc := qI D [(cI, .int), (cL, .long)] (fun r u => r = nI (sUp n g sh al fx co ro most st).1 ∧ u = [(a, .inr (2, [.int (nI n), .int (nI g), .int (nI sh), .int (nI al), .ref b1, .ref b2, .ref b3, .ref b4, .ref b5, .ref b6, .ref b7, .ref b8, .ref b9, .ref b10, .int (nI fd)])), (b1, .inl (cI, 36, .inl (nA fx))), (b2, .inl (cI, 36, .inl (nA le))), (b3, .inl (cI, 36, .inl (nA (((sUp n g sh al fx co ro most st).2).1)))), (b4, .inl (cI, 36, .inl (nA (((sUp n g sh al fx co ro most st).2).2.2.2.1)))), (b5, .inl (cI, 36, .inl (nA co))), (b6, .inl (cI, 36, .inl (nA ro))), (b7, .inl (cI, 6, .inl (nA (((sUp n g sh al fx co ro most st).2).2.1)))), (b8, .inl (cI, 6, .inl (nA (((sUp n g sh al fx co ro most st).2).2.2.1)))), (b9, .inl (cI, 6, .inl (nA (((sUp n g sh al fx co ro most st).2).2.2.2.2.1)))), (b10, .inl (cI, 6, .inl (nA (((sUp n g sh al fx co ro most st).2).2.2.2.2.2))))])) (by decide) rfl (Nat.le_of_ble_eq_true rfl) ?_
  intro p e s m below meth c A E hnm hP hD hS ls hl
  have hl : lv_has ls 2 [(0, .ref a), (1, .int (nI most))] := hl
  obtain ⟨hx, hb, hml, hown, hts, hr, hlk, hA, hK, hN⟩ := id E
  have ho : ∀ q ∈ Om, q.before _ s = true := fun q h => hts q (List.mem_cons_of_mem _ h)
  refine lv_iload_n hx hb d_RC_countUpTo_0 rfl (lv_at hl 1 rfl) ?_
  refine nr_if_le (tgt := 20) hx hb d_RC_countUpTo_1 (by decide) (by omega) (fun h_1 => ?_) (fun h_1 => ?_)
  · refine lv_iconst (v := nI 0) hx hb d_RC_countUpTo_20 (by decide) ?_
    exact rt_i E hP hD hS (by rw [sUp]; first | (rw [if_pos (by omega)]; exact ⟨rfl, rfl⟩) | (rw [if_neg (by omega), if_pos (by omega)]; exact ⟨rfl, rfl⟩) | (rw [if_neg (by omega), if_neg (by omega)]; exact ⟨rfl, rfl⟩)) d_RC_countUpTo_21
  · refine lv_aload_n hx hb d_RC_countUpTo_4 rfl (lv_at hl 0 rfl) ?_
    have hlg := iv_lg (n := n) (al := al) (co := co) (ro := ro) hfx hiv
    have hlg2 : (rLG n al fx co ro (st.1, st.2.1, st.2.2.1)).1 = (sL0 n al fx co ro st).1 := rfl
    refine af_i (wc := [(a, .inr (2, [.int (nI n), .int (nI g), .int (nI sh), .int (nI al), .ref b1, .ref b2, .ref b3, .ref b4, .ref b5, .ref b6, .ref b7, .ref b8, .ref b9, .ref b10, .int (nI fd)])), (b1, .inl (cI, 36, .inl (nA fx))), (b2, .inl (cI, 36, .inl (nA le))), (b3, .inl (cI, 36, .inl (nA st.1))), (b4, .inl (cI, 36, .inl (nA st.2.2.2.1))), (b5, .inl (cI, 36, .inl (nA co))), (b6, .inl (cI, 36, .inl (nA ro))), (b7, .inl (cI, 6, .inl (nA st.2.1))), (b8, .inl (cI, 6, .inl (nA st.2.2.1))), (b9, .inl (cI, 6, .inl (nA st.2.2.2.2.1))), (b10, .inl (cI, 6, .inl (nA st.2.2.2.2.2)))]) (wr := []) (rest := []) [0, 1, 2, 3, 4, 5, 6, 7, 8, 9, 10] [] hP hD hS hA rfl rfl (by decide) (by decide) (rn_V E (As := []) m_RC_layGiven km_RC_68 (c_RC_layGiven l D cI cL a b1 b2 b3 b4 b5 b6 b7 b8 b9 b10 n g sh al fd fx le st.1 st.2.2.2.1 co ro st.2.1 st.2.2.1 st.2.2.2.2.1 st.2.2.2.2.2 hco hro hn hal hfx _) ⟨rfl, rfl, by dsimp only; omega, by dsimp only; omega⟩ (hP.sub [0, 1, 2, 3, 4, 5, 6, 7, 8, 9, 10] rfl) (hD.sub [0, 1, 2, 3, 4, 5, 6, 7, 8, 9, 10] (by decide) rfl) (q0 := 0) (ci := 2) rfl rfl rfl hl.1 rfl (Nat.le_of_ble_eq_true rfl) ⟨Nat.le_of_ble_eq_true rfl, Nat.le_of_ble_eq_true rfl⟩ d_RC_countUpTo_5) (fun r_3 u_2 H locs hw hP hD hS => ?_)
    obtain ⟨rfl, rfl⟩ := hw
    have hP : va_P D classes [(a, .inr (2, [.int (nI n), .int (nI g), .int (nI sh), .int (nI al), .ref b1, .ref b2, .ref b3, .ref b4, .ref b5, .ref b6, .ref b7, .ref b8, .ref b9, .ref b10, .int (nI fd)])), (b1, .inl (cI, 36, .inl (nA fx))), (b2, .inl (cI, 36, .inl (nA le))), (b3, .inl (cI, 36, .inl (nA ((sLG n al fx co ro st).1)))), (b4, .inl (cI, 36, .inl (nA ((sLG n al fx co ro st).2.2.2.1)))), (b5, .inl (cI, 36, .inl (nA co))), (b6, .inl (cI, 36, .inl (nA ro))), (b7, .inl (cI, 6, .inl (nA ((sLG n al fx co ro st).2.1)))), (b8, .inl (cI, 6, .inl (nA ((sLG n al fx co ro st).2.2.1)))), (b9, .inl (cI, 6, .inl (nA ((sLG n al fx co ro st).2.2.2.2.1)))), (b10, .inl (cI, 6, .inl (nA ((sLG n al fx co ro st).2.2.2.2.2))))] H := hP
    have hD : va_D A [(a, .inr (2, [.int (nI n), .int (nI g), .int (nI sh), .int (nI al), .ref b1, .ref b2, .ref b3, .ref b4, .ref b5, .ref b6, .ref b7, .ref b8, .ref b9, .ref b10, .int (nI fd)])), (b1, .inl (cI, 36, .inl (nA fx))), (b2, .inl (cI, 36, .inl (nA le))), (b3, .inl (cI, 36, .inl (nA ((sLG n al fx co ro st).1)))), (b4, .inl (cI, 36, .inl (nA ((sLG n al fx co ro st).2.2.2.1)))), (b5, .inl (cI, 36, .inl (nA co))), (b6, .inl (cI, 36, .inl (nA ro))), (b7, .inl (cI, 6, .inl (nA ((sLG n al fx co ro st).2.1)))), (b8, .inl (cI, 6, .inl (nA ((sLG n al fx co ro st).2.2.1)))), (b9, .inl (cI, 6, .inl (nA ((sLG n al fx co ro st).2.2.2.2.1)))), (b10, .inl (cI, 6, .inl (nA ((sLG n al fx co ro st).2.2.2.2.2))))] := hD
    refine nr_if_eq (tgt := 20) hx hb d_RC_countUpTo_8 (by decide) (by omega) (fun h_4 => ?_) (fun h_4 => ?_)
    · refine lv_iconst (v := nI 0) hx hb d_RC_countUpTo_20 (by decide) ?_
      exact rt_i E hP hD hS (by rw [sUp]; first | (rw [if_pos (by omega)]; exact ⟨rfl, rfl⟩) | (rw [if_neg (by omega), if_pos (by omega)]; exact ⟨rfl, rfl⟩) | (rw [if_neg (by omega), if_neg (by omega)]; exact ⟨rfl, rfl⟩)) d_RC_countUpTo_21
    · refine lv_aload_n hx hb d_RC_countUpTo_11 rfl (lv_at hl 0 rfl) ?_
      refine lv_iconst (v := nI 0) hx hb d_RC_countUpTo_12 (by decide) ?_
      refine lv_iload_n hx hb d_RC_countUpTo_13 rfl (lv_at hl 1 rfl) ?_
      have hgo := cF_ok (n := n) (sh := sh) (co := co) (ro := ro) hg hal 36 most (sLG n al fx co ro st) (by omega) hlg.2
      refine af_i (wc := [(a, .inr (2, [.int (nI n), .int (nI g), .int (nI sh), .int (nI al), .ref b1, .ref b2, .ref b3, .ref b4, .ref b5, .ref b6, .ref b7, .ref b8, .ref b9, .ref b10, .int (nI fd)])), (b1, .inl (cI, 36, .inl (nA fx))), (b2, .inl (cI, 36, .inl (nA le))), (b3, .inl (cI, 36, .inl (nA ((sLG n al fx co ro st).1)))), (b4, .inl (cI, 36, .inl (nA ((sLG n al fx co ro st).2.2.2.1)))), (b5, .inl (cI, 36, .inl (nA co))), (b6, .inl (cI, 36, .inl (nA ro))), (b7, .inl (cI, 6, .inl (nA ((sLG n al fx co ro st).2.1)))), (b8, .inl (cI, 6, .inl (nA ((sLG n al fx co ro st).2.2.1)))), (b9, .inl (cI, 6, .inl (nA ((sLG n al fx co ro st).2.2.2.2.1)))), (b10, .inl (cI, 6, .inl (nA ((sLG n al fx co ro st).2.2.2.2.2))))]) (wr := []) (rest := []) [0, 1, 2, 3, 4, 5, 6, 7, 8, 9, 10] [] hP hD hS hA rfl rfl (by decide) (by decide) (rn_V E (As := [.int (nI 0), .int (nI most)]) m_RC_countFrom km_RC_72 (c_RC_countFrom l D cI cL a b1 b2 b3 b4 b5 b6 b7 b8 b9 b10 n g sh al fd fx le co ro hco hro hn hg hsh hal 36 (Nat.le_refl 36) most (sLG n al fx co ro st) (by omega) (by omega) hlg.2 _) ⟨rfl, rfl, by dsimp only; omega, by dsimp only; omega⟩ (hP.sub [0, 1, 2, 3, 4, 5, 6, 7, 8, 9, 10] rfl) (hD.sub [0, 1, 2, 3, 4, 5, 6, 7, 8, 9, 10] (by decide) rfl) (q0 := 0) (ci := 2) rfl rfl rfl hl.1 rfl (Nat.le_of_ble_eq_true rfl) ⟨Nat.le_of_ble_eq_true rfl, Nat.le_of_ble_eq_true rfl⟩ d_RC_countUpTo_14) (fun r_6 u_5 H locs hw hP hD hS => ?_)
      obtain ⟨rfl, rfl⟩ := hw
      have hP : va_P D classes [(a, .inr (2, [.int (nI n), .int (nI g), .int (nI sh), .int (nI al), .ref b1, .ref b2, .ref b3, .ref b4, .ref b5, .ref b6, .ref b7, .ref b8, .ref b9, .ref b10, .int (nI fd)])), (b1, .inl (cI, 36, .inl (nA fx))), (b2, .inl (cI, 36, .inl (nA le))), (b3, .inl (cI, 36, .inl (nA (((cF n g sh al co ro 36 most (sLG n al fx co ro st)).2).1)))), (b4, .inl (cI, 36, .inl (nA (((cF n g sh al co ro 36 most (sLG n al fx co ro st)).2).2.2.2.1)))), (b5, .inl (cI, 36, .inl (nA co))), (b6, .inl (cI, 36, .inl (nA ro))), (b7, .inl (cI, 6, .inl (nA (((cF n g sh al co ro 36 most (sLG n al fx co ro st)).2).2.1)))), (b8, .inl (cI, 6, .inl (nA (((cF n g sh al co ro 36 most (sLG n al fx co ro st)).2).2.2.1)))), (b9, .inl (cI, 6, .inl (nA (((cF n g sh al co ro 36 most (sLG n al fx co ro st)).2).2.2.2.2.1)))), (b10, .inl (cI, 6, .inl (nA (((cF n g sh al co ro 36 most (sLG n al fx co ro st)).2).2.2.2.2.2))))] H := hP
      have hD : va_D A [(a, .inr (2, [.int (nI n), .int (nI g), .int (nI sh), .int (nI al), .ref b1, .ref b2, .ref b3, .ref b4, .ref b5, .ref b6, .ref b7, .ref b8, .ref b9, .ref b10, .int (nI fd)])), (b1, .inl (cI, 36, .inl (nA fx))), (b2, .inl (cI, 36, .inl (nA le))), (b3, .inl (cI, 36, .inl (nA (((cF n g sh al co ro 36 most (sLG n al fx co ro st)).2).1)))), (b4, .inl (cI, 36, .inl (nA (((cF n g sh al co ro 36 most (sLG n al fx co ro st)).2).2.2.2.1)))), (b5, .inl (cI, 36, .inl (nA co))), (b6, .inl (cI, 36, .inl (nA ro))), (b7, .inl (cI, 6, .inl (nA (((cF n g sh al co ro 36 most (sLG n al fx co ro st)).2).2.1)))), (b8, .inl (cI, 6, .inl (nA (((cF n g sh al co ro 36 most (sLG n al fx co ro st)).2).2.2.1)))), (b9, .inl (cI, 6, .inl (nA (((cF n g sh al co ro 36 most (sLG n al fx co ro st)).2).2.2.2.2.1)))), (b10, .inl (cI, 6, .inl (nA (((cF n g sh al co ro 36 most (sLG n al fx co ro st)).2).2.2.2.2.2))))] := hD
      refine lv_goto (tgt := 21) hx hb d_RC_countUpTo_17 (by decide) ?_
      exact rt_i E hP hD hS (by rw [sUp]; first | (rw [if_pos (by omega)]; exact ⟨rfl, rfl⟩) | (rw [if_neg (by omega), if_pos (by omega)]; exact ⟨rfl, rfl⟩) | (rw [if_neg (by omega), if_neg (by omega)]; exact ⟨rfl, rfl⟩)) d_RC_countUpTo_21
set_option maxHeartbeats 1000000 in
set_option maxRecDepth 100000 in
theorem L_RC_settle {p : Program} {l : Launch} {e : Env} {s : State} {m : MethodId} {args : Array Value} {below : List Frame} {meth : Method} {c : Code} {A : Nat → Prop} {D : va_G} {cI cL : ClassId} {c0 : Cond} {post : va_W → Prop} (a b1 b2 b3 b4 b5 b6 b7 b8 b9 b10 n g sh al fd : Nat) (fx le co ro : Nat → Nat) (k known ch : Nat) (hk : k < 36) (hkn : known < 7) (hch : ch < 128) (hco : ∀ k, co k < 6) (hro : ∀ k, ro k < 6) (hn : n ≤ 36) (hg : g ≤ 6) (hsh : sh ≤ 6) (hal : al < 128) (E : En p s m args meth c b_RC_settle 5 (c0 :: Om) R_RC none A D [(cI, .int), (cL, .long)]) : ∀ (m1 : Nat) (v : Nat) (st : S6), 1 ≤ v → v ≤ 8 → 8 < v + m1 → Iv st → post [(a, .inr (2, [.int (nI n), .int (nI g), .int (nI sh), .int (nI al), .ref b1, .ref b2, .ref b3, .ref b4, .ref b5, .ref b6, .ref b7, .ref b8, .ref b9, .ref b10, .int (nI fd)])), (b1, .inl (cI, 36, .inl (nA fx))), (b2, .inl (cI, 36, .inl (nA le))), (b3, .inl (cI, 36, .inl (nA ((sSt n g sh al co ro k known ch m1 v st).1)))), (b4, .inl (cI, 36, .inl (nA ((sSt n g sh al co ro k known ch m1 v st).2.2.2.1)))), (b5, .inl (cI, 36, .inl (nA co))), (b6, .inl (cI, 36, .inl (nA ro))), (b7, .inl (cI, 6, .inl (nA ((sSt n g sh al co ro k known ch m1 v st).2.1)))), (b8, .inl (cI, 6, .inl (nA ((sSt n g sh al co ro k known ch m1 v st).2.2.1)))), (b9, .inl (cI, 6, .inl (nA ((sSt n g sh al co ro k known ch m1 v st).2.2.2.2.1)))), (b10, .inl (cI, 6, .inl (nA ((sSt n g sh al co ro k known ch m1 v st).2.2.2.2.2))))] → ∀ (H : Heap) (locs : List Loc), va_P D classes [(a, .inr (2, [.int (nI n), .int (nI g), .int (nI sh), .int (nI al), .ref b1, .ref b2, .ref b3, .ref b4, .ref b5, .ref b6, .ref b7, .ref b8, .ref b9, .ref b10, .int (nI fd)])), (b1, .inl (cI, 36, .inl (nA fx))), (b2, .inl (cI, 36, .inl (nA le))), (b3, .inl (cI, 36, .inl (nA st.1))), (b4, .inl (cI, 36, .inl (nA st.2.2.2.1))), (b5, .inl (cI, 36, .inl (nA co))), (b6, .inl (cI, 36, .inl (nA ro))), (b7, .inl (cI, 6, .inl (nA st.2.1))), (b8, .inl (cI, 6, .inl (nA st.2.2.1))), (b9, .inl (cI, 6, .inl (nA st.2.2.2.2.1))), (b10, .inl (cI, 6, .inl (nA st.2.2.2.2.2)))] H → va_D A [(a, .inr (2, [.int (nI n), .int (nI g), .int (nI sh), .int (nI al), .ref b1, .ref b2, .ref b3, .ref b4, .ref b5, .ref b6, .ref b7, .ref b8, .ref b9, .ref b10, .int (nI fd)])), (b1, .inl (cI, 36, .inl (nA fx))), (b2, .inl (cI, 36, .inl (nA le))), (b3, .inl (cI, 36, .inl (nA st.1))), (b4, .inl (cI, 36, .inl (nA st.2.2.2.1))), (b5, .inl (cI, 36, .inl (nA co))), (b6, .inl (cI, 36, .inl (nA ro))), (b7, .inl (cI, 6, .inl (nA st.2.1))), (b8, .inl (cI, 6, .inl (nA st.2.2.1))), (b9, .inl (cI, 6, .inl (nA st.2.2.2.2.1))), (b10, .inl (cI, 6, .inl (nA st.2.2.2.2.2)))] → va_S A s.heap H locs → ∀ ls : Array Slot, lv_has ls 5 [(0, .ref a), (1, .int (nI k)), (2, .int (nI known)), (3, .int (nI ch)), (4, .int (nI v))] → W p l e { frames := 76, cells := 0, slots := 0, locals := 2300 } s m args below meth c H locs 0 0 (MQ below (qV D [(cI, .int), (cL, .long)] post A) args s 0 0 A) (F0 m 27 ls []) := by
  obtain ⟨hx, hb, hml, hown, hts, hr, hlk, hA, hK, hN⟩ := id E
  have ho : ∀ q ∈ Om, q.before _ s = true := fun q h => hts q (List.mem_cons_of_mem _ h)
  intro m1
  induction m1 with
  | zero =>
    intro v st h0 h1 h2 hiv hq
    exact absurd h2 (by omega)
  | succ m1 ih =>
    intro v st h0 h1 h2 hiv hq H locs hP hD hS ls hl
    refine lv_iload hx hb d_RC_settle_27 (lv_at hl 4 rfl) ?_
    refine lv_iload_n hx hb d_RC_settle_29 rfl (lv_at hl 2 rfl) ?_
    refine nr_icmp_ge (tgt := 72) hx hb d_RC_settle_30 (by decide) (by omega) (by omega) (fun h_1 => ?_) (fun h_1 => ?_)
    · refine lv_aload_n hx hb d_RC_settle_72 rfl (lv_at hl 0 rfl) ?_
      refine lv_iload_n hx hb d_RC_settle_73 rfl (lv_at hl 1 rfl) ?_
      refine lv_iload_n hx hb d_RC_settle_74 rfl (lv_at hl 2 rfl) ?_
      refine af_v (wc := [(a, .inr (2, [.int (nI n), .int (nI g), .int (nI sh), .int (nI al), .ref b1, .ref b2, .ref b3, .ref b4, .ref b5, .ref b6, .ref b7, .ref b8, .ref b9, .ref b10, .int (nI fd)])), (b1, .inl (cI, 36, .inl (nA fx))), (b2, .inl (cI, 36, .inl (nA le))), (b3, .inl (cI, 36, .inl (nA st.1))), (b4, .inl (cI, 36, .inl (nA st.2.2.2.1))), (b5, .inl (cI, 36, .inl (nA co))), (b6, .inl (cI, 36, .inl (nA ro))), (b7, .inl (cI, 6, .inl (nA st.2.1))), (b8, .inl (cI, 6, .inl (nA st.2.2.1))), (b9, .inl (cI, 6, .inl (nA st.2.2.2.2.1))), (b10, .inl (cI, 6, .inl (nA st.2.2.2.2.2)))]) (wr := []) (rest := []) [0, 1, 2, 3, 4, 5, 6, 7, 8, 9, 10] [] hP hD hS hA rfl rfl (by decide) (by decide) (rn_V E (As := [.int (nI k), .int (nI known)]) m_RC_put km_RC_89 (c_RC_put l D cI cL a b1 b2 b3 b4 b5 b6 b7 b8 b9 b10 n g sh al fd fx le st.1 st.2.2.2.1 co ro st.2.1 st.2.2.1 st.2.2.2.2.1 st.2.2.2.2.2 k known (by omega) (by omega) hco hro _) ⟨rfl, rfl, by dsimp only; omega, by dsimp only; omega⟩ (hP.sub [0, 1, 2, 3, 4, 5, 6, 7, 8, 9, 10] rfl) (hD.sub [0, 1, 2, 3, 4, 5, 6, 7, 8, 9, 10] (by decide) rfl) (q0 := 0) (ci := 2) rfl rfl rfl hl.1 rfl (Nat.le_of_ble_eq_true rfl) ⟨Nat.le_of_ble_eq_true rfl, Nat.le_of_ble_eq_true rfl⟩ d_RC_settle_75) (fun u_2 H locs hw hP hD hS => ?_)
      obtain rfl := hw
      have hP : va_P D classes [(a, .inr (2, [.int (nI n), .int (nI g), .int (nI sh), .int (nI al), .ref b1, .ref b2, .ref b3, .ref b4, .ref b5, .ref b6, .ref b7, .ref b8, .ref b9, .ref b10, .int (nI fd)])), (b1, .inl (cI, 36, .inl (nA fx))), (b2, .inl (cI, 36, .inl (nA le))), (b3, .inl (cI, 36, .inl (nA (va_up st.1 k known)))), (b4, .inl (cI, 36, .inl (nA st.2.2.2.1))), (b5, .inl (cI, 36, .inl (nA co))), (b6, .inl (cI, 36, .inl (nA ro))), (b7, .inl (cI, 6, .inl (nA (rPut st.2.1 (co k) known)))), (b8, .inl (cI, 6, .inl (nA (rPut st.2.2.1 (ro k) known)))), (b9, .inl (cI, 6, .inl (nA st.2.2.2.2.1))), (b10, .inl (cI, 6, .inl (nA st.2.2.2.2.2)))] H := hP
      have hD : va_D A [(a, .inr (2, [.int (nI n), .int (nI g), .int (nI sh), .int (nI al), .ref b1, .ref b2, .ref b3, .ref b4, .ref b5, .ref b6, .ref b7, .ref b8, .ref b9, .ref b10, .int (nI fd)])), (b1, .inl (cI, 36, .inl (nA fx))), (b2, .inl (cI, 36, .inl (nA le))), (b3, .inl (cI, 36, .inl (nA (va_up st.1 k known)))), (b4, .inl (cI, 36, .inl (nA st.2.2.2.1))), (b5, .inl (cI, 36, .inl (nA co))), (b6, .inl (cI, 36, .inl (nA ro))), (b7, .inl (cI, 6, .inl (nA (rPut st.2.1 (co k) known)))), (b8, .inl (cI, 6, .inl (nA (rPut st.2.2.1 (ro k) known)))), (b9, .inl (cI, 6, .inl (nA st.2.2.2.2.1))), (b10, .inl (cI, 6, .inl (nA st.2.2.2.2.2)))] := hD
      exact rt_v E hP hD hS (by rw [sSt, if_neg (by omega)] at hq; exact hq) d_RC_settle_78
    · refine lv_iload_n hx hb d_RC_settle_33 rfl (lv_at hl 3 rfl) ?_
      refine lv_iload hx hb d_RC_settle_34 (lv_at hl 4 rfl) ?_
      refine nr_iushr hx hb d_RC_settle_36 (by omega) (by omega) ?_
      refine lv_iconst (v := nI 1) hx hb d_RC_settle_37 (by decide) ?_
      refine nr_iand1 hx hb d_RC_settle_38 ?_
      refine nr_if_eq (tgt := 66) hx hb d_RC_settle_39 (by decide) (by omega) (fun h_4 => ?_) (fun h_4 => ?_)
      · refine nr_iinc (lv' := [(4, .int (nI (v + 1))), (0, .ref a), (1, .int (nI k)), (2, .int (nI known)), (3, .int (nI ch))]) hx hb d_RC_settle_66 hl (k := 4) rfl (by decide) rfl (fun ls hl => ?_)
        refine lv_goto (tgt := 27) hx hb d_RC_settle_69 (by decide) ?_
        exact ih (v + 1) st (by omega) (by omega) (by omega) hiv (by rw [sSt, if_pos (by omega), if_pos (by omega)] at hq; exact hq) _ _ hP hD hS ls (lv_sub hl [1, 2, 3, 4, 0] rfl)
      · refine lv_aload_n hx hb d_RC_settle_42 rfl (lv_at hl 0 rfl) ?_
        refine lv_iload_n hx hb d_RC_settle_43 rfl (lv_at hl 1 rfl) ?_
        refine lv_iload hx hb d_RC_settle_44 (lv_at hl 4 rfl) ?_
        refine af_v (wc := [(a, .inr (2, [.int (nI n), .int (nI g), .int (nI sh), .int (nI al), .ref b1, .ref b2, .ref b3, .ref b4, .ref b5, .ref b6, .ref b7, .ref b8, .ref b9, .ref b10, .int (nI fd)])), (b1, .inl (cI, 36, .inl (nA fx))), (b2, .inl (cI, 36, .inl (nA le))), (b3, .inl (cI, 36, .inl (nA st.1))), (b4, .inl (cI, 36, .inl (nA st.2.2.2.1))), (b5, .inl (cI, 36, .inl (nA co))), (b6, .inl (cI, 36, .inl (nA ro))), (b7, .inl (cI, 6, .inl (nA st.2.1))), (b8, .inl (cI, 6, .inl (nA st.2.2.1))), (b9, .inl (cI, 6, .inl (nA st.2.2.2.2.1))), (b10, .inl (cI, 6, .inl (nA st.2.2.2.2.2)))]) (wr := []) (rest := []) [0, 1, 2, 3, 4, 5, 6, 7, 8, 9, 10] [] hP hD hS hA rfl rfl (by decide) (by decide) (rn_V E (As := [.int (nI k), .int (nI v)]) m_RC_put km_RC_89 (c_RC_put l D cI cL a b1 b2 b3 b4 b5 b6 b7 b8 b9 b10 n g sh al fd fx le st.1 st.2.2.2.1 co ro st.2.1 st.2.2.1 st.2.2.2.2.1 st.2.2.2.2.2 k v (by omega) (by omega) hco hro _) ⟨rfl, rfl, by dsimp only; omega, by dsimp only; omega⟩ (hP.sub [0, 1, 2, 3, 4, 5, 6, 7, 8, 9, 10] rfl) (hD.sub [0, 1, 2, 3, 4, 5, 6, 7, 8, 9, 10] (by decide) rfl) (q0 := 0) (ci := 2) rfl rfl rfl hl.1 rfl (Nat.le_of_ble_eq_true rfl) ⟨Nat.le_of_ble_eq_true rfl, Nat.le_of_ble_eq_true rfl⟩ d_RC_settle_46) (fun u_5 H locs hw hP hD hS => ?_)
        obtain rfl := hw
        have hP : va_P D classes [(a, .inr (2, [.int (nI n), .int (nI g), .int (nI sh), .int (nI al), .ref b1, .ref b2, .ref b3, .ref b4, .ref b5, .ref b6, .ref b7, .ref b8, .ref b9, .ref b10, .int (nI fd)])), (b1, .inl (cI, 36, .inl (nA fx))), (b2, .inl (cI, 36, .inl (nA le))), (b3, .inl (cI, 36, .inl (nA (va_up st.1 k v)))), (b4, .inl (cI, 36, .inl (nA st.2.2.2.1))), (b5, .inl (cI, 36, .inl (nA co))), (b6, .inl (cI, 36, .inl (nA ro))), (b7, .inl (cI, 6, .inl (nA (rPut st.2.1 (co k) v)))), (b8, .inl (cI, 6, .inl (nA (rPut st.2.2.1 (ro k) v)))), (b9, .inl (cI, 6, .inl (nA st.2.2.2.2.1))), (b10, .inl (cI, 6, .inl (nA st.2.2.2.2.2)))] H := hP
        have hD : va_D A [(a, .inr (2, [.int (nI n), .int (nI g), .int (nI sh), .int (nI al), .ref b1, .ref b2, .ref b3, .ref b4, .ref b5, .ref b6, .ref b7, .ref b8, .ref b9, .ref b10, .int (nI fd)])), (b1, .inl (cI, 36, .inl (nA fx))), (b2, .inl (cI, 36, .inl (nA le))), (b3, .inl (cI, 36, .inl (nA (va_up st.1 k v)))), (b4, .inl (cI, 36, .inl (nA st.2.2.2.1))), (b5, .inl (cI, 36, .inl (nA co))), (b6, .inl (cI, 36, .inl (nA ro))), (b7, .inl (cI, 6, .inl (nA (rPut st.2.1 (co k) v)))), (b8, .inl (cI, 6, .inl (nA (rPut st.2.2.1 (ro k) v)))), (b9, .inl (cI, 6, .inl (nA st.2.2.2.2.1))), (b10, .inl (cI, 6, .inl (nA st.2.2.2.2.2)))] := hD
        refine lv_aload_n hx hb d_RC_settle_49 rfl (lv_at hl 0 rfl) ?_
        refine lv_iconst (v := nI 0) hx hb d_RC_settle_50 (by decide) ?_
        refine lv_iconst (v := nI 1) hx hb d_RC_settle_51 (by decide) ?_
        have hgo := cF_ok (n := n) (sh := sh) (co := co) (ro := ro) hg hal 36 1 (sPut co ro st k v) (by omega) (iv_put hiv (by omega))
        refine af_i (wc := [(a, .inr (2, [.int (nI n), .int (nI g), .int (nI sh), .int (nI al), .ref b1, .ref b2, .ref b3, .ref b4, .ref b5, .ref b6, .ref b7, .ref b8, .ref b9, .ref b10, .int (nI fd)])), (b1, .inl (cI, 36, .inl (nA fx))), (b2, .inl (cI, 36, .inl (nA le))), (b3, .inl (cI, 36, .inl (nA (va_up st.1 k v)))), (b4, .inl (cI, 36, .inl (nA st.2.2.2.1))), (b5, .inl (cI, 36, .inl (nA co))), (b6, .inl (cI, 36, .inl (nA ro))), (b7, .inl (cI, 6, .inl (nA (rPut st.2.1 (co k) v)))), (b8, .inl (cI, 6, .inl (nA (rPut st.2.2.1 (ro k) v)))), (b9, .inl (cI, 6, .inl (nA st.2.2.2.2.1))), (b10, .inl (cI, 6, .inl (nA st.2.2.2.2.2)))]) (wr := []) (rest := []) [0, 1, 2, 3, 4, 5, 6, 7, 8, 9, 10] [] hP hD hS hA rfl rfl (by decide) (by decide) (rn_V E (As := [.int (nI 0), .int (nI 1)]) m_RC_countFrom km_RC_72 (c_RC_countFrom l D cI cL a b1 b2 b3 b4 b5 b6 b7 b8 b9 b10 n g sh al fd fx le co ro hco hro hn hg hsh hal 36 (Nat.le_refl 36) 1 (sPut co ro st k v) (by omega) (by omega) (iv_put hiv (by omega)) _) ⟨rfl, rfl, by dsimp only; omega, by dsimp only; omega⟩ (hP.sub [0, 1, 2, 3, 4, 5, 6, 7, 8, 9, 10] rfl) (hD.sub [0, 1, 2, 3, 4, 5, 6, 7, 8, 9, 10] (by decide) rfl) (q0 := 0) (ci := 2) rfl rfl rfl hl.1 rfl (Nat.le_of_ble_eq_true rfl) ⟨Nat.le_of_ble_eq_true rfl, Nat.le_of_ble_eq_true rfl⟩ d_RC_settle_52) (fun r_8 u_7 H locs hw hP hD hS => ?_)
        obtain ⟨rfl, rfl⟩ := hw
        have hP : va_P D classes [(a, .inr (2, [.int (nI n), .int (nI g), .int (nI sh), .int (nI al), .ref b1, .ref b2, .ref b3, .ref b4, .ref b5, .ref b6, .ref b7, .ref b8, .ref b9, .ref b10, .int (nI fd)])), (b1, .inl (cI, 36, .inl (nA fx))), (b2, .inl (cI, 36, .inl (nA le))), (b3, .inl (cI, 36, .inl (nA (((cF n g sh al co ro 36 1 (sPut co ro st k v)).2).1)))), (b4, .inl (cI, 36, .inl (nA (((cF n g sh al co ro 36 1 (sPut co ro st k v)).2).2.2.2.1)))), (b5, .inl (cI, 36, .inl (nA co))), (b6, .inl (cI, 36, .inl (nA ro))), (b7, .inl (cI, 6, .inl (nA (((cF n g sh al co ro 36 1 (sPut co ro st k v)).2).2.1)))), (b8, .inl (cI, 6, .inl (nA (((cF n g sh al co ro 36 1 (sPut co ro st k v)).2).2.2.1)))), (b9, .inl (cI, 6, .inl (nA (((cF n g sh al co ro 36 1 (sPut co ro st k v)).2).2.2.2.2.1)))), (b10, .inl (cI, 6, .inl (nA (((cF n g sh al co ro 36 1 (sPut co ro st k v)).2).2.2.2.2.2))))] H := hP
        have hD : va_D A [(a, .inr (2, [.int (nI n), .int (nI g), .int (nI sh), .int (nI al), .ref b1, .ref b2, .ref b3, .ref b4, .ref b5, .ref b6, .ref b7, .ref b8, .ref b9, .ref b10, .int (nI fd)])), (b1, .inl (cI, 36, .inl (nA fx))), (b2, .inl (cI, 36, .inl (nA le))), (b3, .inl (cI, 36, .inl (nA (((cF n g sh al co ro 36 1 (sPut co ro st k v)).2).1)))), (b4, .inl (cI, 36, .inl (nA (((cF n g sh al co ro 36 1 (sPut co ro st k v)).2).2.2.2.1)))), (b5, .inl (cI, 36, .inl (nA co))), (b6, .inl (cI, 36, .inl (nA ro))), (b7, .inl (cI, 6, .inl (nA (((cF n g sh al co ro 36 1 (sPut co ro st k v)).2).2.1)))), (b8, .inl (cI, 6, .inl (nA (((cF n g sh al co ro 36 1 (sPut co ro st k v)).2).2.2.1)))), (b9, .inl (cI, 6, .inl (nA (((cF n g sh al co ro 36 1 (sPut co ro st k v)).2).2.2.2.2.1)))), (b10, .inl (cI, 6, .inl (nA (((cF n g sh al co ro 36 1 (sPut co ro st k v)).2).2.2.2.2.2))))] := hD
        refine nr_if_le (tgt := 59) hx hb d_RC_settle_55 (by decide) (by omega) (fun h_9 => ?_) (fun h_9 => ?_)
        · refine lv_aload_n hx hb d_RC_settle_59 rfl (lv_at hl 0 rfl) ?_
          refine lv_iload_n hx hb d_RC_settle_60 rfl (lv_at hl 1 rfl) ?_
          refine lv_iload hx hb d_RC_settle_61 (lv_at hl 4 rfl) ?_
          refine af_v (wc := [(a, .inr (2, [.int (nI n), .int (nI g), .int (nI sh), .int (nI al), .ref b1, .ref b2, .ref b3, .ref b4, .ref b5, .ref b6, .ref b7, .ref b8, .ref b9, .ref b10, .int (nI fd)])), (b1, .inl (cI, 36, .inl (nA fx))), (b2, .inl (cI, 36, .inl (nA le))), (b3, .inl (cI, 36, .inl (nA (((cF n g sh al co ro 36 1 (sPut co ro st k v)).2).1)))), (b4, .inl (cI, 36, .inl (nA (((cF n g sh al co ro 36 1 (sPut co ro st k v)).2).2.2.2.1)))), (b5, .inl (cI, 36, .inl (nA co))), (b6, .inl (cI, 36, .inl (nA ro))), (b7, .inl (cI, 6, .inl (nA (((cF n g sh al co ro 36 1 (sPut co ro st k v)).2).2.1)))), (b8, .inl (cI, 6, .inl (nA (((cF n g sh al co ro 36 1 (sPut co ro st k v)).2).2.2.1)))), (b9, .inl (cI, 6, .inl (nA (((cF n g sh al co ro 36 1 (sPut co ro st k v)).2).2.2.2.2.1)))), (b10, .inl (cI, 6, .inl (nA (((cF n g sh al co ro 36 1 (sPut co ro st k v)).2).2.2.2.2.2))))]) (wr := []) (rest := []) [0, 1, 2, 3, 4, 5, 6, 7, 8, 9, 10] [] hP hD hS hA rfl rfl (by decide) (by decide) (rn_V E (As := [.int (nI k), .int (nI v)]) m_RC_take km_RC_93 (c_RC_take l D cI cL a b1 b2 b3 b4 b5 b6 b7 b8 b9 b10 n g sh al fd fx le (((cF n g sh al co ro 36 1 (sPut co ro st k v)).2).1) (((cF n g sh al co ro 36 1 (sPut co ro st k v)).2).2.2.2.1) co ro (((cF n g sh al co ro 36 1 (sPut co ro st k v)).2).2.1) (((cF n g sh al co ro 36 1 (sPut co ro st k v)).2).2.2.1) (((cF n g sh al co ro 36 1 (sPut co ro st k v)).2).2.2.2.2.1) (((cF n g sh al co ro 36 1 (sPut co ro st k v)).2).2.2.2.2.2) k v (by omega) (by omega) hco hro _) ⟨rfl, rfl, by dsimp only; omega, by dsimp only; omega⟩ (hP.sub [0, 1, 2, 3, 4, 5, 6, 7, 8, 9, 10] rfl) (hD.sub [0, 1, 2, 3, 4, 5, 6, 7, 8, 9, 10] (by decide) rfl) (q0 := 0) (ci := 2) rfl rfl rfl hl.1 rfl (Nat.le_of_ble_eq_true rfl) ⟨Nat.le_of_ble_eq_true rfl, Nat.le_of_ble_eq_true rfl⟩ d_RC_settle_63) (fun u_10 H locs hw hP hD hS => ?_)
          obtain rfl := hw
          have hP : va_P D classes [(a, .inr (2, [.int (nI n), .int (nI g), .int (nI sh), .int (nI al), .ref b1, .ref b2, .ref b3, .ref b4, .ref b5, .ref b6, .ref b7, .ref b8, .ref b9, .ref b10, .int (nI fd)])), (b1, .inl (cI, 36, .inl (nA fx))), (b2, .inl (cI, 36, .inl (nA le))), (b3, .inl (cI, 36, .inl (nA (va_up (((cF n g sh al co ro 36 1 (sPut co ro st k v)).2).1) k 0)))), (b4, .inl (cI, 36, .inl (nA (((cF n g sh al co ro 36 1 (sPut co ro st k v)).2).2.2.2.1)))), (b5, .inl (cI, 36, .inl (nA co))), (b6, .inl (cI, 36, .inl (nA ro))), (b7, .inl (cI, 6, .inl (nA (rTake (((cF n g sh al co ro 36 1 (sPut co ro st k v)).2).2.1) (co k) v)))), (b8, .inl (cI, 6, .inl (nA (rTake (((cF n g sh al co ro 36 1 (sPut co ro st k v)).2).2.2.1) (ro k) v)))), (b9, .inl (cI, 6, .inl (nA (((cF n g sh al co ro 36 1 (sPut co ro st k v)).2).2.2.2.2.1)))), (b10, .inl (cI, 6, .inl (nA (((cF n g sh al co ro 36 1 (sPut co ro st k v)).2).2.2.2.2.2))))] H := hP
          have hD : va_D A [(a, .inr (2, [.int (nI n), .int (nI g), .int (nI sh), .int (nI al), .ref b1, .ref b2, .ref b3, .ref b4, .ref b5, .ref b6, .ref b7, .ref b8, .ref b9, .ref b10, .int (nI fd)])), (b1, .inl (cI, 36, .inl (nA fx))), (b2, .inl (cI, 36, .inl (nA le))), (b3, .inl (cI, 36, .inl (nA (va_up (((cF n g sh al co ro 36 1 (sPut co ro st k v)).2).1) k 0)))), (b4, .inl (cI, 36, .inl (nA (((cF n g sh al co ro 36 1 (sPut co ro st k v)).2).2.2.2.1)))), (b5, .inl (cI, 36, .inl (nA co))), (b6, .inl (cI, 36, .inl (nA ro))), (b7, .inl (cI, 6, .inl (nA (rTake (((cF n g sh al co ro 36 1 (sPut co ro st k v)).2).2.1) (co k) v)))), (b8, .inl (cI, 6, .inl (nA (rTake (((cF n g sh al co ro 36 1 (sPut co ro st k v)).2).2.2.1) (ro k) v)))), (b9, .inl (cI, 6, .inl (nA (((cF n g sh al co ro 36 1 (sPut co ro st k v)).2).2.2.2.2.1)))), (b10, .inl (cI, 6, .inl (nA (((cF n g sh al co ro 36 1 (sPut co ro st k v)).2).2.2.2.2.2))))] := hD
          refine nr_iinc (lv' := [(4, .int (nI (v + 1))), (0, .ref a), (1, .int (nI k)), (2, .int (nI known)), (3, .int (nI ch))]) hx hb d_RC_settle_66 hl (k := 4) rfl (by decide) rfl (fun ls hl => ?_)
          refine lv_goto (tgt := 27) hx hb d_RC_settle_69 (by decide) ?_
          exact ih (v + 1) (sTake co ro (cF n g sh al co ro 36 1 (sPut co ro st k v)).2 k v) (by omega) (by omega) (by omega) (iv_take hgo.2) (by rw [sSt, if_pos (by omega), if_neg (by omega), if_pos (by omega)] at hq; exact hq) _ _ hP hD hS ls (lv_sub hl [1, 2, 3, 4, 0] rfl)
        · exact rt_v E hP hD hS (by rw [sSt, if_pos (by omega), if_neg (by omega), if_neg (by omega)] at hq; exact hq) d_RC_settle_58
set_option maxHeartbeats 1000000 in
set_option maxRecDepth 100000 in
theorem c_RC_settle (l : Launch) (D : va_G) (cI cL : ClassId) (a b1 b2 b3 b4 b5 b6 b7 b8 b9 b10 n g sh al fd : Nat) (fx le co ro : Nat → Nat) (k : Nat) (hk : k < 36) (hco : ∀ k, co k < 6) (hro : ∀ k, ro k < 6) (hn : n ≤ 36) (hg : g ≤ 6) (hsh : sh ≤ 6) (hal : al < 128) (st : S6) (hiv : Iv st) (hwi : ∀ k, st.2.2.2.1 k < 7) : CV l y_RC_settle (.code y_RC_settle b_RC_settle 5 none :: Om) { frames := 76, cells := 0, slots := 0, locals := 2300 } D [(a, .inr (2, [.int (nI n), .int (nI g), .int (nI sh), .int (nI al), .ref b1, .ref b2, .ref b3, .ref b4, .ref b5, .ref b6, .ref b7, .ref b8, .ref b9, .ref b10, .int (nI fd)])), (b1, .inl (cI, 36, .inl (nA fx))), (b2, .inl (cI, 36, .inl (nA le))), (b3, .inl (cI, 36, .inl (nA st.1))), (b4, .inl (cI, 36, .inl (nA st.2.2.2.1))), (b5, .inl (cI, 36, .inl (nA co))), (b6, .inl (cI, 36, .inl (nA ro))), (b7, .inl (cI, 6, .inl (nA st.2.1))), (b8, .inl (cI, 6, .inl (nA st.2.2.1))), (b9, .inl (cI, 6, .inl (nA st.2.2.2.2.1))), (b10, .inl (cI, 6, .inl (nA st.2.2.2.2.2)))] [(cI, .int), (cL, .long)] [.ref a, .int (nI k)] (fun u => u = [(a, .inr (2, [.int (nI n), .int (nI g), .int (nI sh), .int (nI al), .ref b1, .ref b2, .ref b3, .ref b4, .ref b5, .ref b6, .ref b7, .ref b8, .ref b9, .ref b10, .int (nI fd)])), (b1, .inl (cI, 36, .inl (nA fx))), (b2, .inl (cI, 36, .inl (nA le))), (b3, .inl (cI, 36, .inl (nA ((sS1 n g sh al co ro k st).1)))), (b4, .inl (cI, 36, .inl (nA ((sS1 n g sh al co ro k st).2.2.2.1)))), (b5, .inl (cI, 36, .inl (nA co))), (b6, .inl (cI, 36, .inl (nA ro))), (b7, .inl (cI, 6, .inl (nA ((sS1 n g sh al co ro k st).2.1)))), (b8, .inl (cI, 6, .inl (nA ((sS1 n g sh al co ro k st).2.2.1)))), (b9, .inl (cI, 6, .inl (nA ((sS1 n g sh al co ro k st).2.2.2.2.1)))), (b10, .inl (cI, 6, .inl (nA ((sS1 n g sh al co ro k st).2.2.2.2.2))))]) := by
  refine en_of (cc := b_RC_settle) (Qc := qV D [(cI, .int), (cL, .long)] (fun u => u = [(a, .inr (2, [.int (nI n), .int (nI g), .int (nI sh), .int (nI al), .ref b1, .ref b2, .ref b3, .ref b4, .ref b5, .ref b6, .ref b7, .ref b8, .ref b9, .ref b10, .int (nI fd)])), (b1, .inl (cI, 36, .inl (nA fx))), (b2, .inl (cI, 36, .inl (nA le))), (b3, .inl (cI, 36, .inl (nA ((sS1 n g sh al co ro k st).1)))), (b4, .inl (cI, 36, .inl (nA ((sS1 n g sh al co ro k st).2.2.2.1)))), (b5, .inl (cI, 36, .inl (nA co))), (b6, .inl (cI, 36, .inl (nA ro))), (b7, .inl (cI, 6, .inl (nA ((sS1 n g sh al co ro k st).2.1)))), (b8, .inl (cI, 6, .inl (nA ((sS1 n g sh al co ro k st).2.2.1)))), (b9, .inl (cI, 6, .inl (nA ((sS1 n g sh al co ro k st).2.2.2.2.1)))), (b10, .inl (cI, 6, .inl (nA ((sS1 n g sh al co ro k st).2.2.2.2.2))))])) (by decide) rfl (Nat.le_of_ble_eq_true rfl) ?_
  intro p e s m below meth c A E hnm hP hD hS ls hl
  have hl : lv_has ls 5 [(0, .ref a), (1, .int (nI k))] := hl
  obtain ⟨hx, hb, hml, hown, hts, hr, hlk, hA, hK, hN⟩ := id E
  have ho : ∀ q ∈ Om, q.before _ s = true := fun q h => hts q (List.mem_cons_of_mem _ h)
  have hwk := hwi k
  refine lv_iload_n hx hb d_RC_settle_0 rfl (lv_at hl 1 rfl) ?_
  refine nr_if_lt (tgt := 10) hx hb d_RC_settle_1 (by decide) (by omega) ?_
  refine lv_iload_n hx hb d_RC_settle_4 rfl (lv_at hl 1 rfl) ?_
  refine lv_bipush (v := nI 36) hx hb d_RC_settle_5 (by decide) ?_
  refine nr_icmp_lt (tgt := 11) hx hb d_RC_settle_7 (by decide) (by omega) (by omega) (fun _ => ?_) (fun h9 => absurd h9 (by omega))
  refine lv_aload_n hx hb d_RC_settle_11 rfl (lv_at hl 0 rfl) ?_
  refine va_get (D := D) (ci := 2) (v := .ref b4) (C := R_RC) (T := F_RC) (N := 15) hx hb ho j_RC hown hK hP 0 rfl rfl 7 (by decide) (ho _ kf_RC_21) (fun _ h9 => h9) rfl d_RC_settle_12 ?_
  refine lv_iload_n hx hb d_RC_settle_15 rfl (lv_at hl 1 rfl) ?_
  refine nr_ialdN hx hb hK hP 4 0 rfl rfl (i := k) (by omega) (by decide) d_RC_settle_16 ?_
  refine lv_istore_n (lv' := [(2, .int (nI (st.2.2.2.1 k))), (0, .ref a), (1, .int (nI k))]) hx hb d_RC_settle_17 rfl hl (by decide) rfl (fun ls hl => ?_)
  refine lv_aload_n hx hb d_RC_settle_18 rfl (lv_at hl 1 rfl) ?_
  refine lv_iload_n hx hb d_RC_settle_19 rfl (lv_at hl 2 rfl) ?_
  refine af_i (wc := [(a, .inr (2, [.int (nI n), .int (nI g), .int (nI sh), .int (nI al), .ref b1, .ref b2, .ref b3, .ref b4, .ref b5, .ref b6, .ref b7, .ref b8, .ref b9, .ref b10, .int (nI fd)])), (b1, .inl (cI, 36, .inl (nA fx))), (b2, .inl (cI, 36, .inl (nA le))), (b3, .inl (cI, 36, .inl (nA st.1))), (b4, .inl (cI, 36, .inl (nA st.2.2.2.1))), (b5, .inl (cI, 36, .inl (nA co))), (b6, .inl (cI, 36, .inl (nA ro))), (b7, .inl (cI, 6, .inl (nA st.2.1))), (b8, .inl (cI, 6, .inl (nA st.2.2.1))), (b9, .inl (cI, 6, .inl (nA st.2.2.2.2.1))), (b10, .inl (cI, 6, .inl (nA st.2.2.2.2.2)))]) (wr := []) (rest := []) [0, 1, 2, 3, 4, 5, 6, 7, 8, 9, 10] [] hP hD hS hA rfl rfl (by decide) (by decide) (rn_V E (As := [.int (nI k)]) m_RC_choicesAt km_RC_85 (c_RC_choicesAt l D cI cL a b1 b2 b3 b4 b5 b6 b7 b8 b9 b10 n g sh al fd fx le st.1 st.2.2.2.1 co ro st.2.1 st.2.2.1 st.2.2.2.2.1 st.2.2.2.2.2 k (by omega) hco hro _) ⟨rfl, rfl, by dsimp only; omega, by dsimp only; omega⟩ (hP.sub [0, 1, 2, 3, 4, 5, 6, 7, 8, 9, 10] rfl) (hD.sub [0, 1, 2, 3, 4, 5, 6, 7, 8, 9, 10] (by decide) rfl) (q0 := 0) (ci := 2) rfl rfl rfl hl.1 rfl (Nat.le_of_ble_eq_true rfl) ⟨Nat.le_of_ble_eq_true rfl, Nat.le_of_ble_eq_true rfl⟩ d_RC_settle_20) (fun r_2 u_1 H locs hw hP hD hS => ?_)
  obtain ⟨rfl, rfl⟩ := hw
  have hP : va_P D classes [(a, .inr (2, [.int (nI n), .int (nI g), .int (nI sh), .int (nI al), .ref b1, .ref b2, .ref b3, .ref b4, .ref b5, .ref b6, .ref b7, .ref b8, .ref b9, .ref b10, .int (nI fd)])), (b1, .inl (cI, 36, .inl (nA fx))), (b2, .inl (cI, 36, .inl (nA le))), (b3, .inl (cI, 36, .inl (nA st.1))), (b4, .inl (cI, 36, .inl (nA st.2.2.2.1))), (b5, .inl (cI, 36, .inl (nA co))), (b6, .inl (cI, 36, .inl (nA ro))), (b7, .inl (cI, 6, .inl (nA st.2.1))), (b8, .inl (cI, 6, .inl (nA st.2.2.1))), (b9, .inl (cI, 6, .inl (nA st.2.2.2.2.1))), (b10, .inl (cI, 6, .inl (nA st.2.2.2.2.2)))] H := hP
  have hD : va_D A [(a, .inr (2, [.int (nI n), .int (nI g), .int (nI sh), .int (nI al), .ref b1, .ref b2, .ref b3, .ref b4, .ref b5, .ref b6, .ref b7, .ref b8, .ref b9, .ref b10, .int (nI fd)])), (b1, .inl (cI, 36, .inl (nA fx))), (b2, .inl (cI, 36, .inl (nA le))), (b3, .inl (cI, 36, .inl (nA st.1))), (b4, .inl (cI, 36, .inl (nA st.2.2.2.1))), (b5, .inl (cI, 36, .inl (nA co))), (b6, .inl (cI, 36, .inl (nA ro))), (b7, .inl (cI, 6, .inl (nA st.2.1))), (b8, .inl (cI, 6, .inl (nA st.2.2.1))), (b9, .inl (cI, 6, .inl (nA st.2.2.2.2.1))), (b10, .inl (cI, 6, .inl (nA st.2.2.2.2.2)))] := hD
  have hch : sCh al co ro st k ≤ al := rCh_le _ _ _ _ _ _
  refine lv_istore_n (lv' := [(3, .int (nI (sCh al co ro st k))), (2, .int (nI (st.2.2.2.1 k))), (0, .ref a), (1, .int (nI k))]) hx hb d_RC_settle_23 rfl hl (by decide) rfl (fun ls hl => ?_)
  refine lv_iconst (v := nI 1) hx hb d_RC_settle_24 (by decide) ?_
  refine lv_istore (lv' := [(4, .int (nI 1)), (3, .int (nI (sCh al co ro st k))), (2, .int (nI (st.2.2.2.1 k))), (0, .ref a), (1, .int (nI k))]) hx hb d_RC_settle_25 hl (by decide) rfl (fun ls hl => ?_)
  exact L_RC_settle a b1 b2 b3 b4 b5 b6 b7 b8 b9 b10 n g sh al fd fx le co ro k (st.2.2.2.1 k) (sCh al co ro st k) hk (hwi k) (by omega) hco hro hn hg hsh hal E 8 1 st (by omega) (by omega) (by omega) hiv (by exact rfl) _ _ hP hD hS ls (lv_sub hl [3, 4, 2, 1, 0] rfl)
abbrev W7 (st : S6) : Prop := (∀ k, st.1 k < 7) ∧ ∀ k, st.2.2.2.1 k < 7
theorem w7_put {co ro : Nat → Nat} {st : S6} {k v : Nat} (h : W7 st) (hv : v < 7) : W7 (sPut co ro st k v) := ⟨up_lt h.1 hv, h.2⟩
theorem w7_take {co ro : Nat → Nat} {st : S6} {k v : Nat} (h : W7 st) : W7 (sTake co ro st k v) := ⟨up_lt h.1 (by decide), h.2⟩
theorem w7_wit {st : S6} (h : W7 st) : W7 (sWit st) := ⟨h.1, fun k => by
  show va_cpy st.1 st.2.2.2.1 0 0 36 k < 7
  unfold va_cpy
  split
  · exact h.1 _
  · exact h.2 _⟩
theorem w7_cW {g : Nat} {co ro : Nat → Nat} {go : Nat → S6 → Nat × S6} {k ch most : Nat} (hg : g ≤ 6) (hgo : ∀ x st, W7 st → W7 (go x st).2) : ∀ m v cnt st, W7 st → W7 (cW g co ro go k ch most m v cnt st).2 := by
  intro m
  induction m with
  | zero => intro v cnt st h2; exact h2
  | succ m ih =>
    intro v cnt st h2
    rw [cW]
    split
    · split
      · exact ih _ _ _ h2
      · exact ih _ _ _ (w7_take (hgo _ _ (w7_put h2 (by omega))))
    · exact h2
theorem w7_cF {n g sh al : Nat} {co ro : Nat → Nat} (hg : g ≤ 6) : ∀ e most st, W7 st → W7 (cF n g sh al co ro e most st).2 := by
  intro e
  induction e with
  | zero =>
    intro most st h2
    rw [cF]
    split
    · exact w7_wit h2
    · exact h2
  | succ e ih =>
    intro most st h2
    rw [cF]
    split
    · exact w7_wit h2
    · split
      · split
        · exact w7_cW hg ih _ _ _ _ ⟨h2.1, h2.2⟩
        · exact ⟨h2.1, h2.2⟩
      · exact w7_cW hg ih _ _ _ _ h2
theorem w7_st {n g sh al : Nat} {co ro : Nat → Nat} (hg : g ≤ 6) {k known ch : Nat} (hk : known < 7) : ∀ m v st, W7 st → W7 (sSt n g sh al co ro k known ch m v st) := by
  intro m
  induction m with
  | zero => intro v st h; exact w7_put h hk
  | succ m ih =>
    intro v st h
    rw [sSt]
    split
    · have g1 := w7_cF (n := n) (sh := sh) (al := al) (co := co) (ro := ro) hg 36 1 (sPut co ro st k v) (w7_put h (by omega))
      split
      · exact ih _ _ h
      · split
        · exact ih _ _ (w7_take g1)
        · exact g1
    · exact w7_put h hk
theorem w7_lay {n al : Nat} {fx co ro : Nat → Nat} (hfx : ∀ k, fx k < 7) : ∀ m k (st : S3), (∀ j, st.1 j < 7) → (∀ j, (rLay n al fx co ro m k st).2.1 j < 7) := by
  intro m
  induction m with
  | zero => intro k st hs; exact hs
  | succ m ih =>
    intro k st hs
    rw [rLay]
    split
    · split
      · exact ih _ _ hs
      · split
        · exact hs
        · exact ih _ _ (up_lt hs (hfx k))
    · exact hs
theorem w7_lg {n al : Nat} {fx co ro : Nat → Nat} {st : S6} (hfx : ∀ k, fx k < 7) (h : W7 st) : W7 (sLG n al fx co ro st) := ⟨w7_lay hfx _ _ _ (rZ_lt (by decide) _ _ _ h.1), h.2⟩
theorem sLp_ok {n g sh al : Nat} {co ro : Nat → Nat} (hg : g ≤ 6) (hal : al < 128) : ∀ m k st, Iv st → W7 st → Iv (sLp n g sh al co ro m k st) ∧ W7 (sLp n g sh al co ro m k st) := by
  intro m
  induction m with
  | zero => intro k st h1 h2; exact ⟨h1, h2⟩
  | succ m ih =>
    intro k st h1 h2
    rw [sLp]
    split
    · split
      · exact ih _ _ (iv_st hg hal (h2.2 k) _ _ _ (by have := h2.2 k; omega) h1) (w7_st hg (h2.2 k) _ _ _ h2)
      · exact ih _ _ h1 h2
    · exact ⟨h1, h2⟩
/-- fill: found or not, the least rectangle, what the arrays are then -/
def sFl (n g sh al : Nat) (fx co ro : Nat → Nat) (le : Nat → Nat) (st : S6) : Nat × (Nat → Nat) × S6 :=
  if (sL0 n al fx co ro st).1 = 0 then (0, le, sLG n al fx co ro st)
  else if (cF n g sh al co ro 36 1 (sLG n al fx co ro st)).1 = 0 then (0, le, (cF n g sh al co ro 36 1 (sLG n al fx co ro st)).2)
  else (1, va_cpy (sLp n g sh al co ro (n + 1) 0 (cF n g sh al co ro 36 1 (sLG n al fx co ro st)).2).1 le 0 0 36, sLp n g sh al co ro (n + 1) 0 (cF n g sh al co ro 36 1 (sLG n al fx co ro st)).2)
set_option maxHeartbeats 1000000 in
set_option maxRecDepth 100000 in
theorem L_RC_findLeast {p : Program} {l : Launch} {e : Env} {s : State} {m : MethodId} {args : Array Value} {below : List Frame} {meth : Method} {c : Code} {A : Nat → Prop} {D : va_G} {cI cL : ClassId} {c0 : Cond} {post : Int32 → va_W → Prop} (a b1 b2 b3 b4 b5 b6 b7 b8 b9 b10 n g sh al : Nat) (fx le co ro : Nat → Nat) (hco : ∀ k, co k < 6) (hro : ∀ k, ro k < 6) (hn : n ≤ 36) (hg : g ≤ 6) (hsh : sh ≤ 6) (hal : al < 128) (E : En p s m args meth c b_RC_findLeast 2 (c0 :: Om) R_RC (some .boolean) A D [(cI, .int), (cL, .long)]) : ∀ (m1 : Nat) (k : Nat) (st : S6), k ≤ n → n < k + m1 → Iv st → W7 st → post (nI 1) [(a, .inr (2, [.int (nI n), .int (nI g), .int (nI sh), .int (nI al), .ref b1, .ref b2, .ref b3, .ref b4, .ref b5, .ref b6, .ref b7, .ref b8, .ref b9, .ref b10, .int (nI 1)])), (b1, .inl (cI, 36, .inl (nA fx))), (b2, .inl (cI, 36, .inl (nA (va_cpy (sLp n g sh al co ro m1 k st).1 le 0 0 36)))), (b3, .inl (cI, 36, .inl (nA ((sLp n g sh al co ro m1 k st).1)))), (b4, .inl (cI, 36, .inl (nA ((sLp n g sh al co ro m1 k st).2.2.2.1)))), (b5, .inl (cI, 36, .inl (nA co))), (b6, .inl (cI, 36, .inl (nA ro))), (b7, .inl (cI, 6, .inl (nA ((sLp n g sh al co ro m1 k st).2.1)))), (b8, .inl (cI, 6, .inl (nA ((sLp n g sh al co ro m1 k st).2.2.1)))), (b9, .inl (cI, 6, .inl (nA ((sLp n g sh al co ro m1 k st).2.2.2.2.1)))), (b10, .inl (cI, 6, .inl (nA ((sLp n g sh al co ro m1 k st).2.2.2.2.2))))] → ∀ (H : Heap) (locs : List Loc), va_P D classes [(a, .inr (2, [.int (nI n), .int (nI g), .int (nI sh), .int (nI al), .ref b1, .ref b2, .ref b3, .ref b4, .ref b5, .ref b6, .ref b7, .ref b8, .ref b9, .ref b10, .int (nI 1)])), (b1, .inl (cI, 36, .inl (nA fx))), (b2, .inl (cI, 36, .inl (nA le))), (b3, .inl (cI, 36, .inl (nA st.1))), (b4, .inl (cI, 36, .inl (nA st.2.2.2.1))), (b5, .inl (cI, 36, .inl (nA co))), (b6, .inl (cI, 36, .inl (nA ro))), (b7, .inl (cI, 6, .inl (nA st.2.1))), (b8, .inl (cI, 6, .inl (nA st.2.2.1))), (b9, .inl (cI, 6, .inl (nA st.2.2.2.2.1))), (b10, .inl (cI, 6, .inl (nA st.2.2.2.2.2)))] H → va_D A [(a, .inr (2, [.int (nI n), .int (nI g), .int (nI sh), .int (nI al), .ref b1, .ref b2, .ref b3, .ref b4, .ref b5, .ref b6, .ref b7, .ref b8, .ref b9, .ref b10, .int (nI 1)])), (b1, .inl (cI, 36, .inl (nA fx))), (b2, .inl (cI, 36, .inl (nA le))), (b3, .inl (cI, 36, .inl (nA st.1))), (b4, .inl (cI, 36, .inl (nA st.2.2.2.1))), (b5, .inl (cI, 36, .inl (nA co))), (b6, .inl (cI, 36, .inl (nA ro))), (b7, .inl (cI, 6, .inl (nA st.2.1))), (b8, .inl (cI, 6, .inl (nA st.2.2.1))), (b9, .inl (cI, 6, .inl (nA st.2.2.2.2.1))), (b10, .inl (cI, 6, .inl (nA st.2.2.2.2.2)))] → va_S A s.heap H locs → ∀ ls : Array Slot, lv_has ls 2 [(0, .ref a), (1, .int (nI k))] → W p l e { frames := 78, cells := 0, slots := 0, locals := 2400 } s m args below meth c H locs 0 0 (MQ below (qI D [(cI, .int), (cL, .long)] post A) args s 0 0 A) (F0 m 27 ls []) := by
  obtain ⟨hx, hb, hml, hown, hts, hr, hlk, hA, hK, hN⟩ := id E
  have ho : ∀ q ∈ Om, q.before _ s = true := fun q h => hts q (List.mem_cons_of_mem _ h)
  intro m1
  induction m1 with
  | zero =>
    intro k st h1 h2 hiv hw7 hq
    exact absurd h2 (by omega)
  | succ m1 ih =>
    intro k st h1 h2 hiv hw7 hq H locs hP hD hS ls hl
    refine lv_aload_n hx hb d_RC_findLeast_27 rfl (lv_at hl 0 rfl) ?_
    refine va_get (D := D) (ci := 2) (v := .int (nI 1)) (C := R_RC) (T := F_RC) (N := 15) hx hb ho j_RC hown hK hP 0 rfl rfl 14 (by decide) (ho _ kf_RC_64) (fun _ h9 => h9) rfl d_RC_findLeast_28 ?_
    refine nr_if_eq (tgt := 62) hx hb d_RC_findLeast_31 (by decide) (by decide) (fun h9 => absurd h9 (by decide)) (fun _ => ?_)
    refine lv_iload_n hx hb d_RC_findLeast_34 rfl (lv_at hl 1 rfl) ?_
    refine lv_aload_n hx hb d_RC_findLeast_35 rfl (lv_at hl 0 rfl) ?_
    refine va_get (D := D) (ci := 2) (v := .int (nI n)) (C := R_RC) (T := F_RC) (N := 15) hx hb ho j_RC hown hK hP 0 rfl rfl 0 (by decide) (ho _ kf_RC_48) (fun _ h9 => h9) rfl d_RC_findLeast_36 ?_
    refine nr_icmp_ge (tgt := 62) hx hb d_RC_findLeast_39 (by decide) (by omega) (by omega) (fun h_1 => ?_) (fun h_1 => ?_)
    · refine lv_aload_n hx hb d_RC_findLeast_62 rfl (lv_at hl 0 rfl) ?_
      refine va_get (D := D) (ci := 2) (v := .int (nI 1)) (C := R_RC) (T := F_RC) (N := 15) hx hb ho j_RC hown hK hP 0 rfl rfl 14 (by decide) (ho _ kf_RC_64) (fun _ h9 => h9) rfl d_RC_findLeast_63 ?_
      refine nr_if_eq (tgt := 84) hx hb d_RC_findLeast_66 (by decide) (by decide) (fun h9 => absurd h9 (by decide)) (fun _ => ?_)
      refine lv_aload_n hx hb d_RC_findLeast_69 rfl (lv_at hl 0 rfl) ?_
      refine va_get (D := D) (ci := 2) (v := .ref b3) (C := R_RC) (T := F_RC) (N := 15) hx hb ho j_RC hown hK hP 0 rfl rfl 6 (by decide) (ho _ kf_RC_18) (fun _ h9 => h9) rfl d_RC_findLeast_70 ?_
      refine lv_iconst (v := nI 0) hx hb d_RC_findLeast_73 (by decide) ?_
      refine lv_aload_n hx hb d_RC_findLeast_74 rfl (lv_at hl 0 rfl) ?_
      refine va_get (D := D) (ci := 2) (v := .ref b2) (C := R_RC) (T := F_RC) (N := 15) hx hb ho j_RC hown hK hP 0 rfl rfl 5 (by decide) (ho _ kf_RC_15) (fun _ h9 => h9) rfl d_RC_findLeast_75 ?_
      refine lv_iconst (v := nI 0) hx hb d_RC_findLeast_78 (by decide) ?_
      refine lv_bipush (v := nI 36) hx hb d_RC_findLeast_79 (by decide) ?_
      refine nr_copy hx hb (hml.trans hl.1.symm) hown (ho _ km_RC_79) (ho _ kq_copy.1) (ho _ kq_copy.2) (ho _ kz_SY) hK hP hD hS 3 2 0 rfl rfl rfl (by decide) (by decide) (by decide) (by first | decide | (dsimp only; omega)) (Nat.le_of_ble_eq_true rfl) (by first | decide | (dsimp only; omega)) d_RC_findLeast_81 (fun H locs hP hD hS => ?_)
      have hP : va_P D classes [(a, .inr (2, [.int (nI n), .int (nI g), .int (nI sh), .int (nI al), .ref b1, .ref b2, .ref b3, .ref b4, .ref b5, .ref b6, .ref b7, .ref b8, .ref b9, .ref b10, .int (nI 1)])), (b1, .inl (cI, 36, .inl (nA fx))), (b2, .inl (cI, 36, .inl (nA (va_cpy st.1 le 0 0 36)))), (b3, .inl (cI, 36, .inl (nA st.1))), (b4, .inl (cI, 36, .inl (nA st.2.2.2.1))), (b5, .inl (cI, 36, .inl (nA co))), (b6, .inl (cI, 36, .inl (nA ro))), (b7, .inl (cI, 6, .inl (nA st.2.1))), (b8, .inl (cI, 6, .inl (nA st.2.2.1))), (b9, .inl (cI, 6, .inl (nA st.2.2.2.2.1))), (b10, .inl (cI, 6, .inl (nA st.2.2.2.2.2)))] H := hP
      have hD : va_D A [(a, .inr (2, [.int (nI n), .int (nI g), .int (nI sh), .int (nI al), .ref b1, .ref b2, .ref b3, .ref b4, .ref b5, .ref b6, .ref b7, .ref b8, .ref b9, .ref b10, .int (nI 1)])), (b1, .inl (cI, 36, .inl (nA fx))), (b2, .inl (cI, 36, .inl (nA (va_cpy st.1 le 0 0 36)))), (b3, .inl (cI, 36, .inl (nA st.1))), (b4, .inl (cI, 36, .inl (nA st.2.2.2.1))), (b5, .inl (cI, 36, .inl (nA co))), (b6, .inl (cI, 36, .inl (nA ro))), (b7, .inl (cI, 6, .inl (nA st.2.1))), (b8, .inl (cI, 6, .inl (nA st.2.2.1))), (b9, .inl (cI, 6, .inl (nA st.2.2.2.2.1))), (b10, .inl (cI, 6, .inl (nA st.2.2.2.2.2)))] := hD
      refine lv_aload_n hx hb d_RC_findLeast_84 rfl (lv_at hl 0 rfl) ?_
      refine va_get (D := D) (ci := 2) (v := .int (nI 1)) (C := R_RC) (T := F_RC) (N := 15) hx hb ho j_RC hown hK hP 0 rfl rfl 14 (by decide) (ho _ kf_RC_64) (fun _ h9 => h9) rfl d_RC_findLeast_85 ?_
      exact rt_z E hP hD hS (by decide) (by rw [sLp, if_neg (by omega)] at hq; exact hq) d_RC_findLeast_88
    · refine lv_aload_n hx hb d_RC_findLeast_42 rfl (lv_at hl 0 rfl) ?_
      refine va_get (D := D) (ci := 2) (v := .ref b3) (C := R_RC) (T := F_RC) (N := 15) hx hb ho j_RC hown hK hP 0 rfl rfl 6 (by decide) (ho _ kf_RC_18) (fun _ h9 => h9) rfl d_RC_findLeast_43 ?_
      refine lv_iload_n hx hb d_RC_findLeast_46 rfl (lv_at hl 1 rfl) ?_
      have htk := hiv.1 k
      refine nr_ialdN hx hb hK hP 3 0 rfl rfl (i := k) (by omega) (by decide) d_RC_findLeast_47 ?_
      refine nr_if_ne (tgt := 56) hx hb d_RC_findLeast_48 (by decide) (by omega) (fun h_2 => ?_) (fun h_2 => ?_)
      · refine nr_iinc (lv' := [(1, .int (nI (k + 1))), (0, .ref a)]) hx hb d_RC_findLeast_56 hl (k := 1) rfl (by decide) rfl (fun ls hl => ?_)
        refine lv_goto (tgt := 27) hx hb d_RC_findLeast_59 (by decide) ?_
        exact ih (k + 1) st (by omega) (by omega) hiv hw7 (by rw [sLp, if_pos (by omega), if_neg (by omega)] at hq; exact hq) _ _ hP hD hS ls (lv_sub hl [1, 0] rfl)
      · refine lv_aload_n hx hb d_RC_findLeast_51 rfl (lv_at hl 0 rfl) ?_
        refine lv_iload_n hx hb d_RC_findLeast_52 rfl (lv_at hl 1 rfl) ?_
        refine af_v (wc := [(a, .inr (2, [.int (nI n), .int (nI g), .int (nI sh), .int (nI al), .ref b1, .ref b2, .ref b3, .ref b4, .ref b5, .ref b6, .ref b7, .ref b8, .ref b9, .ref b10, .int (nI 1)])), (b1, .inl (cI, 36, .inl (nA fx))), (b2, .inl (cI, 36, .inl (nA le))), (b3, .inl (cI, 36, .inl (nA st.1))), (b4, .inl (cI, 36, .inl (nA st.2.2.2.1))), (b5, .inl (cI, 36, .inl (nA co))), (b6, .inl (cI, 36, .inl (nA ro))), (b7, .inl (cI, 6, .inl (nA st.2.1))), (b8, .inl (cI, 6, .inl (nA st.2.2.1))), (b9, .inl (cI, 6, .inl (nA st.2.2.2.2.1))), (b10, .inl (cI, 6, .inl (nA st.2.2.2.2.2)))]) (wr := []) (rest := []) [0, 1, 2, 3, 4, 5, 6, 7, 8, 9, 10] [] hP hD hS hA rfl rfl (by decide) (by decide) (rn_V E (As := [.int (nI k)]) m_RC_settle km_RC_75 (c_RC_settle l D cI cL a b1 b2 b3 b4 b5 b6 b7 b8 b9 b10 n g sh al 1 fx le co ro k (by omega) hco hro hn hg hsh hal st hiv hw7.2 _) ⟨rfl, rfl, by dsimp only; omega, by dsimp only; omega⟩ (hP.sub [0, 1, 2, 3, 4, 5, 6, 7, 8, 9, 10] rfl) (hD.sub [0, 1, 2, 3, 4, 5, 6, 7, 8, 9, 10] (by decide) rfl) (q0 := 0) (ci := 2) rfl rfl rfl hl.1 rfl (Nat.le_of_ble_eq_true rfl) ⟨Nat.le_of_ble_eq_true rfl, Nat.le_of_ble_eq_true rfl⟩ d_RC_findLeast_53) (fun u_3 H locs hw hP hD hS => ?_)
        obtain rfl := hw
        have hP : va_P D classes [(a, .inr (2, [.int (nI n), .int (nI g), .int (nI sh), .int (nI al), .ref b1, .ref b2, .ref b3, .ref b4, .ref b5, .ref b6, .ref b7, .ref b8, .ref b9, .ref b10, .int (nI 1)])), (b1, .inl (cI, 36, .inl (nA fx))), (b2, .inl (cI, 36, .inl (nA le))), (b3, .inl (cI, 36, .inl (nA ((sS1 n g sh al co ro k st).1)))), (b4, .inl (cI, 36, .inl (nA ((sS1 n g sh al co ro k st).2.2.2.1)))), (b5, .inl (cI, 36, .inl (nA co))), (b6, .inl (cI, 36, .inl (nA ro))), (b7, .inl (cI, 6, .inl (nA ((sS1 n g sh al co ro k st).2.1)))), (b8, .inl (cI, 6, .inl (nA ((sS1 n g sh al co ro k st).2.2.1)))), (b9, .inl (cI, 6, .inl (nA ((sS1 n g sh al co ro k st).2.2.2.2.1)))), (b10, .inl (cI, 6, .inl (nA ((sS1 n g sh al co ro k st).2.2.2.2.2))))] H := hP
        have hD : va_D A [(a, .inr (2, [.int (nI n), .int (nI g), .int (nI sh), .int (nI al), .ref b1, .ref b2, .ref b3, .ref b4, .ref b5, .ref b6, .ref b7, .ref b8, .ref b9, .ref b10, .int (nI 1)])), (b1, .inl (cI, 36, .inl (nA fx))), (b2, .inl (cI, 36, .inl (nA le))), (b3, .inl (cI, 36, .inl (nA ((sS1 n g sh al co ro k st).1)))), (b4, .inl (cI, 36, .inl (nA ((sS1 n g sh al co ro k st).2.2.2.1)))), (b5, .inl (cI, 36, .inl (nA co))), (b6, .inl (cI, 36, .inl (nA ro))), (b7, .inl (cI, 6, .inl (nA ((sS1 n g sh al co ro k st).2.1)))), (b8, .inl (cI, 6, .inl (nA ((sS1 n g sh al co ro k st).2.2.1)))), (b9, .inl (cI, 6, .inl (nA ((sS1 n g sh al co ro k st).2.2.2.2.1)))), (b10, .inl (cI, 6, .inl (nA ((sS1 n g sh al co ro k st).2.2.2.2.2))))] := hD
        refine nr_iinc (lv' := [(1, .int (nI (k + 1))), (0, .ref a)]) hx hb d_RC_findLeast_56 hl (k := 1) rfl (by decide) rfl (fun ls hl => ?_)
        refine lv_goto (tgt := 27) hx hb d_RC_findLeast_59 (by decide) ?_
        exact ih (k + 1) (sS1 n g sh al co ro k st) (by omega) (by omega) (iv_st hg hal (hw7.2 k) _ _ _ (by have := hw7.2 k; omega) hiv) (w7_st hg (hw7.2 k) _ _ _ hw7) (by rw [sLp, if_pos (by omega), if_pos (by omega)] at hq; exact hq) _ _ hP hD hS ls (lv_sub hl [1, 0] rfl)
set_option maxHeartbeats 1000000 in
set_option maxRecDepth 100000 in
theorem c_RC_findLeast (l : Launch) (D : va_G) (cI cL : ClassId) (a b1 b2 b3 b4 b5 b6 b7 b8 b9 b10 n g sh al fd : Nat) (fx le co ro : Nat → Nat) (hco : ∀ k, co k < 6) (hro : ∀ k, ro k < 6) (hn : n ≤ 36) (hg : g ≤ 6) (hsh : sh ≤ 6) (hal : al < 128) (hfx : ∀ k, fx k < 7) (st : S6) (hiv : Iv st) (hw7 : W7 st) : CI l y_RC_findLeast (.code y_RC_findLeast b_RC_findLeast 2 (some .boolean) :: Om) { frames := 78, cells := 0, slots := 0, locals := 2400 } D [(a, .inr (2, [.int (nI n), .int (nI g), .int (nI sh), .int (nI al), .ref b1, .ref b2, .ref b3, .ref b4, .ref b5, .ref b6, .ref b7, .ref b8, .ref b9, .ref b10, .int (nI fd)])), (b1, .inl (cI, 36, .inl (nA fx))), (b2, .inl (cI, 36, .inl (nA le))), (b3, .inl (cI, 36, .inl (nA st.1))), (b4, .inl (cI, 36, .inl (nA st.2.2.2.1))), (b5, .inl (cI, 36, .inl (nA co))), (b6, .inl (cI, 36, .inl (nA ro))), (b7, .inl (cI, 6, .inl (nA st.2.1))), (b8, .inl (cI, 6, .inl (nA st.2.2.1))), (b9, .inl (cI, 6, .inl (nA st.2.2.2.2.1))), (b10, .inl (cI, 6, .inl (nA st.2.2.2.2.2)))] [(cI, .int), (cL, .long)] [.ref a] (fun r u => r = nI (sFl n g sh al fx co ro le st).1 ∧ u = [(a, .inr (2, [.int (nI n), .int (nI g), .int (nI sh), .int (nI al), .ref b1, .ref b2, .ref b3, .ref b4, .ref b5, .ref b6, .ref b7, .ref b8, .ref b9, .ref b10, .int (nI ((sFl n g sh al fx co ro le st).1))])), (b1, .inl (cI, 36, .inl (nA fx))), (b2, .inl (cI, 36, .inl (nA ((sFl n g sh al fx co ro le st).2.1)))), (b3, .inl (cI, 36, .inl (nA (((sFl n g sh al fx co ro le st).2.2).1)))), (b4, .inl (cI, 36, .inl (nA (((sFl n g sh al fx co ro le st).2.2).2.2.2.1)))), (b5, .inl (cI, 36, .inl (nA co))), (b6, .inl (cI, 36, .inl (nA ro))), (b7, .inl (cI, 6, .inl (nA (((sFl n g sh al fx co ro le st).2.2).2.1)))), (b8, .inl (cI, 6, .inl (nA (((sFl n g sh al fx co ro le st).2.2).2.2.1)))), (b9, .inl (cI, 6, .inl (nA (((sFl n g sh al fx co ro le st).2.2).2.2.2.2.1)))), (b10, .inl (cI, 6, .inl (nA (((sFl n g sh al fx co ro le st).2.2).2.2.2.2.2))))]) := by
  refine en_of (cc := b_RC_findLeast) (Qc := qI D [(cI, .int), (cL, .long)] (fun r u => r = nI (sFl n g sh al fx co ro le st).1 ∧ u = [(a, .inr (2, [.int (nI n), .int (nI g), .int (nI sh), .int (nI al), .ref b1, .ref b2, .ref b3, .ref b4, .ref b5, .ref b6, .ref b7, .ref b8, .ref b9, .ref b10, .int (nI ((sFl n g sh al fx co ro le st).1))])), (b1, .inl (cI, 36, .inl (nA fx))), (b2, .inl (cI, 36, .inl (nA ((sFl n g sh al fx co ro le st).2.1)))), (b3, .inl (cI, 36, .inl (nA (((sFl n g sh al fx co ro le st).2.2).1)))), (b4, .inl (cI, 36, .inl (nA (((sFl n g sh al fx co ro le st).2.2).2.2.2.1)))), (b5, .inl (cI, 36, .inl (nA co))), (b6, .inl (cI, 36, .inl (nA ro))), (b7, .inl (cI, 6, .inl (nA (((sFl n g sh al fx co ro le st).2.2).2.1)))), (b8, .inl (cI, 6, .inl (nA (((sFl n g sh al fx co ro le st).2.2).2.2.1)))), (b9, .inl (cI, 6, .inl (nA (((sFl n g sh al fx co ro le st).2.2).2.2.2.2.1)))), (b10, .inl (cI, 6, .inl (nA (((sFl n g sh al fx co ro le st).2.2).2.2.2.2.2))))])) (by decide) rfl (Nat.le_of_ble_eq_true rfl) ?_
  intro p e s m below meth c A E hnm hP hD hS ls hl
  have hl : lv_has ls 2 [(0, .ref a)] := hl
  obtain ⟨hx, hb, hml, hown, hts, hr, hlk, hA, hK, hN⟩ := id E
  have ho : ∀ q ∈ Om, q.before _ s = true := fun q h => hts q (List.mem_cons_of_mem _ h)
  refine lv_aload_n hx hb d_RC_findLeast_0 rfl (lv_at hl 0 rfl) ?_
  refine lv_aload_n hx hb d_RC_findLeast_1 rfl (lv_at hl 0 rfl) ?_
  have hlg := iv_lg (n := n) (al := al) (co := co) (ro := ro) hfx hiv
  have hlg2 : (rLG n al fx co ro (st.1, st.2.1, st.2.2.1)).1 = (sL0 n al fx co ro st).1 := rfl
  refine af_i (wc := [(a, .inr (2, [.int (nI n), .int (nI g), .int (nI sh), .int (nI al), .ref b1, .ref b2, .ref b3, .ref b4, .ref b5, .ref b6, .ref b7, .ref b8, .ref b9, .ref b10, .int (nI fd)])), (b1, .inl (cI, 36, .inl (nA fx))), (b2, .inl (cI, 36, .inl (nA le))), (b3, .inl (cI, 36, .inl (nA st.1))), (b4, .inl (cI, 36, .inl (nA st.2.2.2.1))), (b5, .inl (cI, 36, .inl (nA co))), (b6, .inl (cI, 36, .inl (nA ro))), (b7, .inl (cI, 6, .inl (nA st.2.1))), (b8, .inl (cI, 6, .inl (nA st.2.2.1))), (b9, .inl (cI, 6, .inl (nA st.2.2.2.2.1))), (b10, .inl (cI, 6, .inl (nA st.2.2.2.2.2)))]) (wr := []) (rest := [.ref a]) [0, 1, 2, 3, 4, 5, 6, 7, 8, 9, 10] [] hP hD hS hA rfl rfl (by decide) (by decide) (rn_V E (As := []) m_RC_layGiven km_RC_68 (c_RC_layGiven l D cI cL a b1 b2 b3 b4 b5 b6 b7 b8 b9 b10 n g sh al fd fx le st.1 st.2.2.2.1 co ro st.2.1 st.2.2.1 st.2.2.2.2.1 st.2.2.2.2.2 hco hro hn hal hfx _) ⟨rfl, rfl, by dsimp only; omega, by dsimp only; omega⟩ (hP.sub [0, 1, 2, 3, 4, 5, 6, 7, 8, 9, 10] rfl) (hD.sub [0, 1, 2, 3, 4, 5, 6, 7, 8, 9, 10] (by decide) rfl) (q0 := 0) (ci := 2) rfl rfl rfl hl.1 rfl (Nat.le_of_ble_eq_true rfl) ⟨Nat.le_of_ble_eq_true rfl, Nat.le_of_ble_eq_true rfl⟩ d_RC_findLeast_2) (fun r_2 u_1 H locs hw hP hD hS => ?_)
  obtain ⟨rfl, rfl⟩ := hw
  have hP : va_P D classes [(a, .inr (2, [.int (nI n), .int (nI g), .int (nI sh), .int (nI al), .ref b1, .ref b2, .ref b3, .ref b4, .ref b5, .ref b6, .ref b7, .ref b8, .ref b9, .ref b10, .int (nI fd)])), (b1, .inl (cI, 36, .inl (nA fx))), (b2, .inl (cI, 36, .inl (nA le))), (b3, .inl (cI, 36, .inl (nA ((sLG n al fx co ro st).1)))), (b4, .inl (cI, 36, .inl (nA ((sLG n al fx co ro st).2.2.2.1)))), (b5, .inl (cI, 36, .inl (nA co))), (b6, .inl (cI, 36, .inl (nA ro))), (b7, .inl (cI, 6, .inl (nA ((sLG n al fx co ro st).2.1)))), (b8, .inl (cI, 6, .inl (nA ((sLG n al fx co ro st).2.2.1)))), (b9, .inl (cI, 6, .inl (nA ((sLG n al fx co ro st).2.2.2.2.1)))), (b10, .inl (cI, 6, .inl (nA ((sLG n al fx co ro st).2.2.2.2.2))))] H := hP
  have hD : va_D A [(a, .inr (2, [.int (nI n), .int (nI g), .int (nI sh), .int (nI al), .ref b1, .ref b2, .ref b3, .ref b4, .ref b5, .ref b6, .ref b7, .ref b8, .ref b9, .ref b10, .int (nI fd)])), (b1, .inl (cI, 36, .inl (nA fx))), (b2, .inl (cI, 36, .inl (nA le))), (b3, .inl (cI, 36, .inl (nA ((sLG n al fx co ro st).1)))), (b4, .inl (cI, 36, .inl (nA ((sLG n al fx co ro st).2.2.2.1)))), (b5, .inl (cI, 36, .inl (nA co))), (b6, .inl (cI, 36, .inl (nA ro))), (b7, .inl (cI, 6, .inl (nA ((sLG n al fx co ro st).2.1)))), (b8, .inl (cI, 6, .inl (nA ((sLG n al fx co ro st).2.2.1)))), (b9, .inl (cI, 6, .inl (nA ((sLG n al fx co ro st).2.2.2.2.1)))), (b10, .inl (cI, 6, .inl (nA ((sLG n al fx co ro st).2.2.2.2.2))))] := hD
  refine nr_if_eq (tgt := 21) hx hb d_RC_findLeast_5 (by decide) (by omega) (fun h_3 => ?_) (fun h_3 => ?_)
  · refine lv_iconst (v := nI 0) hx hb d_RC_findLeast_21 (by decide) ?_
    refine va_put (D := D) (ci := 2) (v := .int (nI 0)) (ty := .boolean) (C := R_RC) (T := F_RC) (N := 15) hx hb ho j_RC t_RC t_RC_ok n_RC hown hK hP hD hS 0 rfl rfl 14 (by decide) (ho _ kf_RC_64) (fun _ h9 => h9) rfl (by decide +kernel) (by first | rfl | decide | assumption) (by first | rfl | decide | assumption) (Nat.le_of_ble_eq_true rfl) d_RC_findLeast_22 (fun H locs hP hD hS => ?_)
    have hP : va_P D classes [(a, .inr (2, [.int (nI n), .int (nI g), .int (nI sh), .int (nI al), .ref b1, .ref b2, .ref b3, .ref b4, .ref b5, .ref b6, .ref b7, .ref b8, .ref b9, .ref b10, .int (nI 0)])), (b1, .inl (cI, 36, .inl (nA fx))), (b2, .inl (cI, 36, .inl (nA le))), (b3, .inl (cI, 36, .inl (nA ((sLG n al fx co ro st).1)))), (b4, .inl (cI, 36, .inl (nA ((sLG n al fx co ro st).2.2.2.1)))), (b5, .inl (cI, 36, .inl (nA co))), (b6, .inl (cI, 36, .inl (nA ro))), (b7, .inl (cI, 6, .inl (nA ((sLG n al fx co ro st).2.1)))), (b8, .inl (cI, 6, .inl (nA ((sLG n al fx co ro st).2.2.1)))), (b9, .inl (cI, 6, .inl (nA ((sLG n al fx co ro st).2.2.2.2.1)))), (b10, .inl (cI, 6, .inl (nA ((sLG n al fx co ro st).2.2.2.2.2))))] H := hP
    have hD : va_D A [(a, .inr (2, [.int (nI n), .int (nI g), .int (nI sh), .int (nI al), .ref b1, .ref b2, .ref b3, .ref b4, .ref b5, .ref b6, .ref b7, .ref b8, .ref b9, .ref b10, .int (nI 0)])), (b1, .inl (cI, 36, .inl (nA fx))), (b2, .inl (cI, 36, .inl (nA le))), (b3, .inl (cI, 36, .inl (nA ((sLG n al fx co ro st).1)))), (b4, .inl (cI, 36, .inl (nA ((sLG n al fx co ro st).2.2.2.1)))), (b5, .inl (cI, 36, .inl (nA co))), (b6, .inl (cI, 36, .inl (nA ro))), (b7, .inl (cI, 6, .inl (nA ((sLG n al fx co ro st).2.1)))), (b8, .inl (cI, 6, .inl (nA ((sLG n al fx co ro st).2.2.1)))), (b9, .inl (cI, 6, .inl (nA ((sLG n al fx co ro st).2.2.2.2.1)))), (b10, .inl (cI, 6, .inl (nA ((sLG n al fx co ro st).2.2.2.2.2))))] := hD
    refine lv_iconst (v := nI 0) hx hb d_RC_findLeast_25 (by decide) ?_
    refine lv_istore_n (lv' := [(1, .int (nI 0)), (0, .ref a)]) hx hb d_RC_findLeast_26 rfl hl (by decide) rfl (fun ls hl => ?_)
    refine lv_aload_n hx hb d_RC_findLeast_27 rfl (lv_at hl 1 rfl) ?_
    refine va_get (D := D) (ci := 2) (v := .int (nI 0)) (C := R_RC) (T := F_RC) (N := 15) hx hb ho j_RC hown hK hP 0 rfl rfl 14 (by decide) (ho _ kf_RC_64) (fun _ h9 => h9) rfl d_RC_findLeast_28 ?_
    refine nr_if_eq (tgt := 62) hx hb d_RC_findLeast_31 (by decide) (by decide) (fun _ => ?_) (fun h9 => absurd h9 (by decide))
    refine lv_aload_n hx hb d_RC_findLeast_62 rfl (lv_at hl 1 rfl) ?_
    refine va_get (D := D) (ci := 2) (v := .int (nI 0)) (C := R_RC) (T := F_RC) (N := 15) hx hb ho j_RC hown hK hP 0 rfl rfl 14 (by decide) (ho _ kf_RC_64) (fun _ h9 => h9) rfl d_RC_findLeast_63 ?_
    refine nr_if_eq (tgt := 84) hx hb d_RC_findLeast_66 (by decide) (by decide) (fun _ => ?_) (fun h9 => absurd h9 (by decide))
    refine lv_aload_n hx hb d_RC_findLeast_84 rfl (lv_at hl 1 rfl) ?_
    refine va_get (D := D) (ci := 2) (v := .int (nI 0)) (C := R_RC) (T := F_RC) (N := 15) hx hb ho j_RC hown hK hP 0 rfl rfl 14 (by decide) (ho _ kf_RC_64) (fun _ h9 => h9) rfl d_RC_findLeast_85 ?_
    exact rt_z E hP hD hS (by decide) (by rw [sFl]; first | (rw [if_pos (by omega)]; exact ⟨rfl, rfl⟩) | (rw [if_neg (by omega), if_pos (by omega)]; exact ⟨rfl, rfl⟩)) d_RC_findLeast_88
  · refine lv_aload_n hx hb d_RC_findLeast_8 rfl (lv_at hl 0 rfl) ?_
    refine lv_iconst (v := nI 0) hx hb d_RC_findLeast_9 (by decide) ?_
    refine lv_iconst (v := nI 1) hx hb d_RC_findLeast_10 (by decide) ?_
    have hgo := cF_ok (n := n) (sh := sh) (co := co) (ro := ro) hg hal 36 1 (sLG n al fx co ro st) (by omega) hlg.2
    refine af_i (wc := [(a, .inr (2, [.int (nI n), .int (nI g), .int (nI sh), .int (nI al), .ref b1, .ref b2, .ref b3, .ref b4, .ref b5, .ref b6, .ref b7, .ref b8, .ref b9, .ref b10, .int (nI fd)])), (b1, .inl (cI, 36, .inl (nA fx))), (b2, .inl (cI, 36, .inl (nA le))), (b3, .inl (cI, 36, .inl (nA ((sLG n al fx co ro st).1)))), (b4, .inl (cI, 36, .inl (nA ((sLG n al fx co ro st).2.2.2.1)))), (b5, .inl (cI, 36, .inl (nA co))), (b6, .inl (cI, 36, .inl (nA ro))), (b7, .inl (cI, 6, .inl (nA ((sLG n al fx co ro st).2.1)))), (b8, .inl (cI, 6, .inl (nA ((sLG n al fx co ro st).2.2.1)))), (b9, .inl (cI, 6, .inl (nA ((sLG n al fx co ro st).2.2.2.2.1)))), (b10, .inl (cI, 6, .inl (nA ((sLG n al fx co ro st).2.2.2.2.2))))]) (wr := []) (rest := [.ref a]) [0, 1, 2, 3, 4, 5, 6, 7, 8, 9, 10] [] hP hD hS hA rfl rfl (by decide) (by decide) (rn_V E (As := [.int (nI 0), .int (nI 1)]) m_RC_countFrom km_RC_72 (c_RC_countFrom l D cI cL a b1 b2 b3 b4 b5 b6 b7 b8 b9 b10 n g sh al fd fx le co ro hco hro hn hg hsh hal 36 (Nat.le_refl 36) 1 (sLG n al fx co ro st) (by omega) (by omega) hlg.2 _) ⟨rfl, rfl, by dsimp only; omega, by dsimp only; omega⟩ (hP.sub [0, 1, 2, 3, 4, 5, 6, 7, 8, 9, 10] rfl) (hD.sub [0, 1, 2, 3, 4, 5, 6, 7, 8, 9, 10] (by decide) rfl) (q0 := 0) (ci := 2) rfl rfl rfl hl.1 rfl (Nat.le_of_ble_eq_true rfl) ⟨Nat.le_of_ble_eq_true rfl, Nat.le_of_ble_eq_true rfl⟩ d_RC_findLeast_11) (fun r_5 u_4 H locs hw hP hD hS => ?_)
    obtain ⟨rfl, rfl⟩ := hw
    have hP : va_P D classes [(a, .inr (2, [.int (nI n), .int (nI g), .int (nI sh), .int (nI al), .ref b1, .ref b2, .ref b3, .ref b4, .ref b5, .ref b6, .ref b7, .ref b8, .ref b9, .ref b10, .int (nI fd)])), (b1, .inl (cI, 36, .inl (nA fx))), (b2, .inl (cI, 36, .inl (nA le))), (b3, .inl (cI, 36, .inl (nA (((cF n g sh al co ro 36 1 (sLG n al fx co ro st)).2).1)))), (b4, .inl (cI, 36, .inl (nA (((cF n g sh al co ro 36 1 (sLG n al fx co ro st)).2).2.2.2.1)))), (b5, .inl (cI, 36, .inl (nA co))), (b6, .inl (cI, 36, .inl (nA ro))), (b7, .inl (cI, 6, .inl (nA (((cF n g sh al co ro 36 1 (sLG n al fx co ro st)).2).2.1)))), (b8, .inl (cI, 6, .inl (nA (((cF n g sh al co ro 36 1 (sLG n al fx co ro st)).2).2.2.1)))), (b9, .inl (cI, 6, .inl (nA (((cF n g sh al co ro 36 1 (sLG n al fx co ro st)).2).2.2.2.2.1)))), (b10, .inl (cI, 6, .inl (nA (((cF n g sh al co ro 36 1 (sLG n al fx co ro st)).2).2.2.2.2.2))))] H := hP
    have hD : va_D A [(a, .inr (2, [.int (nI n), .int (nI g), .int (nI sh), .int (nI al), .ref b1, .ref b2, .ref b3, .ref b4, .ref b5, .ref b6, .ref b7, .ref b8, .ref b9, .ref b10, .int (nI fd)])), (b1, .inl (cI, 36, .inl (nA fx))), (b2, .inl (cI, 36, .inl (nA le))), (b3, .inl (cI, 36, .inl (nA (((cF n g sh al co ro 36 1 (sLG n al fx co ro st)).2).1)))), (b4, .inl (cI, 36, .inl (nA (((cF n g sh al co ro 36 1 (sLG n al fx co ro st)).2).2.2.2.1)))), (b5, .inl (cI, 36, .inl (nA co))), (b6, .inl (cI, 36, .inl (nA ro))), (b7, .inl (cI, 6, .inl (nA (((cF n g sh al co ro 36 1 (sLG n al fx co ro st)).2).2.1)))), (b8, .inl (cI, 6, .inl (nA (((cF n g sh al co ro 36 1 (sLG n al fx co ro st)).2).2.2.1)))), (b9, .inl (cI, 6, .inl (nA (((cF n g sh al co ro 36 1 (sLG n al fx co ro st)).2).2.2.2.2.1)))), (b10, .inl (cI, 6, .inl (nA (((cF n g sh al co ro 36 1 (sLG n al fx co ro st)).2).2.2.2.2.2))))] := hD
    refine nr_if_le (tgt := 21) hx hb d_RC_findLeast_14 (by decide) (by omega) (fun h_6 => ?_) (fun h_6 => ?_)
    · refine lv_iconst (v := nI 0) hx hb d_RC_findLeast_21 (by decide) ?_
      refine va_put (D := D) (ci := 2) (v := .int (nI 0)) (ty := .boolean) (C := R_RC) (T := F_RC) (N := 15) hx hb ho j_RC t_RC t_RC_ok n_RC hown hK hP hD hS 0 rfl rfl 14 (by decide) (ho _ kf_RC_64) (fun _ h9 => h9) rfl (by decide +kernel) (by first | rfl | decide | assumption) (by first | rfl | decide | assumption) (Nat.le_of_ble_eq_true rfl) d_RC_findLeast_22 (fun H locs hP hD hS => ?_)
      have hP : va_P D classes [(a, .inr (2, [.int (nI n), .int (nI g), .int (nI sh), .int (nI al), .ref b1, .ref b2, .ref b3, .ref b4, .ref b5, .ref b6, .ref b7, .ref b8, .ref b9, .ref b10, .int (nI 0)])), (b1, .inl (cI, 36, .inl (nA fx))), (b2, .inl (cI, 36, .inl (nA le))), (b3, .inl (cI, 36, .inl (nA (((cF n g sh al co ro 36 1 (sLG n al fx co ro st)).2).1)))), (b4, .inl (cI, 36, .inl (nA (((cF n g sh al co ro 36 1 (sLG n al fx co ro st)).2).2.2.2.1)))), (b5, .inl (cI, 36, .inl (nA co))), (b6, .inl (cI, 36, .inl (nA ro))), (b7, .inl (cI, 6, .inl (nA (((cF n g sh al co ro 36 1 (sLG n al fx co ro st)).2).2.1)))), (b8, .inl (cI, 6, .inl (nA (((cF n g sh al co ro 36 1 (sLG n al fx co ro st)).2).2.2.1)))), (b9, .inl (cI, 6, .inl (nA (((cF n g sh al co ro 36 1 (sLG n al fx co ro st)).2).2.2.2.2.1)))), (b10, .inl (cI, 6, .inl (nA (((cF n g sh al co ro 36 1 (sLG n al fx co ro st)).2).2.2.2.2.2))))] H := hP
      have hD : va_D A [(a, .inr (2, [.int (nI n), .int (nI g), .int (nI sh), .int (nI al), .ref b1, .ref b2, .ref b3, .ref b4, .ref b5, .ref b6, .ref b7, .ref b8, .ref b9, .ref b10, .int (nI 0)])), (b1, .inl (cI, 36, .inl (nA fx))), (b2, .inl (cI, 36, .inl (nA le))), (b3, .inl (cI, 36, .inl (nA (((cF n g sh al co ro 36 1 (sLG n al fx co ro st)).2).1)))), (b4, .inl (cI, 36, .inl (nA (((cF n g sh al co ro 36 1 (sLG n al fx co ro st)).2).2.2.2.1)))), (b5, .inl (cI, 36, .inl (nA co))), (b6, .inl (cI, 36, .inl (nA ro))), (b7, .inl (cI, 6, .inl (nA (((cF n g sh al co ro 36 1 (sLG n al fx co ro st)).2).2.1)))), (b8, .inl (cI, 6, .inl (nA (((cF n g sh al co ro 36 1 (sLG n al fx co ro st)).2).2.2.1)))), (b9, .inl (cI, 6, .inl (nA (((cF n g sh al co ro 36 1 (sLG n al fx co ro st)).2).2.2.2.2.1)))), (b10, .inl (cI, 6, .inl (nA (((cF n g sh al co ro 36 1 (sLG n al fx co ro st)).2).2.2.2.2.2))))] := hD
      refine lv_iconst (v := nI 0) hx hb d_RC_findLeast_25 (by decide) ?_
      refine lv_istore_n (lv' := [(1, .int (nI 0)), (0, .ref a)]) hx hb d_RC_findLeast_26 rfl hl (by decide) rfl (fun ls hl => ?_)
      refine lv_aload_n hx hb d_RC_findLeast_27 rfl (lv_at hl 1 rfl) ?_
      refine va_get (D := D) (ci := 2) (v := .int (nI 0)) (C := R_RC) (T := F_RC) (N := 15) hx hb ho j_RC hown hK hP 0 rfl rfl 14 (by decide) (ho _ kf_RC_64) (fun _ h9 => h9) rfl d_RC_findLeast_28 ?_
      refine nr_if_eq (tgt := 62) hx hb d_RC_findLeast_31 (by decide) (by decide) (fun _ => ?_) (fun h9 => absurd h9 (by decide))
      refine lv_aload_n hx hb d_RC_findLeast_62 rfl (lv_at hl 1 rfl) ?_
      refine va_get (D := D) (ci := 2) (v := .int (nI 0)) (C := R_RC) (T := F_RC) (N := 15) hx hb ho j_RC hown hK hP 0 rfl rfl 14 (by decide) (ho _ kf_RC_64) (fun _ h9 => h9) rfl d_RC_findLeast_63 ?_
      refine nr_if_eq (tgt := 84) hx hb d_RC_findLeast_66 (by decide) (by decide) (fun _ => ?_) (fun h9 => absurd h9 (by decide))
      refine lv_aload_n hx hb d_RC_findLeast_84 rfl (lv_at hl 1 rfl) ?_
      refine va_get (D := D) (ci := 2) (v := .int (nI 0)) (C := R_RC) (T := F_RC) (N := 15) hx hb ho j_RC hown hK hP 0 rfl rfl 14 (by decide) (ho _ kf_RC_64) (fun _ h9 => h9) rfl d_RC_findLeast_85 ?_
      exact rt_z E hP hD hS (by decide) (by rw [sFl]; first | (rw [if_pos (by omega)]; exact ⟨rfl, rfl⟩) | (rw [if_neg (by omega), if_pos (by omega)]; exact ⟨rfl, rfl⟩)) d_RC_findLeast_88
    · refine lv_iconst (v := nI 1) hx hb d_RC_findLeast_17 (by decide) ?_
      refine lv_goto (tgt := 22) hx hb d_RC_findLeast_18 (by decide) ?_
      refine va_put (D := D) (ci := 2) (v := .int (nI 1)) (ty := .boolean) (C := R_RC) (T := F_RC) (N := 15) hx hb ho j_RC t_RC t_RC_ok n_RC hown hK hP hD hS 0 rfl rfl 14 (by decide) (ho _ kf_RC_64) (fun _ h9 => h9) rfl (by decide +kernel) (by first | rfl | decide | assumption) (by first | rfl | decide | assumption) (Nat.le_of_ble_eq_true rfl) d_RC_findLeast_22 (fun H locs hP hD hS => ?_)
      have hP : va_P D classes [(a, .inr (2, [.int (nI n), .int (nI g), .int (nI sh), .int (nI al), .ref b1, .ref b2, .ref b3, .ref b4, .ref b5, .ref b6, .ref b7, .ref b8, .ref b9, .ref b10, .int (nI 1)])), (b1, .inl (cI, 36, .inl (nA fx))), (b2, .inl (cI, 36, .inl (nA le))), (b3, .inl (cI, 36, .inl (nA (((cF n g sh al co ro 36 1 (sLG n al fx co ro st)).2).1)))), (b4, .inl (cI, 36, .inl (nA (((cF n g sh al co ro 36 1 (sLG n al fx co ro st)).2).2.2.2.1)))), (b5, .inl (cI, 36, .inl (nA co))), (b6, .inl (cI, 36, .inl (nA ro))), (b7, .inl (cI, 6, .inl (nA (((cF n g sh al co ro 36 1 (sLG n al fx co ro st)).2).2.1)))), (b8, .inl (cI, 6, .inl (nA (((cF n g sh al co ro 36 1 (sLG n al fx co ro st)).2).2.2.1)))), (b9, .inl (cI, 6, .inl (nA (((cF n g sh al co ro 36 1 (sLG n al fx co ro st)).2).2.2.2.2.1)))), (b10, .inl (cI, 6, .inl (nA (((cF n g sh al co ro 36 1 (sLG n al fx co ro st)).2).2.2.2.2.2))))] H := hP
      have hD : va_D A [(a, .inr (2, [.int (nI n), .int (nI g), .int (nI sh), .int (nI al), .ref b1, .ref b2, .ref b3, .ref b4, .ref b5, .ref b6, .ref b7, .ref b8, .ref b9, .ref b10, .int (nI 1)])), (b1, .inl (cI, 36, .inl (nA fx))), (b2, .inl (cI, 36, .inl (nA le))), (b3, .inl (cI, 36, .inl (nA (((cF n g sh al co ro 36 1 (sLG n al fx co ro st)).2).1)))), (b4, .inl (cI, 36, .inl (nA (((cF n g sh al co ro 36 1 (sLG n al fx co ro st)).2).2.2.2.1)))), (b5, .inl (cI, 36, .inl (nA co))), (b6, .inl (cI, 36, .inl (nA ro))), (b7, .inl (cI, 6, .inl (nA (((cF n g sh al co ro 36 1 (sLG n al fx co ro st)).2).2.1)))), (b8, .inl (cI, 6, .inl (nA (((cF n g sh al co ro 36 1 (sLG n al fx co ro st)).2).2.2.1)))), (b9, .inl (cI, 6, .inl (nA (((cF n g sh al co ro 36 1 (sLG n al fx co ro st)).2).2.2.2.2.1)))), (b10, .inl (cI, 6, .inl (nA (((cF n g sh al co ro 36 1 (sLG n al fx co ro st)).2).2.2.2.2.2))))] := hD
      refine lv_iconst (v := nI 0) hx hb d_RC_findLeast_25 (by decide) ?_
      refine lv_istore_n (lv' := [(1, .int (nI 0)), (0, .ref a)]) hx hb d_RC_findLeast_26 rfl hl (by decide) rfl (fun ls hl => ?_)
      exact L_RC_findLeast a b1 b2 b3 b4 b5 b6 b7 b8 b9 b10 n g sh al fx le co ro hco hro hn hg hsh hal E (n + 1) 0 (cF n g sh al co ro 36 1 (sLG n al fx co ro st)).2 (by omega) (by omega) hgo.2 (w7_cF hg _ _ _ (w7_lg hfx hw7)) (by rw [sFl, if_neg (by omega), if_neg (by omega)]; exact ⟨rfl, rfl⟩) _ _ hP hD hS ls (lv_sub hl [1, 0] rfl)
end
section
/-! the lowest bit -/
theorem odd_part : ∀ n a, 0 < a → a < 2 ^ n → ∃ k q, k < n ∧ a = 2 ^ k * (2 * q + 1) := by
  intro n
  induction n with
  | zero => intro a h1 h2; exact absurd h2 (by simp; omega)
  | succ n ih =>
    intro a h1 h2
    rcases Nat.mod_two_eq_zero_or_one a with h | h
    · obtain ⟨k, q, hk, e⟩ := ih (a / 2) (by omega) (by rw [Nat.pow_succ] at h2; omega)
      exact ⟨k + 1, q, by omega, by rw [Nat.pow_succ, Nat.mul_comm (2 ^ k) 2, Nat.mul_assoc, ← e]; omega⟩
    · exact ⟨0, a / 2, by omega, by rw [Nat.pow_zero]; omega⟩
/-- the lowest bit as the class finds it -/
def lowb (a : Nat) : Nat := a &&& (2 ^ 64 - a)
theorem lowb_eq {k q : Nat} (h : 2 ^ k * (2 * q + 1) < 2 ^ 64) : lowb (2 ^ k * (2 * q + 1)) = 2 ^ k := by
  have hp : 0 < 2 ^ k := Nat.pow_pos (by decide)
  have hpos : 0 < 2 ^ k * (2 * q + 1) := Nat.mul_pos hp (by omega)
  have e1 : 2 ^ k * (2 * q + 1) - 1 = 2 ^ k * (2 * q) + (2 ^ k - 1) := by
    rw [Nat.mul_add, Nat.mul_one]; omega
  unfold lowb
  apply Nat.eq_of_testBit_eq
  intro i
  have e2 : 2 ^ 64 - 2 ^ k * (2 * q + 1) = 2 ^ 64 - ((2 ^ k * (2 * q + 1) - 1) + 1) := by
    rw [Nat.sub_add_cancel hpos]
  rw [Nat.testBit_and, e2, Nat.testBit_two_pow_sub_succ (by omega), e1, Nat.testBit_two_pow]
  have f1 := Nat.testBit_two_pow_mul_add (2 * q) (i := k) (b := 2 ^ k - 1) (by omega) i
  have f2 := Nat.testBit_two_pow_mul_add (2 * q + 1) (i := k) (b := 0) hp i
  rw [Nat.add_zero] at f2
  rw [f1, f2]
  rcases Nat.lt_trichotomy i k with h1 | h1 | h1
  · rw [if_pos h1]
    simp [show ¬ k = i by omega]
  · subst h1
    have hk : i < 64 := Decidable.byContradiction fun hc => by
      have : 2 ^ 64 ≤ 2 ^ i := Nat.pow_le_pow_right (by decide) (by omega)
      have : 2 ^ i * 1 ≤ 2 ^ i * (2 * q + 1) := Nat.mul_le_mul_left _ (by omega)
      omega
    rw [if_neg (by omega), if_neg (by omega), Nat.sub_self]
    simp [hk]
  · rw [if_neg (by omega), if_neg (by omega)]
    have hj : ∃ j, i - k = j + 1 := ⟨i - k - 1, by omega⟩
    obtain ⟨j, hj⟩ := hj
    rw [hj]
    have g1 : (2 * q + 1).testBit (j + 1) = q.testBit j := by
      rw [Nat.testBit_succ]; congr 1; omega
    have g2 : (2 * q).testBit (j + 1) = q.testBit j := by
      rw [Nat.testBit_succ]; congr 1; omega
    rw [g1, g2]
    simp [show ¬ k = i by omega]
    intro z _
    exact z
theorem pop_two_mul (j q : Nat) : pop (j + 1) (2 * q) = pop j q := by
  rw [pop, Nat.mul_mod_right, Nat.mul_div_cancel_left _ (by decide), Nat.zero_add]
theorem pop_two_mul1 (j q : Nat) : pop (j + 1) (2 * q + 1) = pop j q + 1 := by
  rw [pop, show (2 * q + 1) % 2 = 1 by omega, show (2 * q + 1) / 2 = q by omega, Nat.add_comm]
theorem pop_zero : ∀ j, pop j 0 = 0 := by
  intro j
  induction j with
  | zero => rfl
  | succ j ih => rw [pop, Nat.zero_mod, Nat.zero_div, ih]
theorem pop_shift {k j x : Nat} : pop (k + j) (2 ^ k * x) = pop j x := by
  rw [pop_add, Nat.mul_div_cancel_left _ (Nat.pow_pos (by decide)), ← pop_mod k, Nat.mul_mod_right, pop_zero, Nat.zero_add]
theorem pop_ones : ∀ k, pop k (2 ^ k - 1) = k := by
  intro k
  induction k with
  | zero => rfl
  | succ k ih =>
    have hp : 0 < 2 ^ k := Nat.pow_pos (by decide)
    rw [pop, Nat.pow_succ, show (2 ^ k * 2 - 1) % 2 = 1 by omega, show (2 ^ k * 2 - 1) / 2 = 2 ^ k - 1 by omega, ih, Nat.add_comm]
theorem pop_low {k : Nat} (hk : k < 64) : pop 64 (2 ^ k - 1) = k := by
  have hp : 0 < 2 ^ k := Nat.pow_pos (by decide)
  rw [show 64 = k + (64 - k) by omega, pop_add, pop_ones, Nat.div_eq_of_lt (by omega), pop_zero, Nat.add_zero]
/-- the lowest bit k of a: its number, and what is left without it -/
theorem low_all {a : Nat} (h0 : 0 < a) (h : a < 2 ^ 36) : ∃ k q, k < 36 ∧ a = 2 ^ k * (2 * q + 1) ∧ lowb a = 2 ^ k ∧ pop 64 (lowb a - 1) = k ∧ a ^^^ lowb a = 2 ^ k * (2 * q) ∧ a ^^^ lowb a < 2 ^ 36 ∧ pop 64 (a ^^^ lowb a) + 1 = pop 64 a := by
  obtain ⟨k, q, hk, e⟩ := odd_part 36 a h0 h
  have hp : 0 < 2 ^ k := Nat.pow_pos (by decide)
  have hl : lowb a = 2 ^ k := by rw [e]; exact lowb_eq (by rw [← e]; omega)
  have hx : a ^^^ lowb a = 2 ^ k * (2 * q) := by
    rw [hl, e]
    apply Nat.eq_of_testBit_eq
    intro i
    have f1 := Nat.testBit_two_pow_mul_add (2 * q) (i := k) (b := 0) hp i
    have f2 := Nat.testBit_two_pow_mul_add (2 * q + 1) (i := k) (b := 0) hp i
    rw [Nat.add_zero] at f1 f2
    rw [Nat.testBit_xor, f1, f2, Nat.testBit_two_pow]
    rcases Nat.lt_trichotomy i k with h1 | h1 | h1
    · rw [if_pos h1, if_pos h1]
      simp [show ¬ k = i by omega]
    · subst h1
      rw [if_neg (by omega), if_neg (by omega), Nat.sub_self]
      simp
    · rw [if_neg (by omega), if_neg (by omega)]
      obtain ⟨j, hj⟩ : ∃ j, i - k = j + 1 := ⟨i - k - 1, by omega⟩
      rw [hj, Nat.testBit_succ, Nat.testBit_succ, show (2 * q + 1) / 2 = q by omega, show 2 * q / 2 = q by omega]
      simp [show ¬ k = i by omega]
  refine ⟨k, q, hk, e, hl, by rw [hl]; exact pop_low (by omega), hx, ?_, ?_⟩
  · rw [hx]
    have : 2 ^ k * (2 * q) ≤ 2 ^ k * (2 * q + 1) := Nat.mul_le_mul_left _ (by omega)
    omega
  · rw [hx, e, show 64 = k + ((63 - k) + 1) by omega, pop_shift, pop_shift, pop_two_mul, pop_two_mul1]
end
section
/-! TourSearch: its small methods -/
def iP (x : Int32) : Nat := if x < 0 ∨ ¬ x < 3 then 0 else 1
theorem iP_in {k : Nat} (h : k < 3) : iP (nI k) = 1 := by
  unfold iP
  rw [if_neg]
  rintro (q | q)
  · exact nI_pos (by omega) q
  · exact q ((nI_ltI (b := 3) (by omega) (by decide)).mpr h)
/-- does a piece go so far (the square of the distance) -/
def tGo (p d : Nat) : Nat := if p = 0 then (if d = 5 then 1 else 0) else if d = 1 then 1 else if p = 1 ∧ d = 2 then 1 else 0
theorem tGo_1 (p d : Nat) : tGo p d ≤ 1 := by
  unfold tGo
  split
  · split <;> omega
  · split
    · omega
    · split <;> omega
set_option maxHeartbeats 1000000 in
set_option maxRecDepth 100000 in
theorem c_TF_isPiece (l : Launch) (D : va_G) (cI cL : ClassId) (x : Int32) : CI l y_TF_isPiece (.code y_TF_isPiece b_TF_isPiece 1 (some .boolean) :: Om) { frames := 0, cells := 0, slots := 0, locals := 0 } D [] [(cI, .int), (cL, .long)] [.int x] (fun r u => r = nI (iP x) ∧ u = []) := by
  refine en_of (cc := b_TF_isPiece) (Qc := qI D [(cI, .int), (cL, .long)] (fun r u => r = nI (iP x) ∧ u = [])) (by decide) rfl (Nat.le_of_ble_eq_true rfl) ?_
  intro p e s m below meth c A E hnm hP hD hS ls hl
  have hl : lv_has ls 1 [(0, .int x)] := hl
  obtain ⟨hx, hb, hml, hown, hts, hr, hlk, hA, hK, hN⟩ := id E
  have ho : ∀ q ∈ Om, q.before _ s = true := fun q h => hts q (List.mem_cons_of_mem _ h)
  refine lv_iload_n hx hb d_TF_isPiece_0 rfl (lv_at hl 0 rfl) ?_
  refine lv_if_lt (tgt := 13) hx hb d_TF_isPiece_1 (by decide) (fun h_1 => ?_) (fun h_1 => ?_)
  · refine lv_iconst (v := nI 0) hx hb d_TF_isPiece_13 (by decide) ?_
    exact rt_z E hP hD hS (by decide) ⟨by unfold iP; rw [show (3 : Int32) = nI 3 from rfl]; simp [h_1], rfl⟩ d_TF_isPiece_14
  · refine lv_iload_n hx hb d_TF_isPiece_4 rfl (lv_at hl 0 rfl) ?_
    refine lv_iconst (v := nI 3) hx hb d_TF_isPiece_5 (by decide) ?_
    refine lv_icmp_ge (tgt := 13) hx hb d_TF_isPiece_6 (by decide) (fun h_2 => ?_) (fun h_2 => ?_)
    · refine lv_iconst (v := nI 0) hx hb d_TF_isPiece_13 (by decide) ?_
      exact rt_z E hP hD hS (by decide) ⟨by unfold iP; rw [show (3 : Int32) = nI 3 from rfl]; simp [h_1, h_2], rfl⟩ d_TF_isPiece_14
    · refine lv_iconst (v := nI 1) hx hb d_TF_isPiece_9 (by decide) ?_
      refine lv_goto (tgt := 14) hx hb d_TF_isPiece_10 (by decide) ?_
      exact rt_z E hP hD hS (by decide) ⟨by unfold iP; rw [show (3 : Int32) = nI 3 from rfl]; simp [h_1, h_2], rfl⟩ d_TF_isPiece_14
theorem c_TF_isIn (l : Launch) (D : va_G) (cI cL : ClassId) (k : Nat) (hk : k < 3) : CI l y_TF_isPiece (.code y_TF_isPiece b_TF_isPiece 1 (some .boolean) :: Om) { frames := 0, cells := 0, slots := 0, locals := 0 } D [] [(cI, .int), (cL, .long)] [.int (nI k)] (fun r u => r = nI 1 ∧ u = []) := by
  have := c_TF_isPiece l D cI cL (nI k)
  rw [iP_in hk] at this
  exact this
set_option maxHeartbeats 1000000 in
set_option maxRecDepth 100000 in
theorem c_TS_goes (l : Launch) (D : va_G) (cI cL : ClassId) (p0 d : Nat) (hp : p0 < 3) (hd : d < 1000) : CI l y_TS_goes (.code y_TS_goes b_TS_goes 2 (some .boolean) :: Om) { frames := 0, cells := 0, slots := 0, locals := 0 } D [] [(cI, .int), (cL, .long)] [.int (nI p0), .int (nI d)] (fun r u => r = nI (tGo p0 d) ∧ u = []) := by
  refine en_of (cc := b_TS_goes) (Qc := qI D [(cI, .int), (cL, .long)] (fun r u => r = nI (tGo p0 d) ∧ u = [])) (by decide) rfl (Nat.le_of_ble_eq_true rfl) ?_
  intro p e s m below meth c A E hnm hP hD hS ls hl
  have hl : lv_has ls 2 [(0, .int (nI p0)), (1, .int (nI d))] := hl
  obtain ⟨hx, hb, hml, hown, hts, hr, hlk, hA, hK, hN⟩ := id E
  have ho : ∀ q ∈ Om, q.before _ s = true := fun q h => hts q (List.mem_cons_of_mem _ h)
  refine lv_iload_n hx hb d_TS_goes_0 rfl (lv_at hl 0 rfl) ?_
  refine nr_if_ne (tgt := 15) hx hb d_TS_goes_1 (by decide) (by omega) (fun h_1 => ?_) (fun h_1 => ?_)
  · refine lv_iload_n hx hb d_TS_goes_15 rfl (lv_at hl 1 rfl) ?_
    refine lv_iconst (v := nI 1) hx hb d_TS_goes_16 (by decide) ?_
    refine nr_icmp_eq (tgt := 30) hx hb d_TS_goes_17 (by decide) (by omega) (by omega) (fun h_2 => ?_) (fun h_2 => ?_)
    · refine lv_iconst (v := nI 1) hx hb d_TS_goes_30 (by decide) ?_
      refine lv_goto (tgt := 35) hx hb d_TS_goes_31 (by decide) ?_
      exact rt_z E hP hD hS (by decide) ⟨by congr 1; unfold tGo; (repeat' split) <;> omega, rfl⟩ d_TS_goes_35
    · refine lv_iload_n hx hb d_TS_goes_20 rfl (lv_at hl 0 rfl) ?_
      refine lv_iconst (v := nI 1) hx hb d_TS_goes_21 (by decide) ?_
      refine nr_icmp_ne (tgt := 34) hx hb d_TS_goes_22 (by decide) (by omega) (by omega) (fun h_3 => ?_) (fun h_3 => ?_)
      · refine lv_iconst (v := nI 0) hx hb d_TS_goes_34 (by decide) ?_
        exact rt_z E hP hD hS (by decide) ⟨by congr 1; unfold tGo; (repeat' split) <;> omega, rfl⟩ d_TS_goes_35
      · refine lv_iload_n hx hb d_TS_goes_25 rfl (lv_at hl 1 rfl) ?_
        refine lv_iconst (v := nI 2) hx hb d_TS_goes_26 (by decide) ?_
        refine nr_icmp_ne (tgt := 34) hx hb d_TS_goes_27 (by decide) (by omega) (by omega) (fun h_4 => ?_) (fun h_4 => ?_)
        · refine lv_iconst (v := nI 0) hx hb d_TS_goes_34 (by decide) ?_
          exact rt_z E hP hD hS (by decide) ⟨by congr 1; unfold tGo; (repeat' split) <;> omega, rfl⟩ d_TS_goes_35
        · refine lv_iconst (v := nI 1) hx hb d_TS_goes_30 (by decide) ?_
          refine lv_goto (tgt := 35) hx hb d_TS_goes_31 (by decide) ?_
          exact rt_z E hP hD hS (by decide) ⟨by congr 1; unfold tGo; (repeat' split) <;> omega, rfl⟩ d_TS_goes_35
  · refine lv_iload_n hx hb d_TS_goes_4 rfl (lv_at hl 1 rfl) ?_
    refine lv_iconst (v := nI 5) hx hb d_TS_goes_5 (by decide) ?_
    refine nr_icmp_ne (tgt := 13) hx hb d_TS_goes_6 (by decide) (by omega) (by omega) (fun h_5 => ?_) (fun h_5 => ?_)
    · refine lv_iconst (v := nI 0) hx hb d_TS_goes_13 (by decide) ?_
      exact rt_z E hP hD hS (by decide) ⟨by congr 1; unfold tGo; (repeat' split) <;> omega, rfl⟩ d_TS_goes_14
    · refine lv_iconst (v := nI 1) hx hb d_TS_goes_9 (by decide) ?_
      refine lv_goto (tgt := 14) hx hb d_TS_goes_10 (by decide) ?_
      exact rt_z E hP hD hS (by decide) ⟨by congr 1; unfold tGo; (repeat' split) <;> omega, rfl⟩ d_TS_goes_14
set_option maxHeartbeats 1000000 in
set_option maxRecDepth 100000 in
theorem c_TS_reach (l : Launch) (D : va_G) (cI cL : ClassId) (a b1 b2 b3 b4 b5 pi op ln md fd : Nat) (re pa wo wc wt : Nat → Nat) (p0 k : Nat) (hp : p0 < 3) (hk : k < 36) : CL l y_TS_reach (.code y_TS_reach b_TS_reach 3 (some .long) :: Om) { frames := 1, cells := 0, slots := 0, locals := 20 } D [(a, .inr (3, [.ref b1, .ref b2, .ref b3, .ref b4, .ref b5, .int (nI pi), .long (lN op), .int (nI ln), .int (nI md), .int (nI fd)])), (b1, .inl (cL, 108, .inr (.inl (lA re)))), (b2, .inl (cI, 36, .inl (nA pa))), (b3, .inl (cI, 288, .inl (nA wo))), (b4, .inl (cI, 36, .inl (nA wc))), (b5, .inl (cI, 36, .inl (nA wt)))] [(cI, .int), (cL, .long)] [.ref a, .int (nI p0), .int (nI k)] (fun r u => r = lN (re (p0 * 36 + k)) ∧ u = [(a, .inr (3, [.ref b1, .ref b2, .ref b3, .ref b4, .ref b5, .int (nI pi), .long (lN op), .int (nI ln), .int (nI md), .int (nI fd)])), (b1, .inl (cL, 108, .inr (.inl (lA re)))), (b2, .inl (cI, 36, .inl (nA pa))), (b3, .inl (cI, 288, .inl (nA wo))), (b4, .inl (cI, 36, .inl (nA wc))), (b5, .inl (cI, 36, .inl (nA wt)))]) := by
  refine en_of (cc := b_TS_reach) (Qc := qL D [(cI, .int), (cL, .long)] (fun r u => r = lN (re (p0 * 36 + k)) ∧ u = [(a, .inr (3, [.ref b1, .ref b2, .ref b3, .ref b4, .ref b5, .int (nI pi), .long (lN op), .int (nI ln), .int (nI md), .int (nI fd)])), (b1, .inl (cL, 108, .inr (.inl (lA re)))), (b2, .inl (cI, 36, .inl (nA pa))), (b3, .inl (cI, 288, .inl (nA wo))), (b4, .inl (cI, 36, .inl (nA wc))), (b5, .inl (cI, 36, .inl (nA wt)))])) (by decide) rfl (Nat.le_of_ble_eq_true rfl) ?_
  intro p e s m below meth c A E hnm hP hD hS ls hl
  have hl : lv_has ls 3 [(0, .ref a), (1, .int (nI p0)), (2, .int (nI k))] := hl
  obtain ⟨hx, hb, hml, hown, hts, hr, hlk, hA, hK, hN⟩ := id E
  have ho : ∀ q ∈ Om, q.before _ s = true := fun q h => hts q (List.mem_cons_of_mem _ h)
  refine lv_iload_n hx hb d_TS_reach_0 rfl (lv_at hl 1 rfl) ?_
  refine af_i (wc := []) (wr := [(a, .inr (3, [.ref b1, .ref b2, .ref b3, .ref b4, .ref b5, .int (nI pi), .long (lN op), .int (nI ln), .int (nI md), .int (nI fd)])), (b1, .inl (cL, 108, .inr (.inl (lA re)))), (b2, .inl (cI, 36, .inl (nA pa))), (b3, .inl (cI, 288, .inl (nA wo))), (b4, .inl (cI, 36, .inl (nA wc))), (b5, .inl (cI, 36, .inl (nA wt)))]) (rest := []) [] [0, 1, 2, 3, 4, 5] hP hD hS hA rfl rfl (by decide) (by decide) (rn_SN E (As := [.int (nI p0)]) m_TF_isPiece hN (c_TF_isIn l D cI cL p0 (by omega) _) ⟨rfl, rfl, by dsimp only; omega, by dsimp only; omega⟩ (hP.sub [] rfl) (hD.sub [] (by decide) rfl) rfl hl.1 rfl (Nat.le_of_ble_eq_true rfl) ⟨Nat.le_of_ble_eq_true rfl, Nat.le_of_ble_eq_true rfl⟩ d_TS_reach_1) (fun r_2 u_1 H locs hw hP hD hS => ?_)
  obtain ⟨rfl, rfl⟩ := hw
  have hP : va_P D classes [(a, .inr (3, [.ref b1, .ref b2, .ref b3, .ref b4, .ref b5, .int (nI pi), .long (lN op), .int (nI ln), .int (nI md), .int (nI fd)])), (b1, .inl (cL, 108, .inr (.inl (lA re)))), (b2, .inl (cI, 36, .inl (nA pa))), (b3, .inl (cI, 288, .inl (nA wo))), (b4, .inl (cI, 36, .inl (nA wc))), (b5, .inl (cI, 36, .inl (nA wt)))] H := hP
  have hD : va_D A [(a, .inr (3, [.ref b1, .ref b2, .ref b3, .ref b4, .ref b5, .int (nI pi), .long (lN op), .int (nI ln), .int (nI md), .int (nI fd)])), (b1, .inl (cL, 108, .inr (.inl (lA re)))), (b2, .inl (cI, 36, .inl (nA pa))), (b3, .inl (cI, 288, .inl (nA wo))), (b4, .inl (cI, 36, .inl (nA wc))), (b5, .inl (cI, 36, .inl (nA wt)))] := hD
  refine nr_if_eq (tgt := 31) hx hb d_TS_reach_4 (by decide) (by decide) (fun h9 => absurd h9 (by decide)) (fun _ => ?_)
  refine lv_iload_n hx hb d_TS_reach_7 rfl (lv_at hl 2 rfl) ?_
  refine nr_if_lt (tgt := 31) hx hb d_TS_reach_8 (by decide) (by omega) ?_
  refine lv_iload_n hx hb d_TS_reach_11 rfl (lv_at hl 2 rfl) ?_
  refine lv_bipush (v := nI 36) hx hb d_TS_reach_12 (by decide) ?_
  refine nr_icmp_ge (tgt := 31) hx hb d_TS_reach_14 (by decide) (by omega) (by omega) (fun h9 => absurd h9 (by omega)) (fun _ => ?_)
  refine lv_aload_n hx hb d_TS_reach_17 rfl (lv_at hl 0 rfl) ?_
  refine va_get (D := D) (ci := 3) (v := .ref b1) (C := R_TS) (T := F_TS) (N := 10) hx hb ho j_TS hown hK hP 0 rfl rfl 0 (by decide) (ho _ kf_TS_28) (fun _ h9 => h9) rfl d_TS_reach_18 ?_
  refine lv_iload_n hx hb d_TS_reach_21 rfl (lv_at hl 1 rfl) ?_
  refine lv_bipush (v := nI 36) hx hb d_TS_reach_22 (by decide) ?_
  refine nr_imul hx hb d_TS_reach_24 ?_
  refine lv_iload_n hx hb d_TS_reach_25 rfl (lv_at hl 2 rfl) ?_
  refine nr_iadd hx hb d_TS_reach_26 ?_
  refine nr_laldN hx hb hK hP 1 1 rfl rfl (i := (p0 * 36) + k) (by omega) (by decide) d_TS_reach_27 ?_
  refine lv_goto (tgt := 32) hx hb d_TS_reach_28 (by decide) ?_
  exact rt_l E hP hD hS ⟨rfl, rfl⟩ d_TS_reach_32
set_option maxHeartbeats 1000000 in
set_option maxRecDepth 100000 in
theorem c_TS_forget (l : Launch) (D : va_G) (cI cL : ClassId) (a b1 b2 b3 b4 b5 pi op ln md fd : Nat) (re pa wo wc wt : Nat → Nat) : CV l y_TS_forget (.code y_TS_forget b_TS_forget 1 none :: Om) { frames := 0, cells := 0, slots := 0, locals := 0 } D [(a, .inr (3, [.ref b1, .ref b2, .ref b3, .ref b4, .ref b5, .int (nI pi), .long (lN op), .int (nI ln), .int (nI md), .int (nI fd)])), (b1, .inl (cL, 108, .inr (.inl (lA re)))), (b2, .inl (cI, 36, .inl (nA pa))), (b3, .inl (cI, 288, .inl (nA wo))), (b4, .inl (cI, 36, .inl (nA wc))), (b5, .inl (cI, 36, .inl (nA wt)))] [(cI, .int), (cL, .long)] [.ref a] (fun u => u = [(a, .inr (3, [.ref b1, .ref b2, .ref b3, .ref b4, .ref b5, .int (nI pi), .long (lN op), .int (nI ln), .int (nI md), .int (nI 0)])), (b1, .inl (cL, 108, .inr (.inl (lA re)))), (b2, .inl (cI, 36, .inl (nA pa))), (b3, .inl (cI, 288, .inl (nA wo))), (b4, .inl (cI, 36, .inl (nA wc))), (b5, .inl (cI, 36, .inl (nA wt)))]) := by
  refine en_of (cc := b_TS_forget) (Qc := qV D [(cI, .int), (cL, .long)] (fun u => u = [(a, .inr (3, [.ref b1, .ref b2, .ref b3, .ref b4, .ref b5, .int (nI pi), .long (lN op), .int (nI ln), .int (nI md), .int (nI 0)])), (b1, .inl (cL, 108, .inr (.inl (lA re)))), (b2, .inl (cI, 36, .inl (nA pa))), (b3, .inl (cI, 288, .inl (nA wo))), (b4, .inl (cI, 36, .inl (nA wc))), (b5, .inl (cI, 36, .inl (nA wt)))])) (by decide) rfl (Nat.le_of_ble_eq_true rfl) ?_
  intro p e s m below meth c A E hnm hP hD hS ls hl
  have hl : lv_has ls 1 [(0, .ref a)] := hl
  obtain ⟨hx, hb, hml, hown, hts, hr, hlk, hA, hK, hN⟩ := id E
  have ho : ∀ q ∈ Om, q.before _ s = true := fun q h => hts q (List.mem_cons_of_mem _ h)
  refine lv_aload_n hx hb d_TS_forget_0 rfl (lv_at hl 0 rfl) ?_
  refine lv_iconst (v := nI 0) hx hb d_TS_forget_1 (by decide) ?_
  refine va_put (D := D) (ci := 3) (v := .int (nI 0)) (ty := .boolean) (C := R_TS) (T := F_TS) (N := 10) hx hb ho j_TS t_TS t_TS_ok n_TS hown hK hP hD hS 0 rfl rfl 9 (by decide) (ho _ kf_TS_50) (fun _ h9 => h9) rfl (by decide +kernel) (by first | rfl | decide | assumption) (by first | rfl | decide | assumption) (Nat.le_of_ble_eq_true rfl) d_TS_forget_2 (fun H locs hP hD hS => ?_)
  have hP : va_P D classes [(a, .inr (3, [.ref b1, .ref b2, .ref b3, .ref b4, .ref b5, .int (nI pi), .long (lN op), .int (nI ln), .int (nI md), .int (nI 0)])), (b1, .inl (cL, 108, .inr (.inl (lA re)))), (b2, .inl (cI, 36, .inl (nA pa))), (b3, .inl (cI, 288, .inl (nA wo))), (b4, .inl (cI, 36, .inl (nA wc))), (b5, .inl (cI, 36, .inl (nA wt)))] H := hP
  have hD : va_D A [(a, .inr (3, [.ref b1, .ref b2, .ref b3, .ref b4, .ref b5, .int (nI pi), .long (lN op), .int (nI ln), .int (nI md), .int (nI 0)])), (b1, .inl (cL, 108, .inr (.inl (lA re)))), (b2, .inl (cI, 36, .inl (nA pa))), (b3, .inl (cI, 288, .inl (nA wo))), (b4, .inl (cI, 36, .inl (nA wc))), (b5, .inl (cI, 36, .inl (nA wt)))] := hD
  exact rt_v E hP hD hS rfl d_TS_forget_5
set_option maxHeartbeats 1000000 in
set_option maxRecDepth 100000 in
theorem c_TS_giveUp (l : Launch) (D : va_G) (cI cL : ClassId) (a b1 b2 b3 b4 b5 pi op ln md fd : Nat) (re pa wo wc wt : Nat → Nat) : CV l y_TS_giveUp (.code y_TS_giveUp b_TS_giveUp 1 none :: Om) { frames := 0, cells := 0, slots := 0, locals := 0 } D [(a, .inr (3, [.ref b1, .ref b2, .ref b3, .ref b4, .ref b5, .int (nI pi), .long (lN op), .int (nI ln), .int (nI md), .int (nI fd)])), (b1, .inl (cL, 108, .inr (.inl (lA re)))), (b2, .inl (cI, 36, .inl (nA pa))), (b3, .inl (cI, 288, .inl (nA wo))), (b4, .inl (cI, 36, .inl (nA wc))), (b5, .inl (cI, 36, .inl (nA wt)))] [(cI, .int), (cL, .long)] [.ref a] (fun u => u = [(a, .inr (3, [.ref b1, .ref b2, .ref b3, .ref b4, .ref b5, .int (nI pi), .long (lN op), .int (nI ln), .int (nI 0), .int (nI 0)])), (b1, .inl (cL, 108, .inr (.inl (lA re)))), (b2, .inl (cI, 36, .inl (nA pa))), (b3, .inl (cI, 288, .inl (nA wo))), (b4, .inl (cI, 36, .inl (nA wc))), (b5, .inl (cI, 36, .inl (nA wt)))]) := by
  refine en_of (cc := b_TS_giveUp) (Qc := qV D [(cI, .int), (cL, .long)] (fun u => u = [(a, .inr (3, [.ref b1, .ref b2, .ref b3, .ref b4, .ref b5, .int (nI pi), .long (lN op), .int (nI ln), .int (nI 0), .int (nI 0)])), (b1, .inl (cL, 108, .inr (.inl (lA re)))), (b2, .inl (cI, 36, .inl (nA pa))), (b3, .inl (cI, 288, .inl (nA wo))), (b4, .inl (cI, 36, .inl (nA wc))), (b5, .inl (cI, 36, .inl (nA wt)))])) (by decide) rfl (Nat.le_of_ble_eq_true rfl) ?_
  intro p e s m below meth c A E hnm hP hD hS ls hl
  have hl : lv_has ls 1 [(0, .ref a)] := hl
  obtain ⟨hx, hb, hml, hown, hts, hr, hlk, hA, hK, hN⟩ := id E
  have ho : ∀ q ∈ Om, q.before _ s = true := fun q h => hts q (List.mem_cons_of_mem _ h)
  refine lv_aload_n hx hb d_TS_giveUp_0 rfl (lv_at hl 0 rfl) ?_
  refine lv_iconst (v := nI 0) hx hb d_TS_giveUp_1 (by decide) ?_
  refine va_put (D := D) (ci := 3) (v := .int (nI 0)) (ty := .boolean) (C := R_TS) (T := F_TS) (N := 10) hx hb ho j_TS t_TS t_TS_ok n_TS hown hK hP hD hS 0 rfl rfl 9 (by decide) (ho _ kf_TS_50) (fun _ h9 => h9) rfl (by decide +kernel) (by first | rfl | decide | assumption) (by first | rfl | decide | assumption) (Nat.le_of_ble_eq_true rfl) d_TS_giveUp_2 (fun H locs hP hD hS => ?_)
  have hP : va_P D classes [(a, .inr (3, [.ref b1, .ref b2, .ref b3, .ref b4, .ref b5, .int (nI pi), .long (lN op), .int (nI ln), .int (nI md), .int (nI 0)])), (b1, .inl (cL, 108, .inr (.inl (lA re)))), (b2, .inl (cI, 36, .inl (nA pa))), (b3, .inl (cI, 288, .inl (nA wo))), (b4, .inl (cI, 36, .inl (nA wc))), (b5, .inl (cI, 36, .inl (nA wt)))] H := hP
  have hD : va_D A [(a, .inr (3, [.ref b1, .ref b2, .ref b3, .ref b4, .ref b5, .int (nI pi), .long (lN op), .int (nI ln), .int (nI md), .int (nI 0)])), (b1, .inl (cL, 108, .inr (.inl (lA re)))), (b2, .inl (cI, 36, .inl (nA pa))), (b3, .inl (cI, 288, .inl (nA wo))), (b4, .inl (cI, 36, .inl (nA wc))), (b5, .inl (cI, 36, .inl (nA wt)))] := hD
  refine lv_aload_n hx hb d_TS_giveUp_5 rfl (lv_at hl 0 rfl) ?_
  refine lv_iconst (v := nI 0) hx hb d_TS_giveUp_6 (by decide) ?_
  refine va_put (D := D) (ci := 3) (v := .int (nI 0)) (ty := .int) (C := R_TS) (T := F_TS) (N := 10) hx hb ho j_TS t_TS t_TS_ok n_TS hown hK hP hD hS 0 rfl rfl 8 (by decide) (ho _ kf_TS_54) (fun _ h9 => h9) rfl (by decide +kernel) rfl rfl (Nat.le_of_ble_eq_true rfl) d_TS_giveUp_7 (fun H locs hP hD hS => ?_)
  have hP : va_P D classes [(a, .inr (3, [.ref b1, .ref b2, .ref b3, .ref b4, .ref b5, .int (nI pi), .long (lN op), .int (nI ln), .int (nI 0), .int (nI 0)])), (b1, .inl (cL, 108, .inr (.inl (lA re)))), (b2, .inl (cI, 36, .inl (nA pa))), (b3, .inl (cI, 288, .inl (nA wo))), (b4, .inl (cI, 36, .inl (nA wc))), (b5, .inl (cI, 36, .inl (nA wt)))] H := hP
  have hD : va_D A [(a, .inr (3, [.ref b1, .ref b2, .ref b3, .ref b4, .ref b5, .int (nI pi), .long (lN op), .int (nI ln), .int (nI 0), .int (nI 0)])), (b1, .inl (cL, 108, .inr (.inl (lA re)))), (b2, .inl (cI, 36, .inl (nA pa))), (b3, .inl (cI, 288, .inl (nA wo))), (b4, .inl (cI, 36, .inl (nA wc))), (b5, .inl (cI, 36, .inl (nA wt)))] := hD
  exact rt_v E hP hD hS rfl d_TS_giveUp_10
set_option maxHeartbeats 1000000 in
set_option maxRecDepth 100000 in
theorem c_TS_stepsMade (l : Launch) (D : va_G) (cI cL : ClassId) (a b1 b2 b3 b4 b5 pi op ln md fd : Nat) (re pa wo wc wt : Nat → Nat) : CI l y_TS_stepsMade (.code y_TS_stepsMade b_TS_stepsMade 1 (some .int) :: Om) { frames := 0, cells := 0, slots := 0, locals := 0 } D [(a, .inr (3, [.ref b1, .ref b2, .ref b3, .ref b4, .ref b5, .int (nI pi), .long (lN op), .int (nI ln), .int (nI md), .int (nI fd)])), (b1, .inl (cL, 108, .inr (.inl (lA re)))), (b2, .inl (cI, 36, .inl (nA pa))), (b3, .inl (cI, 288, .inl (nA wo))), (b4, .inl (cI, 36, .inl (nA wc))), (b5, .inl (cI, 36, .inl (nA wt)))] [(cI, .int), (cL, .long)] [.ref a] (fun r u => r = nI md ∧ u = [(a, .inr (3, [.ref b1, .ref b2, .ref b3, .ref b4, .ref b5, .int (nI pi), .long (lN op), .int (nI ln), .int (nI md), .int (nI fd)])), (b1, .inl (cL, 108, .inr (.inl (lA re)))), (b2, .inl (cI, 36, .inl (nA pa))), (b3, .inl (cI, 288, .inl (nA wo))), (b4, .inl (cI, 36, .inl (nA wc))), (b5, .inl (cI, 36, .inl (nA wt)))]) := by
  refine en_of (cc := b_TS_stepsMade) (Qc := qI D [(cI, .int), (cL, .long)] (fun r u => r = nI md ∧ u = [(a, .inr (3, [.ref b1, .ref b2, .ref b3, .ref b4, .ref b5, .int (nI pi), .long (lN op), .int (nI ln), .int (nI md), .int (nI fd)])), (b1, .inl (cL, 108, .inr (.inl (lA re)))), (b2, .inl (cI, 36, .inl (nA pa))), (b3, .inl (cI, 288, .inl (nA wo))), (b4, .inl (cI, 36, .inl (nA wc))), (b5, .inl (cI, 36, .inl (nA wt)))])) (by decide) rfl (Nat.le_of_ble_eq_true rfl) ?_
  intro p e s m below meth c A E hnm hP hD hS ls hl
  have hl : lv_has ls 1 [(0, .ref a)] := hl
  obtain ⟨hx, hb, hml, hown, hts, hr, hlk, hA, hK, hN⟩ := id E
  have ho : ∀ q ∈ Om, q.before _ s = true := fun q h => hts q (List.mem_cons_of_mem _ h)
  refine lv_aload_n hx hb d_TS_stepsMade_0 rfl (lv_at hl 0 rfl) ?_
  refine va_get (D := D) (ci := 3) (v := .int (nI md)) (C := R_TS) (T := F_TS) (N := 10) hx hb ho j_TS hown hK hP 0 rfl rfl 8 (by decide) (ho _ kf_TS_54) (fun _ h9 => h9) rfl d_TS_stepsMade_1 ?_
  exact rt_i E hP hD hS ⟨rfl, rfl⟩ d_TS_stepsMade_4
def tAt (fd ln : Nat) (pa : Nat → Nat) (x : Int32) : Int32 := if fd = 0 ∨ x < 0 ∨ nI ln ≤ x then -1 else nI (pa x.toNatClampNeg)
set_option maxHeartbeats 1000000 in
set_option maxRecDepth 100000 in
theorem c_TS_cellOfTour (l : Launch) (D : va_G) (cI cL : ClassId) (a b1 b2 b3 b4 b5 pi op ln md fd : Nat) (re pa wo wc wt : Nat → Nat) (x : Int32) (hfd : fd ≤ 1) (hln : ln ≤ 36) : CI l y_TS_cellOfTour (.code y_TS_cellOfTour b_TS_cellOfTour 2 (some .int) :: Om) { frames := 0, cells := 0, slots := 0, locals := 0 } D [(a, .inr (3, [.ref b1, .ref b2, .ref b3, .ref b4, .ref b5, .int (nI pi), .long (lN op), .int (nI ln), .int (nI md), .int (nI fd)])), (b1, .inl (cL, 108, .inr (.inl (lA re)))), (b2, .inl (cI, 36, .inl (nA pa))), (b3, .inl (cI, 288, .inl (nA wo))), (b4, .inl (cI, 36, .inl (nA wc))), (b5, .inl (cI, 36, .inl (nA wt)))] [(cI, .int), (cL, .long)] [.ref a, .int x] (fun r u => r = tAt fd ln pa x ∧ u = [(a, .inr (3, [.ref b1, .ref b2, .ref b3, .ref b4, .ref b5, .int (nI pi), .long (lN op), .int (nI ln), .int (nI md), .int (nI fd)])), (b1, .inl (cL, 108, .inr (.inl (lA re)))), (b2, .inl (cI, 36, .inl (nA pa))), (b3, .inl (cI, 288, .inl (nA wo))), (b4, .inl (cI, 36, .inl (nA wc))), (b5, .inl (cI, 36, .inl (nA wt)))]) := by
  refine en_of (cc := b_TS_cellOfTour) (Qc := qI D [(cI, .int), (cL, .long)] (fun r u => r = tAt fd ln pa x ∧ u = [(a, .inr (3, [.ref b1, .ref b2, .ref b3, .ref b4, .ref b5, .int (nI pi), .long (lN op), .int (nI ln), .int (nI md), .int (nI fd)])), (b1, .inl (cL, 108, .inr (.inl (lA re)))), (b2, .inl (cI, 36, .inl (nA pa))), (b3, .inl (cI, 288, .inl (nA wo))), (b4, .inl (cI, 36, .inl (nA wc))), (b5, .inl (cI, 36, .inl (nA wt)))])) (by decide) rfl (Nat.le_of_ble_eq_true rfl) ?_
  intro p e s m below meth c A E hnm hP hD hS ls hl
  have hl : lv_has ls 2 [(0, .ref a), (1, .int x)] := hl
  obtain ⟨hx, hb, hml, hown, hts, hr, hlk, hA, hK, hN⟩ := id E
  have ho : ∀ q ∈ Om, q.before _ s = true := fun q h => hts q (List.mem_cons_of_mem _ h)
  refine lv_aload_n hx hb d_TS_cellOfTour_0 rfl (lv_at hl 0 rfl) ?_
  refine va_get (D := D) (ci := 3) (v := .int (nI fd)) (C := R_TS) (T := F_TS) (N := 10) hx hb ho j_TS hown hK hP 0 rfl rfl 9 (by decide) (ho _ kf_TS_50) (fun _ h9 => h9) rfl d_TS_cellOfTour_1 ?_
  refine nr_if_eq (tgt := 34) hx hb d_TS_cellOfTour_4 (by decide) (by omega) (fun h_1 => ?_) (fun h_1 => ?_)
  · refine lv_iconst (v := (-1)) hx hb d_TS_cellOfTour_34 (by decide) ?_
    exact rt_i E hP hD hS ⟨by unfold tAt; rw [if_pos (Or.inl (by omega))], rfl⟩ d_TS_cellOfTour_35
  · refine lv_iload_n hx hb d_TS_cellOfTour_7 rfl (lv_at hl 1 rfl) ?_
    refine lv_if_lt (tgt := 34) hx hb d_TS_cellOfTour_8 (by decide) (fun h_2 => ?_) (fun h_2 => ?_)
    · refine lv_iconst (v := (-1)) hx hb d_TS_cellOfTour_34 (by decide) ?_
      exact rt_i E hP hD hS ⟨by unfold tAt; rw [if_pos (by simp [h_2])], rfl⟩ d_TS_cellOfTour_35
    · refine lv_iload_n hx hb d_TS_cellOfTour_11 rfl (lv_at hl 1 rfl) ?_
      refine lv_aload_n hx hb d_TS_cellOfTour_12 rfl (lv_at hl 0 rfl) ?_
      refine va_get (D := D) (ci := 3) (v := .int (nI ln)) (C := R_TS) (T := F_TS) (N := 10) hx hb ho j_TS hown hK hP 0 rfl rfl 7 (by decide) (ho _ kf_TS_68) (fun _ h9 => h9) rfl d_TS_cellOfTour_13 ?_
      refine lv_icmp_ge (tgt := 34) hx hb d_TS_cellOfTour_16 (by decide) (fun h_3 => ?_) (fun h_3 => ?_)
      · refine lv_iconst (v := (-1)) hx hb d_TS_cellOfTour_34 (by decide) ?_
        exact rt_i E hP hD hS ⟨by unfold tAt; rw [if_pos (by simp [h_3])], rfl⟩ d_TS_cellOfTour_35
      · obtain ⟨j, hj, rfl⟩ : ∃ j : Nat, j < ln ∧ x = nI j := by
          rcases pk_ix x (n := ln) (by omega) with q | q | q
          · exact absurd q h_2
          · exact absurd q h_3
          · exact q
        refine lv_iload_n hx hb d_TS_cellOfTour_19 rfl (lv_at hl 1 rfl) ?_
        refine lv_bipush (v := nI 36) hx hb d_TS_cellOfTour_20 (by decide) ?_
        refine nr_icmp_ge (tgt := 34) hx hb d_TS_cellOfTour_22 (by decide) (by omega) (by omega) (fun h9 => absurd h9 (by omega)) (fun _ => ?_)
        refine lv_aload_n hx hb d_TS_cellOfTour_25 rfl (lv_at hl 0 rfl) ?_
        refine va_get (D := D) (ci := 3) (v := .ref b2) (C := R_TS) (T := F_TS) (N := 10) hx hb ho j_TS hown hK hP 0 rfl rfl 1 (by decide) (ho _ kf_TS_9) (fun _ h9 => h9) rfl d_TS_cellOfTour_26 ?_
        refine lv_iload_n hx hb d_TS_cellOfTour_29 rfl (lv_at hl 1 rfl) ?_
        refine nr_ialdN hx hb hK hP 2 0 rfl rfl (i := j) (by omega) (by decide) d_TS_cellOfTour_30 ?_
        refine lv_goto (tgt := 35) hx hb d_TS_cellOfTour_31 (by decide) ?_
        exact rt_i E hP hD hS ⟨by unfold tAt; rw [if_neg (by rintro (q | q | q); exact absurd q (by omega); exact absurd q h_2; exact absurd q h_3), nI_clamp (by omega)], rfl⟩ d_TS_cellOfTour_35
def iW (key fr : Nat) : Nat → Nat → (Nat → Nat) → Nat → Nat
  | 0, pl, wo => va_up wo pl key
  | m + 1, pl, wo => if fr < pl ∧ key < wo (pl - 1) then iW key fr m (pl - 1) (va_up wo pl (wo (pl - 1))) else va_up wo pl key
theorem iW_lt {key fr : Nat} (hk : key < 4000) : ∀ m pl wo, (∀ i, wo i < 4000) → ∀ i, iW key fr m pl wo i < 4000 := by
  intro m
  induction m with
  | zero => intro pl wo h; exact up_lt h hk
  | succ m ih =>
    intro pl wo h
    rw [iW]
    split
    · exact ih _ _ (up_lt h (h _))
    · exact up_lt h hk
set_option maxHeartbeats 1000000 in
set_option maxRecDepth 100000 in
theorem L_TS_insert {p : Program} {l : Launch} {e : Env} {s : State} {m : MethodId} {args : Array Value} {below : List Frame} {meth : Method} {c : Code} {A : Nat → Prop} {D : va_G} {cI cL : ClassId} {c0 : Cond} {post : va_W → Prop} (a b1 b2 b3 b4 b5 pi op ln md fd : Nat) (re pa wc wt : Nat → Nat) (key fr ct : Nat) (hkey : key < 4000) (E : En p s m args meth c b_TS_insertWayOn 5 (c0 :: Om) R_TS none A D [(cI, .int), (cL, .long)]) : ∀ (m1 : Nat) (pl : Nat) (wo : Nat → Nat), fr ≤ pl → pl < 288 → pl < fr + m1 → (∀ i, wo i < 4000) → post [(a, .inr (3, [.ref b1, .ref b2, .ref b3, .ref b4, .ref b5, .int (nI pi), .long (lN op), .int (nI ln), .int (nI md), .int (nI fd)])), (b1, .inl (cL, 108, .inr (.inl (lA re)))), (b2, .inl (cI, 36, .inl (nA pa))), (b3, .inl (cI, 288, .inl (nA (iW key fr m1 pl wo)))), (b4, .inl (cI, 36, .inl (nA wc))), (b5, .inl (cI, 36, .inl (nA wt)))] → ∀ (H : Heap) (locs : List Loc), va_P D classes [(a, .inr (3, [.ref b1, .ref b2, .ref b3, .ref b4, .ref b5, .int (nI pi), .long (lN op), .int (nI ln), .int (nI md), .int (nI fd)])), (b1, .inl (cL, 108, .inr (.inl (lA re)))), (b2, .inl (cI, 36, .inl (nA pa))), (b3, .inl (cI, 288, .inl (nA wo))), (b4, .inl (cI, 36, .inl (nA wc))), (b5, .inl (cI, 36, .inl (nA wt)))] H → va_D A [(a, .inr (3, [.ref b1, .ref b2, .ref b3, .ref b4, .ref b5, .int (nI pi), .long (lN op), .int (nI ln), .int (nI md), .int (nI fd)])), (b1, .inl (cL, 108, .inr (.inl (lA re)))), (b2, .inl (cI, 36, .inl (nA pa))), (b3, .inl (cI, 288, .inl (nA wo))), (b4, .inl (cI, 36, .inl (nA wc))), (b5, .inl (cI, 36, .inl (nA wt)))] → va_S A s.heap H locs → ∀ ls : Array Slot, lv_has ls 5 [(0, .ref a), (1, .int (nI key)), (2, .int (nI fr)), (3, .int (nI ct)), (4, .int (nI pl))] → W p l e { frames := 0, cells := 0, slots := 0, locals := 0 } s m args below meth c H locs 0 0 (MQ below (qV D [(cI, .int), (cL, .long)] post A) args s 0 0 A) (F0 m 25 ls []) := by
  obtain ⟨hx, hb, hml, hown, hts, hr, hlk, hA, hK, hN⟩ := id E
  have ho : ∀ q ∈ Om, q.before _ s = true := fun q h => hts q (List.mem_cons_of_mem _ h)
  intro m1
  induction m1 with
  | zero =>
    intro pl wo h0 h1 h2 hwo hq
    exact absurd h2 (by omega)
  | succ m1 ih =>
    intro pl wo h0 h1 h2 hwo hq H locs hP hD hS ls hl
    refine lv_iload hx hb d_TS_insertWayOn_25 (lv_at hl 4 rfl) ?_
    refine lv_iload_n hx hb d_TS_insertWayOn_27 rfl (lv_at hl 2 rfl) ?_
    refine nr_icmp_le (tgt := 66) hx hb d_TS_insertWayOn_28 (by decide) (by omega) (by omega) (fun h_1 => ?_) (fun h_1 => ?_)
    · refine lv_aload_n hx hb d_TS_insertWayOn_66 rfl (lv_at hl 0 rfl) ?_
      refine va_get (D := D) (ci := 3) (v := .ref b3) (C := R_TS) (T := F_TS) (N := 10) hx hb ho j_TS hown hK hP 0 rfl rfl 2 (by decide) (ho _ kf_TS_15) (fun _ h9 => h9) rfl d_TS_insertWayOn_67 ?_
      refine lv_iload hx hb d_TS_insertWayOn_70 (lv_at hl 4 rfl) ?_
      refine lv_iload_n hx hb d_TS_insertWayOn_72 rfl (lv_at hl 1 rfl) ?_
      refine nr_iast hx hb hK hP hD hS 3 0 rfl rfl (i := pl) (x := key) (by omega) (by decide) d_TS_insertWayOn_73 (fun H locs hP hD hS => ?_)
      have hP : va_P D classes [(a, .inr (3, [.ref b1, .ref b2, .ref b3, .ref b4, .ref b5, .int (nI pi), .long (lN op), .int (nI ln), .int (nI md), .int (nI fd)])), (b1, .inl (cL, 108, .inr (.inl (lA re)))), (b2, .inl (cI, 36, .inl (nA pa))), (b3, .inl (cI, 288, .inl (nA (va_up wo pl key)))), (b4, .inl (cI, 36, .inl (nA wc))), (b5, .inl (cI, 36, .inl (nA wt)))] H := hP
      have hD : va_D A [(a, .inr (3, [.ref b1, .ref b2, .ref b3, .ref b4, .ref b5, .int (nI pi), .long (lN op), .int (nI ln), .int (nI md), .int (nI fd)])), (b1, .inl (cL, 108, .inr (.inl (lA re)))), (b2, .inl (cI, 36, .inl (nA pa))), (b3, .inl (cI, 288, .inl (nA (va_up wo pl key)))), (b4, .inl (cI, 36, .inl (nA wc))), (b5, .inl (cI, 36, .inl (nA wt)))] := hD
      exact rt_v E hP hD hS (by rw [iW, if_neg (by omega)] at hq; exact hq) d_TS_insertWayOn_74
    · refine lv_aload_n hx hb d_TS_insertWayOn_31 rfl (lv_at hl 0 rfl) ?_
      refine va_get (D := D) (ci := 3) (v := .ref b3) (C := R_TS) (T := F_TS) (N := 10) hx hb ho j_TS hown hK hP 0 rfl rfl 2 (by decide) (ho _ kf_TS_15) (fun _ h9 => h9) rfl d_TS_insertWayOn_32 ?_
      have hwp := hwo (pl - 1)
      refine lv_iload hx hb d_TS_insertWayOn_35 (lv_at hl 4 rfl) ?_
      refine lv_iconst (v := nI 1) hx hb d_TS_insertWayOn_37 (by decide) ?_
      refine nr_isub hx hb d_TS_insertWayOn_38 (by omega) ?_
      refine nr_ialdN hx hb hK hP 3 0 rfl rfl (i := pl - 1) (by omega) (by decide) d_TS_insertWayOn_39 ?_
      refine lv_iload_n hx hb d_TS_insertWayOn_40 rfl (lv_at hl 1 rfl) ?_
      refine nr_icmp_le (tgt := 66) hx hb d_TS_insertWayOn_41 (by decide) (by omega) (by omega) (fun h_2 => ?_) (fun h_2 => ?_)
      · refine lv_aload_n hx hb d_TS_insertWayOn_66 rfl (lv_at hl 0 rfl) ?_
        refine va_get (D := D) (ci := 3) (v := .ref b3) (C := R_TS) (T := F_TS) (N := 10) hx hb ho j_TS hown hK hP 0 rfl rfl 2 (by decide) (ho _ kf_TS_15) (fun _ h9 => h9) rfl d_TS_insertWayOn_67 ?_
        refine lv_iload hx hb d_TS_insertWayOn_70 (lv_at hl 4 rfl) ?_
        refine lv_iload_n hx hb d_TS_insertWayOn_72 rfl (lv_at hl 1 rfl) ?_
        refine nr_iast hx hb hK hP hD hS 3 0 rfl rfl (i := pl) (x := key) (by omega) (by decide) d_TS_insertWayOn_73 (fun H locs hP hD hS => ?_)
        have hP : va_P D classes [(a, .inr (3, [.ref b1, .ref b2, .ref b3, .ref b4, .ref b5, .int (nI pi), .long (lN op), .int (nI ln), .int (nI md), .int (nI fd)])), (b1, .inl (cL, 108, .inr (.inl (lA re)))), (b2, .inl (cI, 36, .inl (nA pa))), (b3, .inl (cI, 288, .inl (nA (va_up wo pl key)))), (b4, .inl (cI, 36, .inl (nA wc))), (b5, .inl (cI, 36, .inl (nA wt)))] H := hP
        have hD : va_D A [(a, .inr (3, [.ref b1, .ref b2, .ref b3, .ref b4, .ref b5, .int (nI pi), .long (lN op), .int (nI ln), .int (nI md), .int (nI fd)])), (b1, .inl (cL, 108, .inr (.inl (lA re)))), (b2, .inl (cI, 36, .inl (nA pa))), (b3, .inl (cI, 288, .inl (nA (va_up wo pl key)))), (b4, .inl (cI, 36, .inl (nA wc))), (b5, .inl (cI, 36, .inl (nA wt)))] := hD
        exact rt_v E hP hD hS (by rw [iW, if_neg (by omega)] at hq; exact hq) d_TS_insertWayOn_74
      · refine lv_aload_n hx hb d_TS_insertWayOn_44 rfl (lv_at hl 0 rfl) ?_
        refine va_get (D := D) (ci := 3) (v := .ref b3) (C := R_TS) (T := F_TS) (N := 10) hx hb ho j_TS hown hK hP 0 rfl rfl 2 (by decide) (ho _ kf_TS_15) (fun _ h9 => h9) rfl d_TS_insertWayOn_45 ?_
        refine lv_iload hx hb d_TS_insertWayOn_48 (lv_at hl 4 rfl) ?_
        refine lv_aload_n hx hb d_TS_insertWayOn_50 rfl (lv_at hl 0 rfl) ?_
        refine va_get (D := D) (ci := 3) (v := .ref b3) (C := R_TS) (T := F_TS) (N := 10) hx hb ho j_TS hown hK hP 0 rfl rfl 2 (by decide) (ho _ kf_TS_15) (fun _ h9 => h9) rfl d_TS_insertWayOn_51 ?_
        refine lv_iload hx hb d_TS_insertWayOn_54 (lv_at hl 4 rfl) ?_
        refine lv_iconst (v := nI 1) hx hb d_TS_insertWayOn_56 (by decide) ?_
        refine nr_isub hx hb d_TS_insertWayOn_57 (by omega) ?_
        refine nr_ialdN hx hb hK hP 3 0 rfl rfl (i := pl - 1) (by omega) (by decide) d_TS_insertWayOn_58 ?_
        refine nr_iast hx hb hK hP hD hS 3 0 rfl rfl (i := pl) (x := wo (pl - 1)) (by omega) (by decide) d_TS_insertWayOn_59 (fun H locs hP hD hS => ?_)
        have hP : va_P D classes [(a, .inr (3, [.ref b1, .ref b2, .ref b3, .ref b4, .ref b5, .int (nI pi), .long (lN op), .int (nI ln), .int (nI md), .int (nI fd)])), (b1, .inl (cL, 108, .inr (.inl (lA re)))), (b2, .inl (cI, 36, .inl (nA pa))), (b3, .inl (cI, 288, .inl (nA (va_up wo pl (wo (pl - 1)))))), (b4, .inl (cI, 36, .inl (nA wc))), (b5, .inl (cI, 36, .inl (nA wt)))] H := hP
        have hD : va_D A [(a, .inr (3, [.ref b1, .ref b2, .ref b3, .ref b4, .ref b5, .int (nI pi), .long (lN op), .int (nI ln), .int (nI md), .int (nI fd)])), (b1, .inl (cL, 108, .inr (.inl (lA re)))), (b2, .inl (cI, 36, .inl (nA pa))), (b3, .inl (cI, 288, .inl (nA (va_up wo pl (wo (pl - 1)))))), (b4, .inl (cI, 36, .inl (nA wc))), (b5, .inl (cI, 36, .inl (nA wt)))] := hD
        refine nr_iincm (lv' := [(4, .int (nI (pl - 1))), (0, .ref a), (1, .int (nI key)), (2, .int (nI fr)), (3, .int (nI ct))]) hx hb d_TS_insertWayOn_60 hl (k := 4) rfl (by omega) (by decide) rfl (fun ls hl => ?_)
        refine lv_goto (tgt := 25) hx hb d_TS_insertWayOn_63 (by decide) ?_
        exact ih (pl - 1) (va_up wo pl (wo (pl - 1))) (by omega) (by omega) (by omega) (up_lt hwo (hwo _)) (by rw [iW, if_pos ⟨by omega, by omega⟩] at hq; exact hq) _ _ hP hD hS ls (lv_sub hl [1, 2, 3, 4, 0] rfl)
set_option maxHeartbeats 1000000 in
set_option maxRecDepth 100000 in
theorem c_TS_insert (l : Launch) (D : va_G) (cI cL : ClassId) (a b1 b2 b3 b4 b5 pi op ln md fd : Nat) (re pa wo wc wt : Nat → Nat) (key fr ct : Nat) (hkey : key < 4000) (hf : fr + ct < 288) (hwo : ∀ i, wo i < 4000) : CV l y_TS_insertWayOn (.code y_TS_insertWayOn b_TS_insertWayOn 5 none :: Om) { frames := 0, cells := 0, slots := 0, locals := 0 } D [(a, .inr (3, [.ref b1, .ref b2, .ref b3, .ref b4, .ref b5, .int (nI pi), .long (lN op), .int (nI ln), .int (nI md), .int (nI fd)])), (b1, .inl (cL, 108, .inr (.inl (lA re)))), (b2, .inl (cI, 36, .inl (nA pa))), (b3, .inl (cI, 288, .inl (nA wo))), (b4, .inl (cI, 36, .inl (nA wc))), (b5, .inl (cI, 36, .inl (nA wt)))] [(cI, .int), (cL, .long)] [.ref a, .int (nI key), .int (nI fr), .int (nI ct)] (fun u => u = [(a, .inr (3, [.ref b1, .ref b2, .ref b3, .ref b4, .ref b5, .int (nI pi), .long (lN op), .int (nI ln), .int (nI md), .int (nI fd)])), (b1, .inl (cL, 108, .inr (.inl (lA re)))), (b2, .inl (cI, 36, .inl (nA pa))), (b3, .inl (cI, 288, .inl (nA (iW key fr (ct + 1) (fr + ct) wo)))), (b4, .inl (cI, 36, .inl (nA wc))), (b5, .inl (cI, 36, .inl (nA wt)))]) := by
  refine en_of (cc := b_TS_insertWayOn) (Qc := qV D [(cI, .int), (cL, .long)] (fun u => u = [(a, .inr (3, [.ref b1, .ref b2, .ref b3, .ref b4, .ref b5, .int (nI pi), .long (lN op), .int (nI ln), .int (nI md), .int (nI fd)])), (b1, .inl (cL, 108, .inr (.inl (lA re)))), (b2, .inl (cI, 36, .inl (nA pa))), (b3, .inl (cI, 288, .inl (nA (iW key fr (ct + 1) (fr + ct) wo)))), (b4, .inl (cI, 36, .inl (nA wc))), (b5, .inl (cI, 36, .inl (nA wt)))])) (by decide) rfl (Nat.le_of_ble_eq_true rfl) ?_
  intro p e s m below meth c A E hnm hP hD hS ls hl
  have hl : lv_has ls 5 [(0, .ref a), (1, .int (nI key)), (2, .int (nI fr)), (3, .int (nI ct))] := hl
  obtain ⟨hx, hb, hml, hown, hts, hr, hlk, hA, hK, hN⟩ := id E
  have ho : ∀ q ∈ Om, q.before _ s = true := fun q h => hts q (List.mem_cons_of_mem _ h)
  refine lv_iload_n hx hb d_TS_insertWayOn_0 rfl (lv_at hl 2 rfl) ?_
  refine nr_if_lt (tgt := 19) hx hb d_TS_insertWayOn_1 (by decide) (by omega) ?_
  refine lv_iload_n hx hb d_TS_insertWayOn_4 rfl (lv_at hl 3 rfl) ?_
  refine nr_if_lt (tgt := 19) hx hb d_TS_insertWayOn_5 (by decide) (by omega) ?_
  refine lv_iload_n hx hb d_TS_insertWayOn_8 rfl (lv_at hl 2 rfl) ?_
  refine lv_iload_n hx hb d_TS_insertWayOn_9 rfl (lv_at hl 3 rfl) ?_
  refine nr_iadd hx hb d_TS_insertWayOn_10 ?_
  refine lv_aload_n hx hb d_TS_insertWayOn_11 rfl (lv_at hl 0 rfl) ?_
  refine va_get (D := D) (ci := 3) (v := .ref b3) (C := R_TS) (T := F_TS) (N := 10) hx hb ho j_TS hown hK hP 0 rfl rfl 2 (by decide) (ho _ kf_TS_15) (fun _ h9 => h9) rfl d_TS_insertWayOn_12 ?_
  refine va_alen (v := nI 288) hx hb hK hP 3 0 rfl rfl rfl d_TS_insertWayOn_15 ?_
  refine nr_icmp_lt (tgt := 20) hx hb d_TS_insertWayOn_16 (by decide) (by omega) (by omega) (fun _ => ?_) (fun h9 => absurd h9 (by omega))
  refine lv_iload_n hx hb d_TS_insertWayOn_20 rfl (lv_at hl 2 rfl) ?_
  refine lv_iload_n hx hb d_TS_insertWayOn_21 rfl (lv_at hl 3 rfl) ?_
  refine nr_iadd hx hb d_TS_insertWayOn_22 ?_
  refine lv_istore (lv' := [(4, .int (nI (fr + ct))), (0, .ref a), (1, .int (nI key)), (2, .int (nI fr)), (3, .int (nI ct))]) hx hb d_TS_insertWayOn_23 hl (by decide) rfl (fun ls hl => ?_)
  exact L_TS_insert a b1 b2 b3 b4 b5 pi op ln md fd re pa wc wt key fr ct hkey E (ct + 1) (fr + ct) wo (by omega) (by omega) (by omega) hwo (by exact rfl) _ _ hP hD hS ls (lv_sub hl [1, 2, 3, 4, 0] rfl)
set_option maxHeartbeats 1000000 in
set_option maxRecDepth 100000 in
theorem c_TS_goBack (l : Launch) (D : va_G) (cI cL : ClassId) (a b1 b2 b3 b4 b5 pi op ln md fd : Nat) (re pa wo wc wt : Nat → Nat) (hln : 1 ≤ ln) (hl36 : ln ≤ 36) (hpa : ∀ k, pa k < 36) : CV l y_TS_goBack (.code y_TS_goBack b_TS_goBack 1 none :: Om) { frames := 0, cells := 0, slots := 0, locals := 0 } D [(a, .inr (3, [.ref b1, .ref b2, .ref b3, .ref b4, .ref b5, .int (nI pi), .long (lN op), .int (nI ln), .int (nI md), .int (nI fd)])), (b1, .inl (cL, 108, .inr (.inl (lA re)))), (b2, .inl (cI, 36, .inl (nA pa))), (b3, .inl (cI, 288, .inl (nA wo))), (b4, .inl (cI, 36, .inl (nA wc))), (b5, .inl (cI, 36, .inl (nA wt)))] [(cI, .int), (cL, .long)] [.ref a] (fun u => u = [(a, .inr (3, [.ref b1, .ref b2, .ref b3, .ref b4, .ref b5, .int (nI pi), .long (lN (op ||| 2 ^ pa (ln - 1))), .int (nI (ln - 1)), .int (nI md), .int (nI fd)])), (b1, .inl (cL, 108, .inr (.inl (lA re)))), (b2, .inl (cI, 36, .inl (nA pa))), (b3, .inl (cI, 288, .inl (nA wo))), (b4, .inl (cI, 36, .inl (nA wc))), (b5, .inl (cI, 36, .inl (nA wt)))]) := by
  refine en_of (cc := b_TS_goBack) (Qc := qV D [(cI, .int), (cL, .long)] (fun u => u = [(a, .inr (3, [.ref b1, .ref b2, .ref b3, .ref b4, .ref b5, .int (nI pi), .long (lN (op ||| 2 ^ pa (ln - 1))), .int (nI (ln - 1)), .int (nI md), .int (nI fd)])), (b1, .inl (cL, 108, .inr (.inl (lA re)))), (b2, .inl (cI, 36, .inl (nA pa))), (b3, .inl (cI, 288, .inl (nA wo))), (b4, .inl (cI, 36, .inl (nA wc))), (b5, .inl (cI, 36, .inl (nA wt)))])) (by decide) rfl (Nat.le_of_ble_eq_true rfl) ?_
  intro p e s m below meth c A E hnm hP hD hS ls hl
  have hl : lv_has ls 1 [(0, .ref a)] := hl
  obtain ⟨hx, hb, hml, hown, hts, hr, hlk, hA, hK, hN⟩ := id E
  have ho : ∀ q ∈ Om, q.before _ s = true := fun q h => hts q (List.mem_cons_of_mem _ h)
  have hp1 := hpa (ln - 1)
  refine lv_aload_n hx hb d_TS_goBack_0 rfl (lv_at hl 0 rfl) ?_
  refine va_get (D := D) (ci := 3) (v := .int (nI ln)) (C := R_TS) (T := F_TS) (N := 10) hx hb ho j_TS hown hK hP 0 rfl rfl 7 (by decide) (ho _ kf_TS_68) (fun _ h9 => h9) rfl d_TS_goBack_1 ?_
  refine lv_iconst (v := nI 1) hx hb d_TS_goBack_4 (by decide) ?_
  refine nr_icmp_lt (tgt := 17) hx hb d_TS_goBack_5 (by decide) (by omega) (by omega) (fun h9 => absurd h9 (by omega)) (fun _ => ?_)
  refine lv_aload_n hx hb d_TS_goBack_8 rfl (lv_at hl 0 rfl) ?_
  refine va_get (D := D) (ci := 3) (v := .int (nI ln)) (C := R_TS) (T := F_TS) (N := 10) hx hb ho j_TS hown hK hP 0 rfl rfl 7 (by decide) (ho _ kf_TS_68) (fun _ h9 => h9) rfl d_TS_goBack_9 ?_
  refine lv_bipush (v := nI 36) hx hb d_TS_goBack_12 (by decide) ?_
  refine nr_icmp_le (tgt := 18) hx hb d_TS_goBack_14 (by decide) (by omega) (by omega) (fun _ => ?_) (fun h9 => absurd h9 (by omega))
  refine lv_aload_n hx hb d_TS_goBack_18 rfl (lv_at hl 0 rfl) ?_
  refine lv_dup hx hb d_TS_goBack_19 rfl ?_
  refine va_get (D := D) (ci := 3) (v := .int (nI ln)) (C := R_TS) (T := F_TS) (N := 10) hx hb ho j_TS hown hK hP 0 rfl rfl 7 (by decide) (ho _ kf_TS_68) (fun _ h9 => h9) rfl d_TS_goBack_20 ?_
  refine lv_iconst (v := nI 1) hx hb d_TS_goBack_23 (by decide) ?_
  refine nr_isub hx hb d_TS_goBack_24 (by omega) ?_
  refine va_put (D := D) (ci := 3) (v := .int (nI (ln - 1))) (ty := .int) (C := R_TS) (T := F_TS) (N := 10) hx hb ho j_TS t_TS t_TS_ok n_TS hown hK hP hD hS 0 rfl rfl 7 (by decide) (ho _ kf_TS_68) (fun _ h9 => h9) rfl (by decide +kernel) rfl rfl (Nat.le_of_ble_eq_true rfl) d_TS_goBack_25 (fun H locs hP hD hS => ?_)
  have hP : va_P D classes [(a, .inr (3, [.ref b1, .ref b2, .ref b3, .ref b4, .ref b5, .int (nI pi), .long (lN op), .int (nI (ln - 1)), .int (nI md), .int (nI fd)])), (b1, .inl (cL, 108, .inr (.inl (lA re)))), (b2, .inl (cI, 36, .inl (nA pa))), (b3, .inl (cI, 288, .inl (nA wo))), (b4, .inl (cI, 36, .inl (nA wc))), (b5, .inl (cI, 36, .inl (nA wt)))] H := hP
  have hD : va_D A [(a, .inr (3, [.ref b1, .ref b2, .ref b3, .ref b4, .ref b5, .int (nI pi), .long (lN op), .int (nI (ln - 1)), .int (nI md), .int (nI fd)])), (b1, .inl (cL, 108, .inr (.inl (lA re)))), (b2, .inl (cI, 36, .inl (nA pa))), (b3, .inl (cI, 288, .inl (nA wo))), (b4, .inl (cI, 36, .inl (nA wc))), (b5, .inl (cI, 36, .inl (nA wt)))] := hD
  refine lv_aload_n hx hb d_TS_goBack_28 rfl (lv_at hl 0 rfl) ?_
  refine lv_dup hx hb d_TS_goBack_29 rfl ?_
  refine va_get (D := D) (ci := 3) (v := .long (lN op)) (C := R_TS) (T := F_TS) (N := 10) hx hb ho j_TS hown hK hP 0 rfl rfl 6 (by decide) (ho _ kf_TS_64) (fun _ h9 => h9) rfl d_TS_goBack_30 ?_
  refine lv_lconst (v := lN 1) hx hb d_TS_goBack_33 rfl ?_
  refine lv_aload_n hx hb d_TS_goBack_34 rfl (lv_at hl 0 rfl) ?_
  refine va_get (D := D) (ci := 3) (v := .ref b2) (C := R_TS) (T := F_TS) (N := 10) hx hb ho j_TS hown hK hP 0 rfl rfl 1 (by decide) (ho _ kf_TS_9) (fun _ h9 => h9) rfl d_TS_goBack_35 ?_
  refine lv_aload_n hx hb d_TS_goBack_38 rfl (lv_at hl 0 rfl) ?_
  refine va_get (D := D) (ci := 3) (v := .int (nI (ln - 1))) (C := R_TS) (T := F_TS) (N := 10) hx hb ho j_TS hown hK hP 0 rfl rfl 7 (by decide) (ho _ kf_TS_68) (fun _ h9 => h9) rfl d_TS_goBack_39 ?_
  refine nr_ialdN hx hb hK hP 2 0 rfl rfl (i := ln - 1) (by omega) (by decide) d_TS_goBack_42 ?_
  refine nr_lshl1 hx hb d_TS_goBack_43 (by omega) ?_
  refine nr_lor hx hb d_TS_goBack_44 ?_
  refine va_put (D := D) (ci := 3) (v := .long (lN (op ||| (2 ^ (pa (ln - 1)))))) (ty := .long) (C := R_TS) (T := F_TS) (N := 10) hx hb ho j_TS t_TS t_TS_ok n_TS hown hK hP hD hS 0 rfl rfl 6 (by decide) (ho _ kf_TS_64) (fun _ h9 => h9) rfl (by decide +kernel) rfl rfl (Nat.le_of_ble_eq_true rfl) d_TS_goBack_45 (fun H locs hP hD hS => ?_)
  have hP : va_P D classes [(a, .inr (3, [.ref b1, .ref b2, .ref b3, .ref b4, .ref b5, .int (nI pi), .long (lN (op ||| (2 ^ (pa (ln - 1))))), .int (nI (ln - 1)), .int (nI md), .int (nI fd)])), (b1, .inl (cL, 108, .inr (.inl (lA re)))), (b2, .inl (cI, 36, .inl (nA pa))), (b3, .inl (cI, 288, .inl (nA wo))), (b4, .inl (cI, 36, .inl (nA wc))), (b5, .inl (cI, 36, .inl (nA wt)))] H := hP
  have hD : va_D A [(a, .inr (3, [.ref b1, .ref b2, .ref b3, .ref b4, .ref b5, .int (nI pi), .long (lN (op ||| (2 ^ (pa (ln - 1))))), .int (nI (ln - 1)), .int (nI md), .int (nI fd)])), (b1, .inl (cL, 108, .inr (.inl (lA re)))), (b2, .inl (cI, 36, .inl (nA pa))), (b3, .inl (cI, 288, .inl (nA wo))), (b4, .inl (cI, 36, .inl (nA wc))), (b5, .inl (cI, 36, .inl (nA wt)))] := hD
  exact rt_v E hP hD hS rfl d_TS_goBack_48
/-- the next way on: 0 none, else one more than the cell -/
def tNx (ln : Nat) (wo wc wt : Nat → Nat) : Nat := if wt (ln - 1) < 8 ∧ wt (ln - 1) < wc (ln - 1) then wo ((ln - 1) * 8 + wt (ln - 1)) % 36 + 1 else 0
def tNt (ln : Nat) (wc wt : Nat → Nat) : Nat → Nat := if wt (ln - 1) < 8 ∧ wt (ln - 1) < wc (ln - 1) then va_up wt (ln - 1) (wt (ln - 1) + 1) else wt
set_option maxHeartbeats 1000000 in
set_option maxRecDepth 100000 in
theorem c_TS_nextCell (l : Launch) (D : va_G) (cI cL : ClassId) (a b1 b2 b3 b4 b5 pi op ln md fd : Nat) (re pa wo wc wt : Nat → Nat) (hln : 1 ≤ ln) (hl36 : ln ≤ 36) (hwo : ∀ i, wo i < 4000) (hwc : ∀ k, wc k ≤ 8) (hwt : ∀ k, wt k ≤ 8) : CI l y_TS_nextCell (.code y_TS_nextCell b_TS_nextCell 3 (some .int) :: Om) { frames := 0, cells := 0, slots := 0, locals := 0 } D [(a, .inr (3, [.ref b1, .ref b2, .ref b3, .ref b4, .ref b5, .int (nI pi), .long (lN op), .int (nI ln), .int (nI md), .int (nI fd)])), (b1, .inl (cL, 108, .inr (.inl (lA re)))), (b2, .inl (cI, 36, .inl (nA pa))), (b3, .inl (cI, 288, .inl (nA wo))), (b4, .inl (cI, 36, .inl (nA wc))), (b5, .inl (cI, 36, .inl (nA wt)))] [(cI, .int), (cL, .long)] [.ref a] (fun r u => r = nI (tNx ln wo wc wt) - 1 ∧ u = [(a, .inr (3, [.ref b1, .ref b2, .ref b3, .ref b4, .ref b5, .int (nI pi), .long (lN op), .int (nI ln), .int (nI md), .int (nI fd)])), (b1, .inl (cL, 108, .inr (.inl (lA re)))), (b2, .inl (cI, 36, .inl (nA pa))), (b3, .inl (cI, 288, .inl (nA wo))), (b4, .inl (cI, 36, .inl (nA wc))), (b5, .inl (cI, 36, .inl (nA (tNt ln wc wt))))]) := by
  refine en_of (cc := b_TS_nextCell) (Qc := qI D [(cI, .int), (cL, .long)] (fun r u => r = nI (tNx ln wo wc wt) - 1 ∧ u = [(a, .inr (3, [.ref b1, .ref b2, .ref b3, .ref b4, .ref b5, .int (nI pi), .long (lN op), .int (nI ln), .int (nI md), .int (nI fd)])), (b1, .inl (cL, 108, .inr (.inl (lA re)))), (b2, .inl (cI, 36, .inl (nA pa))), (b3, .inl (cI, 288, .inl (nA wo))), (b4, .inl (cI, 36, .inl (nA wc))), (b5, .inl (cI, 36, .inl (nA (tNt ln wc wt))))])) (by decide) rfl (Nat.le_of_ble_eq_true rfl) ?_
  intro p e s m below meth c A E hnm hP hD hS ls hl
  have hl : lv_has ls 3 [(0, .ref a)] := hl
  obtain ⟨hx, hb, hml, hown, hts, hr, hlk, hA, hK, hN⟩ := id E
  have ho : ∀ q ∈ Om, q.before _ s = true := fun q h => hts q (List.mem_cons_of_mem _ h)
  refine lv_aload_n hx hb d_TS_nextCell_0 rfl (lv_at hl 0 rfl) ?_
  refine va_get (D := D) (ci := 3) (v := .int (nI ln)) (C := R_TS) (T := F_TS) (N := 10) hx hb ho j_TS hown hK hP 0 rfl rfl 7 (by decide) (ho _ kf_TS_68) (fun _ h9 => h9) rfl d_TS_nextCell_1 ?_
  refine lv_iconst (v := nI 1) hx hb d_TS_nextCell_4 (by decide) ?_
  refine nr_isub hx hb d_TS_nextCell_5 (by omega) ?_
  refine lv_istore_n (lv' := [(1, .int (nI (ln - 1))), (0, .ref a)]) hx hb d_TS_nextCell_6 rfl hl (by decide) rfl (fun ls hl => ?_)
  refine lv_iload_n hx hb d_TS_nextCell_7 rfl (lv_at hl 0 rfl) ?_
  refine nr_if_lt (tgt := 17) hx hb d_TS_nextCell_8 (by decide) (by omega) ?_
  refine lv_iload_n hx hb d_TS_nextCell_11 rfl (lv_at hl 0 rfl) ?_
  refine lv_bipush (v := nI 36) hx hb d_TS_nextCell_12 (by decide) ?_
  refine nr_icmp_lt (tgt := 19) hx hb d_TS_nextCell_14 (by decide) (by omega) (by omega) (fun _ => ?_) (fun h9 => absurd h9 (by omega))
  refine lv_aload_n hx hb d_TS_nextCell_19 rfl (lv_at hl 1 rfl) ?_
  refine va_get (D := D) (ci := 3) (v := .ref b5) (C := R_TS) (T := F_TS) (N := 10) hx hb ho j_TS hown hK hP 0 rfl rfl 4 (by decide) (ho _ kf_TS_21) (fun _ h9 => h9) rfl d_TS_nextCell_20 ?_
  refine lv_iload_n hx hb d_TS_nextCell_23 rfl (lv_at hl 0 rfl) ?_
  have hw1 := hwt (ln - 1)
  have hw2 := hwc (ln - 1)
  refine nr_ialdN hx hb hK hP 5 0 rfl rfl (i := ln - 1) (by omega) (by decide) d_TS_nextCell_24 ?_
  refine lv_istore_n (lv' := [(2, .int (nI (wt (ln - 1)))), (1, .int (nI (ln - 1))), (0, .ref a)]) hx hb d_TS_nextCell_25 rfl hl (by decide) rfl (fun ls hl => ?_)
  refine lv_iload_n hx hb d_TS_nextCell_26 rfl (lv_at hl 0 rfl) ?_
  refine nr_if_lt (tgt := 46) hx hb d_TS_nextCell_27 (by decide) (by omega) ?_
  refine lv_iload_n hx hb d_TS_nextCell_30 rfl (lv_at hl 0 rfl) ?_
  refine lv_bipush (v := nI 8) hx hb d_TS_nextCell_31 (by decide) ?_
  refine nr_icmp_ge (tgt := 46) hx hb d_TS_nextCell_33 (by decide) (by omega) (by omega) (fun h_1 => ?_) (fun h_1 => ?_)
  · refine lv_iconst (v := (-1)) hx hb d_TS_nextCell_46 (by decide) ?_
    exact rt_i E hP hD hS ⟨by unfold tNx; rw [if_neg (by omega)]; decide, by unfold tNt; rw [if_neg (by omega)]⟩ d_TS_nextCell_47
  · refine lv_iload_n hx hb d_TS_nextCell_36 rfl (lv_at hl 0 rfl) ?_
    refine lv_aload_n hx hb d_TS_nextCell_37 rfl (lv_at hl 2 rfl) ?_
    refine va_get (D := D) (ci := 3) (v := .ref b4) (C := R_TS) (T := F_TS) (N := 10) hx hb ho j_TS hown hK hP 0 rfl rfl 3 (by decide) (ho _ kf_TS_18) (fun _ h9 => h9) rfl d_TS_nextCell_38 ?_
    refine lv_iload_n hx hb d_TS_nextCell_41 rfl (lv_at hl 1 rfl) ?_
    refine nr_ialdN hx hb hK hP 4 0 rfl rfl (i := ln - 1) (by omega) (by decide) d_TS_nextCell_42 ?_
    refine nr_icmp_lt (tgt := 48) hx hb d_TS_nextCell_43 (by decide) (by omega) (by omega) (fun h_2 => ?_) (fun h_2 => ?_)
    · refine lv_aload_n hx hb d_TS_nextCell_48 rfl (lv_at hl 2 rfl) ?_
      refine va_get (D := D) (ci := 3) (v := .ref b5) (C := R_TS) (T := F_TS) (N := 10) hx hb ho j_TS hown hK hP 0 rfl rfl 4 (by decide) (ho _ kf_TS_21) (fun _ h9 => h9) rfl d_TS_nextCell_49 ?_
      refine lv_iload_n hx hb d_TS_nextCell_52 rfl (lv_at hl 1 rfl) ?_
      refine lv_iload_n hx hb d_TS_nextCell_53 rfl (lv_at hl 0 rfl) ?_
      refine lv_iconst (v := nI 1) hx hb d_TS_nextCell_54 (by decide) ?_
      refine nr_iadd hx hb d_TS_nextCell_55 ?_
      refine nr_iast hx hb hK hP hD hS 5 0 rfl rfl (i := ln - 1) (x := (wt (ln - 1)) + 1) (by omega) (by decide) d_TS_nextCell_56 (fun H locs hP hD hS => ?_)
      have hP : va_P D classes [(a, .inr (3, [.ref b1, .ref b2, .ref b3, .ref b4, .ref b5, .int (nI pi), .long (lN op), .int (nI ln), .int (nI md), .int (nI fd)])), (b1, .inl (cL, 108, .inr (.inl (lA re)))), (b2, .inl (cI, 36, .inl (nA pa))), (b3, .inl (cI, 288, .inl (nA wo))), (b4, .inl (cI, 36, .inl (nA wc))), (b5, .inl (cI, 36, .inl (nA (va_up wt (ln - 1) ((wt (ln - 1)) + 1)))))] H := hP
      have hD : va_D A [(a, .inr (3, [.ref b1, .ref b2, .ref b3, .ref b4, .ref b5, .int (nI pi), .long (lN op), .int (nI ln), .int (nI md), .int (nI fd)])), (b1, .inl (cL, 108, .inr (.inl (lA re)))), (b2, .inl (cI, 36, .inl (nA pa))), (b3, .inl (cI, 288, .inl (nA wo))), (b4, .inl (cI, 36, .inl (nA wc))), (b5, .inl (cI, 36, .inl (nA (va_up wt (ln - 1) ((wt (ln - 1)) + 1)))))] := hD
      refine lv_aload_n hx hb d_TS_nextCell_57 rfl (lv_at hl 2 rfl) ?_
      refine va_get (D := D) (ci := 3) (v := .ref b3) (C := R_TS) (T := F_TS) (N := 10) hx hb ho j_TS hown hK hP 0 rfl rfl 2 (by decide) (ho _ kf_TS_15) (fun _ h9 => h9) rfl d_TS_nextCell_58 ?_
      refine lv_iload_n hx hb d_TS_nextCell_61 rfl (lv_at hl 1 rfl) ?_
      refine lv_bipush (v := nI 8) hx hb d_TS_nextCell_62 (by decide) ?_
      refine nr_imul hx hb d_TS_nextCell_64 ?_
      refine lv_iload_n hx hb d_TS_nextCell_65 rfl (lv_at hl 0 rfl) ?_
      refine nr_iadd hx hb d_TS_nextCell_66 ?_
      have hw3 := hwo ((ln - 1) * 8 + wt (ln - 1))
      refine nr_ialdN hx hb hK hP 3 0 rfl rfl (i := ((ln - 1) * 8) + (wt (ln - 1))) (by omega) (by decide) d_TS_nextCell_67 ?_
      refine lv_bipush (v := nI 36) hx hb d_TS_nextCell_68 (by decide) ?_
      refine nr_irem hx hb d_TS_nextCell_70 (by omega) (by omega) (by omega) ?_
      exact rt_i E hP hD hS ⟨by unfold tNx; rw [if_pos ⟨by omega, by omega⟩, nI_pred], by unfold tNt; rw [if_pos ⟨by omega, by omega⟩]⟩ d_TS_nextCell_71
    · refine lv_iconst (v := (-1)) hx hb d_TS_nextCell_46 (by decide) ?_
      exact rt_i E hP hD hS ⟨by unfold tNx; rw [if_neg (by omega)]; decide, by unfold tNt; rw [if_neg (by omega)]⟩ d_TS_nextCell_47
def tCl (pi ln : Nat) (re pa : Nat → Nat) : Nat := re (pi * 36 + pa (ln - 1)) / 2 ^ pa 0 % 2
set_option maxHeartbeats 1000000 in
set_option maxRecDepth 100000 in
theorem c_TS_closes (l : Launch) (D : va_G) (cI cL : ClassId) (a b1 b2 b3 b4 b5 pi op ln md fd : Nat) (re pa wo wc wt : Nat → Nat) (hln : 1 ≤ ln) (hl36 : ln ≤ 36) (hpa : ∀ k, pa k < 36) (hpi : pi < 3) (hre : ∀ i, re i < 2 ^ 36) : CI l y_TS_closes (.code y_TS_closes b_TS_closes 1 (some .boolean) :: Om) { frames := 2, cells := 0, slots := 0, locals := 42 } D [(a, .inr (3, [.ref b1, .ref b2, .ref b3, .ref b4, .ref b5, .int (nI pi), .long (lN op), .int (nI ln), .int (nI md), .int (nI fd)])), (b1, .inl (cL, 108, .inr (.inl (lA re)))), (b2, .inl (cI, 36, .inl (nA pa))), (b3, .inl (cI, 288, .inl (nA wo))), (b4, .inl (cI, 36, .inl (nA wc))), (b5, .inl (cI, 36, .inl (nA wt)))] [(cI, .int), (cL, .long)] [.ref a] (fun r u => r = nI (tCl pi ln re pa) ∧ u = [(a, .inr (3, [.ref b1, .ref b2, .ref b3, .ref b4, .ref b5, .int (nI pi), .long (lN op), .int (nI ln), .int (nI md), .int (nI fd)])), (b1, .inl (cL, 108, .inr (.inl (lA re)))), (b2, .inl (cI, 36, .inl (nA pa))), (b3, .inl (cI, 288, .inl (nA wo))), (b4, .inl (cI, 36, .inl (nA wc))), (b5, .inl (cI, 36, .inl (nA wt)))]) := by
  refine en_of (cc := b_TS_closes) (Qc := qI D [(cI, .int), (cL, .long)] (fun r u => r = nI (tCl pi ln re pa) ∧ u = [(a, .inr (3, [.ref b1, .ref b2, .ref b3, .ref b4, .ref b5, .int (nI pi), .long (lN op), .int (nI ln), .int (nI md), .int (nI fd)])), (b1, .inl (cL, 108, .inr (.inl (lA re)))), (b2, .inl (cI, 36, .inl (nA pa))), (b3, .inl (cI, 288, .inl (nA wo))), (b4, .inl (cI, 36, .inl (nA wc))), (b5, .inl (cI, 36, .inl (nA wt)))])) (by decide) rfl (Nat.le_of_ble_eq_true rfl) ?_
  intro p e s m below meth c A E hnm hP hD hS ls hl
  have hl : lv_has ls 1 [(0, .ref a)] := hl
  obtain ⟨hx, hb, hml, hown, hts, hr, hlk, hA, hK, hN⟩ := id E
  have ho : ∀ q ∈ Om, q.before _ s = true := fun q h => hts q (List.mem_cons_of_mem _ h)
  have hp1 := hpa (ln - 1)
  have hp0 := hpa 0
  have hr9 := hre (pi * 36 + pa (ln - 1))
  refine lv_aload_n hx hb d_TS_closes_0 rfl (lv_at hl 0 rfl) ?_
  refine va_get (D := D) (ci := 3) (v := .int (nI ln)) (C := R_TS) (T := F_TS) (N := 10) hx hb ho j_TS hown hK hP 0 rfl rfl 7 (by decide) (ho _ kf_TS_68) (fun _ h9 => h9) rfl d_TS_closes_1 ?_
  refine lv_iconst (v := nI 1) hx hb d_TS_closes_4 (by decide) ?_
  refine nr_icmp_lt (tgt := 17) hx hb d_TS_closes_5 (by decide) (by omega) (by omega) (fun h9 => absurd h9 (by omega)) (fun _ => ?_)
  refine lv_aload_n hx hb d_TS_closes_8 rfl (lv_at hl 0 rfl) ?_
  refine va_get (D := D) (ci := 3) (v := .int (nI ln)) (C := R_TS) (T := F_TS) (N := 10) hx hb ho j_TS hown hK hP 0 rfl rfl 7 (by decide) (ho _ kf_TS_68) (fun _ h9 => h9) rfl d_TS_closes_9 ?_
  refine lv_bipush (v := nI 36) hx hb d_TS_closes_12 (by decide) ?_
  refine nr_icmp_le (tgt := 19) hx hb d_TS_closes_14 (by decide) (by omega) (by omega) (fun _ => ?_) (fun h9 => absurd h9 (by omega))
  refine lv_aload_n hx hb d_TS_closes_19 rfl (lv_at hl 0 rfl) ?_
  refine lv_aload_n hx hb d_TS_closes_20 rfl (lv_at hl 0 rfl) ?_
  refine va_get (D := D) (ci := 3) (v := .int (nI pi)) (C := R_TS) (T := F_TS) (N := 10) hx hb ho j_TS hown hK hP 0 rfl rfl 5 (by decide) (ho _ kf_TS_61) (fun _ h9 => h9) rfl d_TS_closes_21 ?_
  refine lv_aload_n hx hb d_TS_closes_24 rfl (lv_at hl 0 rfl) ?_
  refine va_get (D := D) (ci := 3) (v := .ref b2) (C := R_TS) (T := F_TS) (N := 10) hx hb ho j_TS hown hK hP 0 rfl rfl 1 (by decide) (ho _ kf_TS_9) (fun _ h9 => h9) rfl d_TS_closes_25 ?_
  refine lv_aload_n hx hb d_TS_closes_28 rfl (lv_at hl 0 rfl) ?_
  refine va_get (D := D) (ci := 3) (v := .int (nI ln)) (C := R_TS) (T := F_TS) (N := 10) hx hb ho j_TS hown hK hP 0 rfl rfl 7 (by decide) (ho _ kf_TS_68) (fun _ h9 => h9) rfl d_TS_closes_29 ?_
  refine lv_iconst (v := nI 1) hx hb d_TS_closes_32 (by decide) ?_
  refine nr_isub hx hb d_TS_closes_33 (by omega) ?_
  refine nr_ialdN hx hb hK hP 2 0 rfl rfl (i := ln - 1) (by omega) (by decide) d_TS_closes_34 ?_
  refine af_l (wc := [(a, .inr (3, [.ref b1, .ref b2, .ref b3, .ref b4, .ref b5, .int (nI pi), .long (lN op), .int (nI ln), .int (nI md), .int (nI fd)])), (b1, .inl (cL, 108, .inr (.inl (lA re)))), (b2, .inl (cI, 36, .inl (nA pa))), (b3, .inl (cI, 288, .inl (nA wo))), (b4, .inl (cI, 36, .inl (nA wc))), (b5, .inl (cI, 36, .inl (nA wt)))]) (wr := []) (rest := []) [0, 1, 2, 3, 4, 5] [] hP hD hS hA rfl rfl (by decide) (by decide) (rn_V E (As := [.int (nI pi), .int (nI (pa (ln - 1)))]) m_TS_reach km_TS_86 (c_TS_reach l D cI cL a b1 b2 b3 b4 b5 pi op ln md fd re pa wo wc wt pi (pa (ln - 1)) (by omega) (by omega) _) ⟨rfl, rfl, by dsimp only; omega, by dsimp only; omega⟩ (hP.sub [0, 1, 2, 3, 4, 5] rfl) (hD.sub [0, 1, 2, 3, 4, 5] (by decide) rfl) (q0 := 0) (ci := 3) rfl rfl rfl hl.1 rfl (Nat.le_of_ble_eq_true rfl) ⟨Nat.le_of_ble_eq_true rfl, Nat.le_of_ble_eq_true rfl⟩ d_TS_closes_35) (fun r_2 u_1 H locs hw hP hD hS => ?_)
  obtain ⟨rfl, rfl⟩ := hw
  have hP : va_P D classes [(a, .inr (3, [.ref b1, .ref b2, .ref b3, .ref b4, .ref b5, .int (nI pi), .long (lN op), .int (nI ln), .int (nI md), .int (nI fd)])), (b1, .inl (cL, 108, .inr (.inl (lA re)))), (b2, .inl (cI, 36, .inl (nA pa))), (b3, .inl (cI, 288, .inl (nA wo))), (b4, .inl (cI, 36, .inl (nA wc))), (b5, .inl (cI, 36, .inl (nA wt)))] H := hP
  have hD : va_D A [(a, .inr (3, [.ref b1, .ref b2, .ref b3, .ref b4, .ref b5, .int (nI pi), .long (lN op), .int (nI ln), .int (nI md), .int (nI fd)])), (b1, .inl (cL, 108, .inr (.inl (lA re)))), (b2, .inl (cI, 36, .inl (nA pa))), (b3, .inl (cI, 288, .inl (nA wo))), (b4, .inl (cI, 36, .inl (nA wc))), (b5, .inl (cI, 36, .inl (nA wt)))] := hD
  refine lv_aload_n hx hb d_TS_closes_38 rfl (lv_at hl 0 rfl) ?_
  refine va_get (D := D) (ci := 3) (v := .ref b2) (C := R_TS) (T := F_TS) (N := 10) hx hb ho j_TS hown hK hP 0 rfl rfl 1 (by decide) (ho _ kf_TS_9) (fun _ h9 => h9) rfl d_TS_closes_39 ?_
  refine lv_iconst (v := nI 0) hx hb d_TS_closes_42 (by decide) ?_
  refine nr_ialdN hx hb hK hP 2 0 rfl rfl (i := 0) (by omega) (by decide) d_TS_closes_43 ?_
  refine nr_lushr hx hb d_TS_closes_44 (by omega) (by omega) ?_
  refine lv_lconst (v := lN 1) hx hb d_TS_closes_45 rfl ?_
  refine nr_land1 hx hb d_TS_closes_46 ?_
  refine lv_lconst (v := lN 0) hx hb d_TS_closes_47 rfl ?_
  refine nr_lcmp_eq (tgt := 56) hx hb d_TS_closes_48 d_TS_closes_49 (by decide) (by omega) (by omega) (fun h_3 => ?_) (fun h_3 => ?_)
  · refine lv_iconst (v := nI 0) hx hb d_TS_closes_56 (by decide) ?_
    exact rt_z E hP hD hS (by decide) ⟨by congr 1; unfold tCl; omega, rfl⟩ d_TS_closes_57
  · refine lv_iconst (v := nI 1) hx hb d_TS_closes_52 (by decide) ?_
    refine lv_goto (tgt := 57) hx hb d_TS_closes_53 (by decide) ?_
    exact rt_z E hP hD hS (by decide) ⟨by congr 1; unfold tCl; omega, rfl⟩ d_TS_closes_57
end
section
/-! TourSearch: the ways on, entering a cell, the run -/
theorem nI_min {a b : Nat} (ha : a < 2 ^ 31) (hb : b < 2 ^ 31) : (if nI b < nI a then nI b else nI a) = nI (min a b) := by
  by_cases h : b < a
  · rw [if_pos ((nI_ltI hb ha).mpr h), Nat.min_eq_right (by omega)]
  · rw [if_neg (fun q => h ((nI_ltI hb ha).mp q)), Nat.min_eq_left (by omega)]
theorem nI_max {a b : Nat} (ha : a < 2 ^ 31) (hb : b < 2 ^ 31) : (if nI a < nI b then nI b else nI a) = nI (max a b) := by
  by_cases h : a < b
  · rw [if_pos ((nI_ltI ha hb).mpr h), Nat.max_eq_right (by omega)]
  · rw [if_neg (fun q => h ((nI_ltI ha hb).mp q)), Nat.max_eq_left (by omega)]
/-- the key of a way on: how many ways on it has itself, then the cell -/
abbrev tKey (pi op : Nat) (re : Nat → Nat) (nx : Nat) : Nat := pop 64 (re (pi * 36 + nx) &&& op) * 36 + nx
def lW (pi op : Nat) (re : Nat → Nat) (fr many : Nat) : Nat → Nat → Nat → (Nat → Nat) → Nat → Nat
  | 0, _, _, wo => wo
  | m + 1, i, left, wo => if i < many then lW pi op re fr many m (i + 1) (left ^^^ lowb left) (iW (tKey pi op re (pop 64 (lowb left - 1))) fr (i + 1) (fr + i) wo) else wo
theorem lW_lt {pi op : Nat} {re : Nat → Nat} {fr many : Nat} : ∀ m i left wo, left < 2 ^ 36 → many ≤ i + pop 64 left → (∀ j, wo j < 4000) → ∀ j, lW pi op re fr many m i left wo j < 4000 := by
  intro m
  induction m with
  | zero => intro i left wo _ _ h; exact h
  | succ m ih =>
    intro i left wo h1 h2 h
    rw [lW]
    split
    · have h0 : 0 < left := by
        rcases Nat.eq_zero_or_pos left with q | q
        · rw [q, pop_zero] at h2; omega
        · exact q
      obtain ⟨k, q, hk, -, hlow, hpop, -, hlt, hpp⟩ := low_all h0 h1
      have hp := pop_le 64 (re (pi * 36 + pop 64 (lowb left - 1)) &&& op)
      refine ih _ _ _ hlt (by omega) (iW_lt (by unfold tKey; omega) _ _ _ h)
    · exact h
set_option maxHeartbeats 1000000 in
set_option maxRecDepth 100000 in
theorem L_TS_list {p : Program} {l : Launch} {e : Env} {s : State} {m : MethodId} {args : Array Value} {below : List Frame} {meth : Method} {c : Code} {A : Nat → Prop} {D : va_G} {cI cL : ClassId} {c0 : Cond} {post : Int32 → va_W → Prop} (a b1 b2 b3 b4 b5 pi op ln md fd : Nat) (re pa wc wt : Nat → Nat) (cc0 fr many : Nat) (hpi : pi < 3) (hop : op < 2 ^ 36) (hre : ∀ i, re i < 2 ^ 36) (hfr : fr + 8 ≤ 288) (hmany : many ≤ 8) (E : En p s m args meth c b_TS_listWaysOn 11 (c0 :: Om) R_TS (some .int) A D [(cI, .int), (cL, .long)]) : ∀ (m1 : Nat) (i : Nat) (left : Nat) (wo : Nat → Nat), i ≤ many → many < i + m1 → left < 2 ^ 36 → many ≤ i + pop 64 left → (∀ j, wo j < 4000) → post (nI many) [(a, .inr (3, [.ref b1, .ref b2, .ref b3, .ref b4, .ref b5, .int (nI pi), .long (lN op), .int (nI ln), .int (nI md), .int (nI fd)])), (b1, .inl (cL, 108, .inr (.inl (lA re)))), (b2, .inl (cI, 36, .inl (nA pa))), (b3, .inl (cI, 288, .inl (nA (lW pi op re fr many m1 i left wo)))), (b4, .inl (cI, 36, .inl (nA wc))), (b5, .inl (cI, 36, .inl (nA wt)))] → ∀ (H : Heap) (locs : List Loc), va_P D classes [(a, .inr (3, [.ref b1, .ref b2, .ref b3, .ref b4, .ref b5, .int (nI pi), .long (lN op), .int (nI ln), .int (nI md), .int (nI fd)])), (b1, .inl (cL, 108, .inr (.inl (lA re)))), (b2, .inl (cI, 36, .inl (nA pa))), (b3, .inl (cI, 288, .inl (nA wo))), (b4, .inl (cI, 36, .inl (nA wc))), (b5, .inl (cI, 36, .inl (nA wt)))] H → va_D A [(a, .inr (3, [.ref b1, .ref b2, .ref b3, .ref b4, .ref b5, .int (nI pi), .long (lN op), .int (nI ln), .int (nI md), .int (nI fd)])), (b1, .inl (cL, 108, .inr (.inl (lA re)))), (b2, .inl (cI, 36, .inl (nA pa))), (b3, .inl (cI, 288, .inl (nA wo))), (b4, .inl (cI, 36, .inl (nA wc))), (b5, .inl (cI, 36, .inl (nA wt)))] → va_S A s.heap H locs → ∀ ls : Array Slot, lv_has ls 11 [(0, .ref a), (1, .int (nI cc0)), (2, .int (nI fr)), (3, .long (lN left)), (5, .int (nI many)), (6, .int (nI i))] → W p l e { frames := 2, cells := 0, slots := 0, locals := 42 } s m args below meth c H locs 0 0 (MQ below (qI D [(cI, .int), (cL, .long)] post A) args s 0 0 A) (F0 m 29 ls []) := by
  obtain ⟨hx, hb, hml, hown, hts, hr, hlk, hA, hK, hN⟩ := id E
  have ho : ∀ q ∈ Om, q.before _ s = true := fun q h => hts q (List.mem_cons_of_mem _ h)
  intro m1
  induction m1 with
  | zero =>
    intro i left wo h1 h2 hleft hpl hwo hq
    exact absurd h2 (by omega)
  | succ m1 ih =>
    intro i left wo h1 h2 hleft hpl hwo hq H locs hP hD hS ls hl
    refine lv_iload hx hb d_TS_listWaysOn_29 (lv_at hl 5 rfl) ?_
    refine lv_iload hx hb d_TS_listWaysOn_31 (lv_at hl 4 rfl) ?_
    refine nr_icmp_ge (tgt := 97) hx hb d_TS_listWaysOn_33 (by decide) (by omega) (by omega) (fun h_1 => ?_) (fun h_1 => ?_)
    · refine lv_iload hx hb d_TS_listWaysOn_97 (lv_at hl 4 rfl) ?_
      exact rt_i E hP hD hS (by rw [lW, if_neg (by omega)] at hq; exact hq) d_TS_listWaysOn_99
    · have hl0 : 0 < left := by
        rcases Nat.eq_zero_or_pos left with q | q
        · rw [q, pop_zero] at hpl; omega
        · exact q
      obtain ⟨kk, qq, hkk, -, hlow, hpop, -, hlt, hpp⟩ := low_all hl0 hleft
      have hl1 : 1 ≤ lowb left := by rw [hlow]; exact Nat.pow_pos (by decide)
      have hl2 : lowb left ≤ left := Nat.and_le_left
      have hrr := hre (pi * 36 + pop 64 (lowb left - 1))
      have ha9 : re (pi * 36 + pop 64 (lowb left - 1)) &&& op < 2 ^ 36 := Nat.and_lt_two_pow _ hop
      have hp9 := pop_le 64 (re (pi * 36 + pop 64 (lowb left - 1)) &&& op)
      refine lv_lload_n hx hb d_TS_listWaysOn_36 rfl (lv_at hl 3 rfl) ?_
      refine lv_lload_n hx hb d_TS_listWaysOn_37 rfl (lv_at hl 3 rfl) ?_
      refine nr_lneg hx hb d_TS_listWaysOn_38 (by omega) ?_
      refine nr_land hx hb d_TS_listWaysOn_39 ?_
      refine lv_lstore (lv' := [(7, .long (lN (lowb left))), (0, .ref a), (1, .int (nI cc0)), (2, .int (nI fr)), (3, .long (lN left)), (5, .int (nI many)), (6, .int (nI i))]) hx hb d_TS_listWaysOn_40 hl (by decide) rfl (fun ls hl => ?_)
      refine lv_lload_n hx hb d_TS_listWaysOn_42 rfl (lv_at hl 4 rfl) ?_
      refine lv_lload hx hb d_TS_listWaysOn_43 (lv_at hl 0 rfl) ?_
      refine nr_lxor hx hb d_TS_listWaysOn_45 ?_
      refine lv_lstore_n (lv' := [(3, .long (lN (left ^^^ (lowb left)))), (7, .long (lN (lowb left))), (0, .ref a), (1, .int (nI cc0)), (2, .int (nI fr)), (5, .int (nI many)), (6, .int (nI i))]) hx hb d_TS_listWaysOn_46 rfl hl (by decide) rfl (fun ls hl => ?_)
      refine lv_lload hx hb d_TS_listWaysOn_47 (lv_at hl 1 rfl) ?_
      refine lv_lconst (v := lN 1) hx hb d_TS_listWaysOn_49 rfl ?_
      refine nr_lsub hx hb d_TS_listWaysOn_50 (by omega) ?_
      refine af_i (wc := []) (wr := [(a, .inr (3, [.ref b1, .ref b2, .ref b3, .ref b4, .ref b5, .int (nI pi), .long (lN op), .int (nI ln), .int (nI md), .int (nI fd)])), (b1, .inl (cL, 108, .inr (.inl (lA re)))), (b2, .inl (cI, 36, .inl (nA pa))), (b3, .inl (cI, 288, .inl (nA wo))), (b4, .inl (cI, 36, .inl (nA wc))), (b5, .inl (cI, 36, .inl (nA wt)))]) (rest := []) [] [0, 1, 2, 3, 4, 5] hP hD hS hA rfl rfl (by decide) (by decide) (rn_S E (As := [.long (lN ((lowb left) - 1))]) m_LG_bitCount km_TS_95 (c_LG_bitCount l D cI cL ((lowb left) - 1) (by omega) _) ⟨rfl, rfl, Nat.le_of_ble_eq_true rfl, Nat.le_of_ble_eq_true rfl⟩ (hP.sub [] rfl) (hD.sub [] (by decide) rfl) rfl hl.1 rfl (Nat.le_of_ble_eq_true rfl) ⟨Nat.le_of_ble_eq_true rfl, Nat.le_of_ble_eq_true rfl⟩ d_TS_listWaysOn_51) (fun r_3 u_2 H locs hw hP hD hS => ?_)
      obtain ⟨rfl, rfl⟩ := hw
      have hP : va_P D classes [(a, .inr (3, [.ref b1, .ref b2, .ref b3, .ref b4, .ref b5, .int (nI pi), .long (lN op), .int (nI ln), .int (nI md), .int (nI fd)])), (b1, .inl (cL, 108, .inr (.inl (lA re)))), (b2, .inl (cI, 36, .inl (nA pa))), (b3, .inl (cI, 288, .inl (nA wo))), (b4, .inl (cI, 36, .inl (nA wc))), (b5, .inl (cI, 36, .inl (nA wt)))] H := hP
      have hD : va_D A [(a, .inr (3, [.ref b1, .ref b2, .ref b3, .ref b4, .ref b5, .int (nI pi), .long (lN op), .int (nI ln), .int (nI md), .int (nI fd)])), (b1, .inl (cL, 108, .inr (.inl (lA re)))), (b2, .inl (cI, 36, .inl (nA pa))), (b3, .inl (cI, 288, .inl (nA wo))), (b4, .inl (cI, 36, .inl (nA wc))), (b5, .inl (cI, 36, .inl (nA wt)))] := hD
      refine lv_istore (lv' := [(9, .int (nI (pop 64 ((lowb left) - 1)))), (3, .long (lN (left ^^^ (lowb left)))), (7, .long (lN (lowb left))), (0, .ref a), (1, .int (nI cc0)), (2, .int (nI fr)), (5, .int (nI many)), (6, .int (nI i))]) hx hb d_TS_listWaysOn_54 hl (by decide) rfl (fun ls hl => ?_)
      refine lv_aload_n hx hb d_TS_listWaysOn_56 rfl (lv_at hl 3 rfl) ?_
      refine lv_aload_n hx hb d_TS_listWaysOn_57 rfl (lv_at hl 3 rfl) ?_
      refine va_get (D := D) (ci := 3) (v := .int (nI pi)) (C := R_TS) (T := F_TS) (N := 10) hx hb ho j_TS hown hK hP 0 rfl rfl 5 (by decide) (ho _ kf_TS_61) (fun _ h9 => h9) rfl d_TS_listWaysOn_58 ?_
      refine lv_iload hx hb d_TS_listWaysOn_61 (lv_at hl 0 rfl) ?_
      refine af_l (wc := [(a, .inr (3, [.ref b1, .ref b2, .ref b3, .ref b4, .ref b5, .int (nI pi), .long (lN op), .int (nI ln), .int (nI md), .int (nI fd)])), (b1, .inl (cL, 108, .inr (.inl (lA re)))), (b2, .inl (cI, 36, .inl (nA pa))), (b3, .inl (cI, 288, .inl (nA wo))), (b4, .inl (cI, 36, .inl (nA wc))), (b5, .inl (cI, 36, .inl (nA wt)))]) (wr := []) (rest := []) [0, 1, 2, 3, 4, 5] [] hP hD hS hA rfl rfl (by decide) (by decide) (rn_V E (As := [.int (nI pi), .int (nI (pop 64 ((lowb left) - 1)))]) m_TS_reach km_TS_86 (c_TS_reach l D cI cL a b1 b2 b3 b4 b5 pi op ln md fd re pa wo wc wt pi (pop 64 ((lowb left) - 1)) (by omega) (by omega) _) ⟨rfl, rfl, by dsimp only; omega, by dsimp only; omega⟩ (hP.sub [0, 1, 2, 3, 4, 5] rfl) (hD.sub [0, 1, 2, 3, 4, 5] (by decide) rfl) (q0 := 0) (ci := 3) rfl rfl rfl hl.1 rfl (Nat.le_of_ble_eq_true rfl) ⟨Nat.le_of_ble_eq_true rfl, Nat.le_of_ble_eq_true rfl⟩ d_TS_listWaysOn_63) (fun r_5 u_4 H locs hw hP hD hS => ?_)
      obtain ⟨rfl, rfl⟩ := hw
      have hP : va_P D classes [(a, .inr (3, [.ref b1, .ref b2, .ref b3, .ref b4, .ref b5, .int (nI pi), .long (lN op), .int (nI ln), .int (nI md), .int (nI fd)])), (b1, .inl (cL, 108, .inr (.inl (lA re)))), (b2, .inl (cI, 36, .inl (nA pa))), (b3, .inl (cI, 288, .inl (nA wo))), (b4, .inl (cI, 36, .inl (nA wc))), (b5, .inl (cI, 36, .inl (nA wt)))] H := hP
      have hD : va_D A [(a, .inr (3, [.ref b1, .ref b2, .ref b3, .ref b4, .ref b5, .int (nI pi), .long (lN op), .int (nI ln), .int (nI md), .int (nI fd)])), (b1, .inl (cL, 108, .inr (.inl (lA re)))), (b2, .inl (cI, 36, .inl (nA pa))), (b3, .inl (cI, 288, .inl (nA wo))), (b4, .inl (cI, 36, .inl (nA wc))), (b5, .inl (cI, 36, .inl (nA wt)))] := hD
      refine lv_aload_n hx hb d_TS_listWaysOn_66 rfl (lv_at hl 3 rfl) ?_
      refine va_get (D := D) (ci := 3) (v := .long (lN op)) (C := R_TS) (T := F_TS) (N := 10) hx hb ho j_TS hown hK hP 0 rfl rfl 6 (by decide) (ho _ kf_TS_64) (fun _ h9 => h9) rfl d_TS_listWaysOn_67 ?_
      refine nr_land hx hb d_TS_listWaysOn_70 ?_
      refine af_i (wc := []) (wr := [(a, .inr (3, [.ref b1, .ref b2, .ref b3, .ref b4, .ref b5, .int (nI pi), .long (lN op), .int (nI ln), .int (nI md), .int (nI fd)])), (b1, .inl (cL, 108, .inr (.inl (lA re)))), (b2, .inl (cI, 36, .inl (nA pa))), (b3, .inl (cI, 288, .inl (nA wo))), (b4, .inl (cI, 36, .inl (nA wc))), (b5, .inl (cI, 36, .inl (nA wt)))]) (rest := []) [] [0, 1, 2, 3, 4, 5] hP hD hS hA rfl rfl (by decide) (by decide) (rn_S E (As := [.long (lN ((re (pi * 36 + (pop 64 ((lowb left) - 1)))) &&& op))]) m_LG_bitCount km_TS_95 (c_LG_bitCount l D cI cL ((re (pi * 36 + (pop 64 ((lowb left) - 1)))) &&& op) (by omega) _) ⟨rfl, rfl, Nat.le_of_ble_eq_true rfl, Nat.le_of_ble_eq_true rfl⟩ (hP.sub [] rfl) (hD.sub [] (by decide) rfl) rfl hl.1 rfl (Nat.le_of_ble_eq_true rfl) ⟨Nat.le_of_ble_eq_true rfl, Nat.le_of_ble_eq_true rfl⟩ d_TS_listWaysOn_71) (fun r_7 u_6 H locs hw hP hD hS => ?_)
      obtain ⟨rfl, rfl⟩ := hw
      have hP : va_P D classes [(a, .inr (3, [.ref b1, .ref b2, .ref b3, .ref b4, .ref b5, .int (nI pi), .long (lN op), .int (nI ln), .int (nI md), .int (nI fd)])), (b1, .inl (cL, 108, .inr (.inl (lA re)))), (b2, .inl (cI, 36, .inl (nA pa))), (b3, .inl (cI, 288, .inl (nA wo))), (b4, .inl (cI, 36, .inl (nA wc))), (b5, .inl (cI, 36, .inl (nA wt)))] H := hP
      have hD : va_D A [(a, .inr (3, [.ref b1, .ref b2, .ref b3, .ref b4, .ref b5, .int (nI pi), .long (lN op), .int (nI ln), .int (nI md), .int (nI fd)])), (b1, .inl (cL, 108, .inr (.inl (lA re)))), (b2, .inl (cI, 36, .inl (nA pa))), (b3, .inl (cI, 288, .inl (nA wo))), (b4, .inl (cI, 36, .inl (nA wc))), (b5, .inl (cI, 36, .inl (nA wt)))] := hD
      refine lv_bipush (v := nI 36) hx hb d_TS_listWaysOn_74 (by decide) ?_
      refine nr_imul hx hb d_TS_listWaysOn_76 ?_
      refine lv_iload hx hb d_TS_listWaysOn_77 (lv_at hl 0 rfl) ?_
      refine nr_iadd hx hb d_TS_listWaysOn_79 ?_
      refine lv_istore (lv' := [(10, .int (nI (((pop 64 ((re (pi * 36 + (pop 64 ((lowb left) - 1)))) &&& op)) * 36) + (pop 64 ((lowb left) - 1))))), (9, .int (nI (pop 64 ((lowb left) - 1)))), (3, .long (lN (left ^^^ (lowb left)))), (7, .long (lN (lowb left))), (0, .ref a), (1, .int (nI cc0)), (2, .int (nI fr)), (5, .int (nI many)), (6, .int (nI i))]) hx hb d_TS_listWaysOn_80 hl (by decide) rfl (fun ls hl => ?_)
      refine lv_aload_n hx hb d_TS_listWaysOn_82 rfl (lv_at hl 4 rfl) ?_
      refine lv_iload hx hb d_TS_listWaysOn_83 (lv_at hl 0 rfl) ?_
      refine lv_iload_n hx hb d_TS_listWaysOn_85 rfl (lv_at hl 6 rfl) ?_
      refine lv_iload hx hb d_TS_listWaysOn_86 (lv_at hl 8 rfl) ?_
      refine af_v (wc := [(a, .inr (3, [.ref b1, .ref b2, .ref b3, .ref b4, .ref b5, .int (nI pi), .long (lN op), .int (nI ln), .int (nI md), .int (nI fd)])), (b1, .inl (cL, 108, .inr (.inl (lA re)))), (b2, .inl (cI, 36, .inl (nA pa))), (b3, .inl (cI, 288, .inl (nA wo))), (b4, .inl (cI, 36, .inl (nA wc))), (b5, .inl (cI, 36, .inl (nA wt)))]) (wr := []) (rest := []) [0, 1, 2, 3, 4, 5] [] hP hD hS hA rfl rfl (by decide) (by decide) (rn_V E (As := [.int (nI (((pop 64 ((re (pi * 36 + (pop 64 ((lowb left) - 1)))) &&& op)) * 36) + (pop 64 ((lowb left) - 1)))), .int (nI fr), .int (nI i)]) m_TS_insertWayOn km_TS_104 (c_TS_insert l D cI cL a b1 b2 b3 b4 b5 pi op ln md fd re pa wo wc wt (((pop 64 ((re (pi * 36 + (pop 64 ((lowb left) - 1)))) &&& op)) * 36) + (pop 64 ((lowb left) - 1))) fr i (by omega) (by omega) hwo _) ⟨rfl, rfl, by dsimp only; omega, by dsimp only; omega⟩ (hP.sub [0, 1, 2, 3, 4, 5] rfl) (hD.sub [0, 1, 2, 3, 4, 5] (by decide) rfl) (q0 := 0) (ci := 3) rfl rfl rfl hl.1 rfl (Nat.le_of_ble_eq_true rfl) ⟨Nat.le_of_ble_eq_true rfl, Nat.le_of_ble_eq_true rfl⟩ d_TS_listWaysOn_88) (fun u_8 H locs hw hP hD hS => ?_)
      obtain rfl := hw
      have hP : va_P D classes [(a, .inr (3, [.ref b1, .ref b2, .ref b3, .ref b4, .ref b5, .int (nI pi), .long (lN op), .int (nI ln), .int (nI md), .int (nI fd)])), (b1, .inl (cL, 108, .inr (.inl (lA re)))), (b2, .inl (cI, 36, .inl (nA pa))), (b3, .inl (cI, 288, .inl (nA (iW (((pop 64 ((re (pi * 36 + (pop 64 ((lowb left) - 1)))) &&& op)) * 36) + (pop 64 ((lowb left) - 1))) fr (i + 1) (fr + i) wo)))), (b4, .inl (cI, 36, .inl (nA wc))), (b5, .inl (cI, 36, .inl (nA wt)))] H := hP
      have hD : va_D A [(a, .inr (3, [.ref b1, .ref b2, .ref b3, .ref b4, .ref b5, .int (nI pi), .long (lN op), .int (nI ln), .int (nI md), .int (nI fd)])), (b1, .inl (cL, 108, .inr (.inl (lA re)))), (b2, .inl (cI, 36, .inl (nA pa))), (b3, .inl (cI, 288, .inl (nA (iW (((pop 64 ((re (pi * 36 + (pop 64 ((lowb left) - 1)))) &&& op)) * 36) + (pop 64 ((lowb left) - 1))) fr (i + 1) (fr + i) wo)))), (b4, .inl (cI, 36, .inl (nA wc))), (b5, .inl (cI, 36, .inl (nA wt)))] := hD
      refine nr_iinc (lv' := [(6, .int (nI (i + 1))), (10, .int (nI (((pop 64 ((re (pi * 36 + (pop 64 ((lowb left) - 1)))) &&& op)) * 36) + (pop 64 ((lowb left) - 1))))), (9, .int (nI (pop 64 ((lowb left) - 1)))), (3, .long (lN (left ^^^ (lowb left)))), (7, .long (lN (lowb left))), (0, .ref a), (1, .int (nI cc0)), (2, .int (nI fr)), (5, .int (nI many))]) hx hb d_TS_listWaysOn_91 hl (k := 8) rfl (by decide) rfl (fun ls hl => ?_)
      refine lv_goto (tgt := 29) hx hb d_TS_listWaysOn_94 (by decide) ?_
      exact ih (i + 1) (left ^^^ lowb left) (iW (((pop 64 ((re (pi * 36 + (pop 64 ((lowb left) - 1)))) &&& op)) * 36) + (pop 64 ((lowb left) - 1))) fr (i + 1) (fr + i) wo) (by omega) (by omega) hlt (by omega) (iW_lt (by omega) _ _ _ hwo) (by rw [lW, if_pos (by omega)] at hq; exact hq) _ _ hP hD hS ls (lv_sub hl [5, 6, 7, 3, 8, 0] rfl)
abbrev tLf (pi op : Nat) (re : Nat → Nat) (c0 : Nat) : Nat := re (pi * 36 + c0) &&& op
abbrev tMn (pi op : Nat) (re : Nat → Nat) (c0 : Nat) : Nat := min 8 (pop 64 (tLf pi op re c0))
def tLs (pi op : Nat) (re : Nat → Nat) (fr c0 : Nat) (wo : Nat → Nat) : Nat → Nat := lW pi op re fr (tMn pi op re c0) 9 0 (tLf pi op re c0) wo
set_option maxHeartbeats 1000000 in
set_option maxRecDepth 100000 in
theorem c_TS_list (l : Launch) (D : va_G) (cI cL : ClassId) (a b1 b2 b3 b4 b5 pi op ln md fd : Nat) (re pa wo wc wt : Nat → Nat) (c0 fr : Nat) (hc : c0 < 36) (hpi : pi < 3) (hop : op < 2 ^ 36) (hre : ∀ i, re i < 2 ^ 36) (hfr : fr + 8 ≤ 288) (hwo : ∀ j, wo j < 4000) : CI l y_TS_listWaysOn (.code y_TS_listWaysOn b_TS_listWaysOn 11 (some .int) :: Om) { frames := 2, cells := 0, slots := 0, locals := 42 } D [(a, .inr (3, [.ref b1, .ref b2, .ref b3, .ref b4, .ref b5, .int (nI pi), .long (lN op), .int (nI ln), .int (nI md), .int (nI fd)])), (b1, .inl (cL, 108, .inr (.inl (lA re)))), (b2, .inl (cI, 36, .inl (nA pa))), (b3, .inl (cI, 288, .inl (nA wo))), (b4, .inl (cI, 36, .inl (nA wc))), (b5, .inl (cI, 36, .inl (nA wt)))] [(cI, .int), (cL, .long)] [.ref a, .int (nI c0), .int (nI fr)] (fun r u => r = nI (tMn pi op re c0) ∧ u = [(a, .inr (3, [.ref b1, .ref b2, .ref b3, .ref b4, .ref b5, .int (nI pi), .long (lN op), .int (nI ln), .int (nI md), .int (nI fd)])), (b1, .inl (cL, 108, .inr (.inl (lA re)))), (b2, .inl (cI, 36, .inl (nA pa))), (b3, .inl (cI, 288, .inl (nA (tLs pi op re fr c0 wo)))), (b4, .inl (cI, 36, .inl (nA wc))), (b5, .inl (cI, 36, .inl (nA wt)))]) := by
  refine en_of (cc := b_TS_listWaysOn) (Qc := qI D [(cI, .int), (cL, .long)] (fun r u => r = nI (tMn pi op re c0) ∧ u = [(a, .inr (3, [.ref b1, .ref b2, .ref b3, .ref b4, .ref b5, .int (nI pi), .long (lN op), .int (nI ln), .int (nI md), .int (nI fd)])), (b1, .inl (cL, 108, .inr (.inl (lA re)))), (b2, .inl (cI, 36, .inl (nA pa))), (b3, .inl (cI, 288, .inl (nA (tLs pi op re fr c0 wo)))), (b4, .inl (cI, 36, .inl (nA wc))), (b5, .inl (cI, 36, .inl (nA wt)))])) (by decide) rfl (Nat.le_of_ble_eq_true rfl) ?_
  intro p e s m below meth c A E hnm hP hD hS ls hl
  have hl : lv_has ls 11 [(0, .ref a), (1, .int (nI c0)), (2, .int (nI fr))] := hl
  obtain ⟨hx, hb, hml, hown, hts, hr, hlk, hA, hK, hN⟩ := id E
  have ho : ∀ q ∈ Om, q.before _ s = true := fun q h => hts q (List.mem_cons_of_mem _ h)
  have ha8 : re (pi * 36 + c0) &&& op < 2 ^ 36 := Nat.and_lt_two_pow _ hop
  have hp8 := pop_le 64 (re (pi * 36 + c0) &&& op)
  have hmn : tMn pi op re c0 = min 8 (pop 64 (re (pi * 36 + c0) &&& op)) := rfl
  refine lv_aload_n hx hb d_TS_listWaysOn_0 rfl (lv_at hl 0 rfl) ?_
  refine lv_aload_n hx hb d_TS_listWaysOn_1 rfl (lv_at hl 0 rfl) ?_
  refine va_get (D := D) (ci := 3) (v := .int (nI pi)) (C := R_TS) (T := F_TS) (N := 10) hx hb ho j_TS hown hK hP 0 rfl rfl 5 (by decide) (ho _ kf_TS_61) (fun _ h9 => h9) rfl d_TS_listWaysOn_2 ?_
  refine lv_iload_n hx hb d_TS_listWaysOn_5 rfl (lv_at hl 1 rfl) ?_
  refine af_l (wc := [(a, .inr (3, [.ref b1, .ref b2, .ref b3, .ref b4, .ref b5, .int (nI pi), .long (lN op), .int (nI ln), .int (nI md), .int (nI fd)])), (b1, .inl (cL, 108, .inr (.inl (lA re)))), (b2, .inl (cI, 36, .inl (nA pa))), (b3, .inl (cI, 288, .inl (nA wo))), (b4, .inl (cI, 36, .inl (nA wc))), (b5, .inl (cI, 36, .inl (nA wt)))]) (wr := []) (rest := []) [0, 1, 2, 3, 4, 5] [] hP hD hS hA rfl rfl (by decide) (by decide) (rn_V E (As := [.int (nI pi), .int (nI c0)]) m_TS_reach km_TS_86 (c_TS_reach l D cI cL a b1 b2 b3 b4 b5 pi op ln md fd re pa wo wc wt pi c0 (by omega) (by omega) _) ⟨rfl, rfl, by dsimp only; omega, by dsimp only; omega⟩ (hP.sub [0, 1, 2, 3, 4, 5] rfl) (hD.sub [0, 1, 2, 3, 4, 5] (by decide) rfl) (q0 := 0) (ci := 3) rfl rfl rfl hl.1 rfl (Nat.le_of_ble_eq_true rfl) ⟨Nat.le_of_ble_eq_true rfl, Nat.le_of_ble_eq_true rfl⟩ d_TS_listWaysOn_6) (fun r_2 u_1 H locs hw hP hD hS => ?_)
  obtain ⟨rfl, rfl⟩ := hw
  have hP : va_P D classes [(a, .inr (3, [.ref b1, .ref b2, .ref b3, .ref b4, .ref b5, .int (nI pi), .long (lN op), .int (nI ln), .int (nI md), .int (nI fd)])), (b1, .inl (cL, 108, .inr (.inl (lA re)))), (b2, .inl (cI, 36, .inl (nA pa))), (b3, .inl (cI, 288, .inl (nA wo))), (b4, .inl (cI, 36, .inl (nA wc))), (b5, .inl (cI, 36, .inl (nA wt)))] H := hP
  have hD : va_D A [(a, .inr (3, [.ref b1, .ref b2, .ref b3, .ref b4, .ref b5, .int (nI pi), .long (lN op), .int (nI ln), .int (nI md), .int (nI fd)])), (b1, .inl (cL, 108, .inr (.inl (lA re)))), (b2, .inl (cI, 36, .inl (nA pa))), (b3, .inl (cI, 288, .inl (nA wo))), (b4, .inl (cI, 36, .inl (nA wc))), (b5, .inl (cI, 36, .inl (nA wt)))] := hD
  refine lv_aload_n hx hb d_TS_listWaysOn_9 rfl (lv_at hl 0 rfl) ?_
  refine va_get (D := D) (ci := 3) (v := .long (lN op)) (C := R_TS) (T := F_TS) (N := 10) hx hb ho j_TS hown hK hP 0 rfl rfl 6 (by decide) (ho _ kf_TS_64) (fun _ h9 => h9) rfl d_TS_listWaysOn_10 ?_
  refine nr_land hx hb d_TS_listWaysOn_13 ?_
  refine lv_lstore_n (lv' := [(3, .long (lN ((re (pi * 36 + c0)) &&& op))), (0, .ref a), (1, .int (nI c0)), (2, .int (nI fr))]) hx hb d_TS_listWaysOn_14 rfl hl (by decide) rfl (fun ls hl => ?_)
  refine lv_bipush (v := nI 8) hx hb d_TS_listWaysOn_15 (by decide) ?_
  refine lv_lload_n hx hb d_TS_listWaysOn_17 rfl (lv_at hl 0 rfl) ?_
  refine af_i (wc := []) (wr := [(a, .inr (3, [.ref b1, .ref b2, .ref b3, .ref b4, .ref b5, .int (nI pi), .long (lN op), .int (nI ln), .int (nI md), .int (nI fd)])), (b1, .inl (cL, 108, .inr (.inl (lA re)))), (b2, .inl (cI, 36, .inl (nA pa))), (b3, .inl (cI, 288, .inl (nA wo))), (b4, .inl (cI, 36, .inl (nA wc))), (b5, .inl (cI, 36, .inl (nA wt)))]) (rest := [.int (nI 8)]) [] [0, 1, 2, 3, 4, 5] hP hD hS hA rfl rfl (by decide) (by decide) (rn_S E (As := [.long (lN ((re (pi * 36 + c0)) &&& op))]) m_LG_bitCount km_TS_95 (c_LG_bitCount l D cI cL ((re (pi * 36 + c0)) &&& op) (by omega) _) ⟨rfl, rfl, Nat.le_of_ble_eq_true rfl, Nat.le_of_ble_eq_true rfl⟩ (hP.sub [] rfl) (hD.sub [] (by decide) rfl) rfl hl.1 rfl (Nat.le_of_ble_eq_true rfl) ⟨Nat.le_of_ble_eq_true rfl, Nat.le_of_ble_eq_true rfl⟩ d_TS_listWaysOn_18) (fun r_4 u_3 H locs hw hP hD hS => ?_)
  obtain ⟨rfl, rfl⟩ := hw
  have hP : va_P D classes [(a, .inr (3, [.ref b1, .ref b2, .ref b3, .ref b4, .ref b5, .int (nI pi), .long (lN op), .int (nI ln), .int (nI md), .int (nI fd)])), (b1, .inl (cL, 108, .inr (.inl (lA re)))), (b2, .inl (cI, 36, .inl (nA pa))), (b3, .inl (cI, 288, .inl (nA wo))), (b4, .inl (cI, 36, .inl (nA wc))), (b5, .inl (cI, 36, .inl (nA wt)))] H := hP
  have hD : va_D A [(a, .inr (3, [.ref b1, .ref b2, .ref b3, .ref b4, .ref b5, .int (nI pi), .long (lN op), .int (nI ln), .int (nI md), .int (nI fd)])), (b1, .inl (cL, 108, .inr (.inl (lA re)))), (b2, .inl (cI, 36, .inl (nA pa))), (b3, .inl (cI, 288, .inl (nA wo))), (b4, .inl (cI, 36, .inl (nA wc))), (b5, .inl (cI, 36, .inl (nA wt)))] := hD
  refine va_mmin hx hb (hml.trans hl.1.symm) hown (ho _ km_TS_101) (ho _ kq_min.1) (ho _ kz_MT) (ho _ kq_min.2) (Nat.le_of_ble_eq_true rfl) (Nat.le_of_ble_eq_true rfl) (Nat.zero_le _) (Nat.zero_le _) d_TS_listWaysOn_21 ?_
  rw [nI_min (a := 8) (b := pop 64 ((re (pi * 36 + c0)) &&& op)) (by omega) (by omega)]
  refine lv_istore (lv' := [(5, .int (nI (min 8 (pop 64 ((re (pi * 36 + c0)) &&& op))))), (3, .long (lN ((re (pi * 36 + c0)) &&& op))), (0, .ref a), (1, .int (nI c0)), (2, .int (nI fr))]) hx hb d_TS_listWaysOn_24 hl (by decide) rfl (fun ls hl => ?_)
  refine lv_iconst (v := nI 0) hx hb d_TS_listWaysOn_26 (by decide) ?_
  refine lv_istore (lv' := [(6, .int (nI 0)), (5, .int (nI (min 8 (pop 64 ((re (pi * 36 + c0)) &&& op))))), (3, .long (lN ((re (pi * 36 + c0)) &&& op))), (0, .ref a), (1, .int (nI c0)), (2, .int (nI fr))]) hx hb d_TS_listWaysOn_27 hl (by decide) rfl (fun ls hl => ?_)
  exact L_TS_list a b1 b2 b3 b4 b5 pi op ln md fd re pa wc wt c0 fr (tMn pi op re c0) hpi hop hre hfr (by omega) E 9 0 (re (pi * 36 + c0) &&& op) wo (by omega) (by omega) ha8 (by omega) hwo ⟨rfl, rfl⟩ _ _ hP hD hS ls (lv_sub hl [3, 4, 5, 2, 1, 0] rfl)
abbrev T7 : Type := (Nat → Nat) × (Nat → Nat) × (Nat → Nat) × (Nat → Nat) × Nat × Nat × Nat
abbrev tOp (op c0 : Nat) : Nat := op &&& (2 ^ c0 ^^^ 18446744073709551615)
/-- a cell is come to -/
def tEn (pi : Nat) (re : Nat → Nat) (c0 : Nat) (st : T7) : T7 := if st.2.2.2.2.2.1 < 36 then (va_up st.1 st.2.2.2.2.2.1 c0, tLs pi (tOp st.2.2.2.2.1 c0) re (st.2.2.2.2.2.1 * 8) c0 st.2.1, va_up st.2.2.1 st.2.2.2.2.2.1 (tMn pi (tOp st.2.2.2.2.1 c0) re c0), va_up st.2.2.2.1 st.2.2.2.2.2.1 0, tOp st.2.2.2.2.1 c0, st.2.2.2.2.2.1 + 1, st.2.2.2.2.2.2) else st
theorem tEn_in {pi : Nat} {re : Nat → Nat} {c0 : Nat} {st : T7} (h : st.2.2.2.2.2.1 < 36) : tEn pi re c0 st = (va_up st.1 st.2.2.2.2.2.1 c0, tLs pi (tOp st.2.2.2.2.1 c0) re (st.2.2.2.2.2.1 * 8) c0 st.2.1, va_up st.2.2.1 st.2.2.2.2.2.1 (tMn pi (tOp st.2.2.2.2.1 c0) re c0), va_up st.2.2.2.1 st.2.2.2.2.2.1 0, tOp st.2.2.2.2.1 c0, st.2.2.2.2.2.1 + 1, st.2.2.2.2.2.2) := if_pos h
theorem tEn_out {pi : Nat} {re : Nat → Nat} {c0 : Nat} {st : T7} (h : ¬ st.2.2.2.2.2.1 < 36) : tEn pi re c0 st = st := if_neg h
abbrev tBk (st : T7) : T7 := (st.1, st.2.1, st.2.2.1, st.2.2.2.1, st.2.2.2.2.1 ||| 2 ^ st.1 (st.2.2.2.2.2.1 - 1), st.2.2.2.2.2.1 - 1, st.2.2.2.2.2.2)
abbrev J7 (st : T7) : Prop := (∀ k, st.1 k < 36) ∧ (∀ k, st.2.1 k < 4000) ∧ (∀ k, st.2.2.1 k ≤ 8) ∧ (∀ k, st.2.2.2.1 k ≤ 8) ∧ st.2.2.2.2.1 < 2 ^ 36 ∧ st.2.2.2.2.2.1 ≤ 36 ∧ st.2.2.2.2.2.2 ≤ 100000
theorem j7_mk (pa wo wc wt : Nat → Nat) (op ln md : Nat) (h1 : ∀ k, pa k < 36) (h2 : ∀ k, wo k < 4000) (h3 : ∀ k, wc k ≤ 8) (h4 : ∀ k, wt k ≤ 8) (h5 : op < 2 ^ 36) (h6 : ln ≤ 36) (h7 : md ≤ 100000) : J7 (pa, wo, wc, wt, op, ln, md) := ⟨h1, h2, h3, h4, h5, h6, h7⟩
theorem up_le {f : Nat → Nat} {i x b : Nat} (h : ∀ k, f k ≤ b) (hx : x ≤ b) : ∀ k, va_up f i x k ≤ b := fun k => by
  unfold va_up
  split
  · exact hx
  · exact h k
theorem tOp_lt {op c0 : Nat} (h : op < 2 ^ 36) : tOp op c0 < 2 ^ 36 := Nat.lt_of_le_of_lt Nat.and_le_left h
theorem tLs_lt {pi op : Nat} {re : Nat → Nat} {fr c0 : Nat} {wo : Nat → Nat} (h : op < 2 ^ 36) (hw : ∀ j, wo j < 4000) : ∀ j, tLs pi op re fr c0 wo j < 4000 := by
  have h1 : tLf pi op re c0 < 2 ^ 36 := Nat.and_lt_two_pow (n := 36) _ h
  have h2 : tMn pi op re c0 ≤ 0 + pop 64 (tLf pi op re c0) := by rw [Nat.zero_add]; exact Nat.min_le_right _ _
  unfold tLs
  exact lW_lt 9 0 (tLf pi op re c0) wo h1 h2 hw
theorem tMn_le {pi op : Nat} {re : Nat → Nat} {c0 : Nat} : tMn pi op re c0 ≤ 8 := Nat.min_le_left _ _
theorem j7_en {pi : Nat} {re : Nat → Nat} {c0 : Nat} {st : T7} (hc : c0 < 36) (h : J7 st) : J7 (tEn pi re c0 st) := by
  obtain ⟨h1, h2, h3, h4, h5, h6, h7⟩ := h
  by_cases h : st.2.2.2.2.2.1 < 36
  · rw [tEn_in h]
    have a2 := tLs_lt (pi := pi) (re := re) (fr := st.2.2.2.2.2.1 * 8) (c0 := c0) (tOp_lt (c0 := c0) h5) h2
    have a3 := up_le (i := st.2.2.2.2.2.1) h3 (tMn_le (pi := pi) (op := tOp st.2.2.2.2.1 c0) (re := re) (c0 := c0))
    exact j7_mk (va_up st.1 st.2.2.2.2.2.1 c0) (tLs pi (tOp st.2.2.2.2.1 c0) re (st.2.2.2.2.2.1 * 8) c0 st.2.1) (va_up st.2.2.1 st.2.2.2.2.2.1 (tMn pi (tOp st.2.2.2.2.1 c0) re c0)) (va_up st.2.2.2.1 st.2.2.2.2.2.1 0) (tOp st.2.2.2.2.1 c0) (st.2.2.2.2.2.1 + 1) st.2.2.2.2.2.2 (up_lt h1 hc) a2 a3 (up_le h4 (Nat.zero_le _)) (tOp_lt h5) (Nat.succ_le_of_lt h) h7
  · rw [tEn_out h]
    exact ⟨h1, h2, h3, h4, h5, h6, h7⟩
theorem j7_bk {st : T7} (h : J7 st) : J7 (tBk st) := by
  obtain ⟨h1, h2, h3, h4, h5, h6, h7⟩ := h
  exact ⟨h1, h2, h3, h4, Nat.or_lt_two_pow (n := 36) h5 (Nat.pow_lt_pow_right (by decide) (h1 _)), Nat.le_trans (Nat.sub_le _ _) h6, h7⟩
theorem j7_nt {st : T7} (h : J7 st) : J7 (st.1, st.2.1, st.2.2.1, tNt st.2.2.2.2.2.1 st.2.2.1 st.2.2.2.1, st.2.2.2.2.1, st.2.2.2.2.2.1, st.2.2.2.2.2.2) := by
  obtain ⟨h1, h2, h3, h4, h5, h6, h7⟩ := h
  refine ⟨h1, h2, h3, ?_, h5, h6, h7⟩
  dsimp only
  unfold tNt
  split
  · exact up_le h4 (by omega)
  · exact h4
set_option maxHeartbeats 1000000 in
set_option maxRecDepth 100000 in
theorem c_TS_enterIn (l : Launch) (D : va_G) (cI cL : ClassId) (a b1 b2 b3 b4 b5 pi fd : Nat) (re : Nat → Nat) (c0 : Nat) (hc : c0 < 36) (hpi : pi < 3) (hre : ∀ i, re i < 2 ^ 36) (st : T7) (hj : J7 st) (hlt : st.2.2.2.2.2.1 < 36) : CV l y_TS_enter (.code y_TS_enter b_TS_enter 2 none :: Om) { frames := 3, cells := 0, slots := 0, locals := 72 } D [(a, .inr (3, [.ref b1, .ref b2, .ref b3, .ref b4, .ref b5, .int (nI pi), .long (lN st.2.2.2.2.1), .int (nI st.2.2.2.2.2.1), .int (nI st.2.2.2.2.2.2), .int (nI fd)])), (b1, .inl (cL, 108, .inr (.inl (lA re)))), (b2, .inl (cI, 36, .inl (nA st.1))), (b3, .inl (cI, 288, .inl (nA st.2.1))), (b4, .inl (cI, 36, .inl (nA st.2.2.1))), (b5, .inl (cI, 36, .inl (nA st.2.2.2.1)))] [(cI, .int), (cL, .long)] [.ref a, .int (nI c0)] (fun u => u = [(a, .inr (3, [.ref b1, .ref b2, .ref b3, .ref b4, .ref b5, .int (nI pi), .long (lN ((tEn pi re c0 st).2.2.2.2.1)), .int (nI ((tEn pi re c0 st).2.2.2.2.2.1)), .int (nI ((tEn pi re c0 st).2.2.2.2.2.2)), .int (nI fd)])), (b1, .inl (cL, 108, .inr (.inl (lA re)))), (b2, .inl (cI, 36, .inl (nA ((tEn pi re c0 st).1)))), (b3, .inl (cI, 288, .inl (nA ((tEn pi re c0 st).2.1)))), (b4, .inl (cI, 36, .inl (nA ((tEn pi re c0 st).2.2.1)))), (b5, .inl (cI, 36, .inl (nA ((tEn pi re c0 st).2.2.2.1))))]) := by
  refine en_of (cc := b_TS_enter) (Qc := qV D [(cI, .int), (cL, .long)] (fun u => u = [(a, .inr (3, [.ref b1, .ref b2, .ref b3, .ref b4, .ref b5, .int (nI pi), .long (lN ((tEn pi re c0 st).2.2.2.2.1)), .int (nI ((tEn pi re c0 st).2.2.2.2.2.1)), .int (nI ((tEn pi re c0 st).2.2.2.2.2.2)), .int (nI fd)])), (b1, .inl (cL, 108, .inr (.inl (lA re)))), (b2, .inl (cI, 36, .inl (nA ((tEn pi re c0 st).1)))), (b3, .inl (cI, 288, .inl (nA ((tEn pi re c0 st).2.1)))), (b4, .inl (cI, 36, .inl (nA ((tEn pi re c0 st).2.2.1)))), (b5, .inl (cI, 36, .inl (nA ((tEn pi re c0 st).2.2.2.1))))])) (by decide) rfl (Nat.le_of_ble_eq_true rfl) ?_
  intro p e s m below meth c A E hnm hP hD hS ls hl
  have hl : lv_has ls 2 [(0, .ref a), (1, .int (nI c0))] := hl
  obtain ⟨hx, hb, hml, hown, hts, hr, hlk, hA, hK, hN⟩ := id E
  have ho : ∀ q ∈ Om, q.before _ s = true := fun q h => hts q (List.mem_cons_of_mem _ h)
  have hop2 : tOp st.2.2.2.2.1 c0 < 2 ^ 36 := tOp_lt hj.2.2.2.2.1
  have hwo := hj.2.1
  refine lv_aload_n hx hb d_TS_enter_0 rfl (lv_at hl 0 rfl) ?_
  refine va_get (D := D) (ci := 3) (v := .int (nI st.2.2.2.2.2.1)) (C := R_TS) (T := F_TS) (N := 10) hx hb ho j_TS hown hK hP 0 rfl rfl 7 (by decide) (ho _ kf_TS_68) (fun _ h9 => h9) rfl d_TS_enter_1 ?_
  refine nr_if_lt (tgt := 16) hx hb d_TS_enter_4 (by decide) (by omega) ?_
  refine lv_aload_n hx hb d_TS_enter_7 rfl (lv_at hl 0 rfl) ?_
  refine va_get (D := D) (ci := 3) (v := .int (nI st.2.2.2.2.2.1)) (C := R_TS) (T := F_TS) (N := 10) hx hb ho j_TS hown hK hP 0 rfl rfl 7 (by decide) (ho _ kf_TS_68) (fun _ h9 => h9) rfl d_TS_enter_8 ?_
  refine lv_bipush (v := nI 36) hx hb d_TS_enter_11 (by decide) ?_
  refine nr_icmp_lt (tgt := 17) hx hb d_TS_enter_13 (by decide) (by omega) (by omega) (fun _ => ?_) (fun h9 => absurd h9 (by omega))
  refine lv_aload_n hx hb d_TS_enter_17 rfl (lv_at hl 0 rfl) ?_
  refine lv_dup hx hb d_TS_enter_18 rfl ?_
  refine va_get (D := D) (ci := 3) (v := .long (lN st.2.2.2.2.1)) (C := R_TS) (T := F_TS) (N := 10) hx hb ho j_TS hown hK hP 0 rfl rfl 6 (by decide) (ho _ kf_TS_64) (fun _ h9 => h9) rfl d_TS_enter_19 ?_
  refine lv_lconst (v := lN 1) hx hb d_TS_enter_22 rfl ?_
  refine lv_iload_n hx hb d_TS_enter_23 rfl (lv_at hl 1 rfl) ?_
  refine nr_lshl1 hx hb d_TS_enter_24 (by omega) ?_
  refine lv_ldc2 (v := lN 18446744073709551615) hx hb hown (ho _ kl_TS_90) d_TS_enter_25 ?_
  refine nr_lxor hx hb d_TS_enter_28 ?_
  refine nr_land hx hb d_TS_enter_29 ?_
  refine va_put (D := D) (ci := 3) (v := .long (lN (st.2.2.2.2.1 &&& ((2 ^ c0) ^^^ 18446744073709551615)))) (ty := .long) (C := R_TS) (T := F_TS) (N := 10) hx hb ho j_TS t_TS t_TS_ok n_TS hown hK hP hD hS 0 rfl rfl 6 (by decide) (ho _ kf_TS_64) (fun _ h9 => h9) rfl (by decide +kernel) rfl rfl (Nat.le_of_ble_eq_true rfl) d_TS_enter_30 (fun H locs hP hD hS => ?_)
  have hP : va_P D classes [(a, .inr (3, [.ref b1, .ref b2, .ref b3, .ref b4, .ref b5, .int (nI pi), .long (lN (st.2.2.2.2.1 &&& ((2 ^ c0) ^^^ 18446744073709551615))), .int (nI st.2.2.2.2.2.1), .int (nI st.2.2.2.2.2.2), .int (nI fd)])), (b1, .inl (cL, 108, .inr (.inl (lA re)))), (b2, .inl (cI, 36, .inl (nA st.1))), (b3, .inl (cI, 288, .inl (nA st.2.1))), (b4, .inl (cI, 36, .inl (nA st.2.2.1))), (b5, .inl (cI, 36, .inl (nA st.2.2.2.1)))] H := hP
  have hD : va_D A [(a, .inr (3, [.ref b1, .ref b2, .ref b3, .ref b4, .ref b5, .int (nI pi), .long (lN (st.2.2.2.2.1 &&& ((2 ^ c0) ^^^ 18446744073709551615))), .int (nI st.2.2.2.2.2.1), .int (nI st.2.2.2.2.2.2), .int (nI fd)])), (b1, .inl (cL, 108, .inr (.inl (lA re)))), (b2, .inl (cI, 36, .inl (nA st.1))), (b3, .inl (cI, 288, .inl (nA st.2.1))), (b4, .inl (cI, 36, .inl (nA st.2.2.1))), (b5, .inl (cI, 36, .inl (nA st.2.2.2.1)))] := hD
  refine lv_aload_n hx hb d_TS_enter_33 rfl (lv_at hl 0 rfl) ?_
  refine va_get (D := D) (ci := 3) (v := .ref b2) (C := R_TS) (T := F_TS) (N := 10) hx hb ho j_TS hown hK hP 0 rfl rfl 1 (by decide) (ho _ kf_TS_9) (fun _ h9 => h9) rfl d_TS_enter_34 ?_
  refine lv_aload_n hx hb d_TS_enter_37 rfl (lv_at hl 0 rfl) ?_
  refine va_get (D := D) (ci := 3) (v := .int (nI st.2.2.2.2.2.1)) (C := R_TS) (T := F_TS) (N := 10) hx hb ho j_TS hown hK hP 0 rfl rfl 7 (by decide) (ho _ kf_TS_68) (fun _ h9 => h9) rfl d_TS_enter_38 ?_
  refine lv_iload_n hx hb d_TS_enter_41 rfl (lv_at hl 1 rfl) ?_
  refine nr_iast hx hb hK hP hD hS 2 0 rfl rfl (i := st.2.2.2.2.2.1) (x := c0) (by omega) (by decide) d_TS_enter_42 (fun H locs hP hD hS => ?_)
  have hP : va_P D classes [(a, .inr (3, [.ref b1, .ref b2, .ref b3, .ref b4, .ref b5, .int (nI pi), .long (lN (st.2.2.2.2.1 &&& ((2 ^ c0) ^^^ 18446744073709551615))), .int (nI st.2.2.2.2.2.1), .int (nI st.2.2.2.2.2.2), .int (nI fd)])), (b1, .inl (cL, 108, .inr (.inl (lA re)))), (b2, .inl (cI, 36, .inl (nA (va_up st.1 st.2.2.2.2.2.1 c0)))), (b3, .inl (cI, 288, .inl (nA st.2.1))), (b4, .inl (cI, 36, .inl (nA st.2.2.1))), (b5, .inl (cI, 36, .inl (nA st.2.2.2.1)))] H := hP
  have hD : va_D A [(a, .inr (3, [.ref b1, .ref b2, .ref b3, .ref b4, .ref b5, .int (nI pi), .long (lN (st.2.2.2.2.1 &&& ((2 ^ c0) ^^^ 18446744073709551615))), .int (nI st.2.2.2.2.2.1), .int (nI st.2.2.2.2.2.2), .int (nI fd)])), (b1, .inl (cL, 108, .inr (.inl (lA re)))), (b2, .inl (cI, 36, .inl (nA (va_up st.1 st.2.2.2.2.2.1 c0)))), (b3, .inl (cI, 288, .inl (nA st.2.1))), (b4, .inl (cI, 36, .inl (nA st.2.2.1))), (b5, .inl (cI, 36, .inl (nA st.2.2.2.1)))] := hD
  refine lv_aload_n hx hb d_TS_enter_43 rfl (lv_at hl 0 rfl) ?_
  refine va_get (D := D) (ci := 3) (v := .ref b5) (C := R_TS) (T := F_TS) (N := 10) hx hb ho j_TS hown hK hP 0 rfl rfl 4 (by decide) (ho _ kf_TS_21) (fun _ h9 => h9) rfl d_TS_enter_44 ?_
  refine lv_aload_n hx hb d_TS_enter_47 rfl (lv_at hl 0 rfl) ?_
  refine va_get (D := D) (ci := 3) (v := .int (nI st.2.2.2.2.2.1)) (C := R_TS) (T := F_TS) (N := 10) hx hb ho j_TS hown hK hP 0 rfl rfl 7 (by decide) (ho _ kf_TS_68) (fun _ h9 => h9) rfl d_TS_enter_48 ?_
  refine lv_iconst (v := nI 0) hx hb d_TS_enter_51 (by decide) ?_
  refine nr_iast hx hb hK hP hD hS 5 0 rfl rfl (i := st.2.2.2.2.2.1) (x := 0) (by omega) (by decide) d_TS_enter_52 (fun H locs hP hD hS => ?_)
  have hP : va_P D classes [(a, .inr (3, [.ref b1, .ref b2, .ref b3, .ref b4, .ref b5, .int (nI pi), .long (lN (st.2.2.2.2.1 &&& ((2 ^ c0) ^^^ 18446744073709551615))), .int (nI st.2.2.2.2.2.1), .int (nI st.2.2.2.2.2.2), .int (nI fd)])), (b1, .inl (cL, 108, .inr (.inl (lA re)))), (b2, .inl (cI, 36, .inl (nA (va_up st.1 st.2.2.2.2.2.1 c0)))), (b3, .inl (cI, 288, .inl (nA st.2.1))), (b4, .inl (cI, 36, .inl (nA st.2.2.1))), (b5, .inl (cI, 36, .inl (nA (va_up st.2.2.2.1 st.2.2.2.2.2.1 0))))] H := hP
  have hD : va_D A [(a, .inr (3, [.ref b1, .ref b2, .ref b3, .ref b4, .ref b5, .int (nI pi), .long (lN (st.2.2.2.2.1 &&& ((2 ^ c0) ^^^ 18446744073709551615))), .int (nI st.2.2.2.2.2.1), .int (nI st.2.2.2.2.2.2), .int (nI fd)])), (b1, .inl (cL, 108, .inr (.inl (lA re)))), (b2, .inl (cI, 36, .inl (nA (va_up st.1 st.2.2.2.2.2.1 c0)))), (b3, .inl (cI, 288, .inl (nA st.2.1))), (b4, .inl (cI, 36, .inl (nA st.2.2.1))), (b5, .inl (cI, 36, .inl (nA (va_up st.2.2.2.1 st.2.2.2.2.2.1 0))))] := hD
  refine lv_aload_n hx hb d_TS_enter_53 rfl (lv_at hl 0 rfl) ?_
  refine va_get (D := D) (ci := 3) (v := .ref b4) (C := R_TS) (T := F_TS) (N := 10) hx hb ho j_TS hown hK hP 0 rfl rfl 3 (by decide) (ho _ kf_TS_18) (fun _ h9 => h9) rfl d_TS_enter_54 ?_
  refine lv_aload_n hx hb d_TS_enter_57 rfl (lv_at hl 0 rfl) ?_
  refine va_get (D := D) (ci := 3) (v := .int (nI st.2.2.2.2.2.1)) (C := R_TS) (T := F_TS) (N := 10) hx hb ho j_TS hown hK hP 0 rfl rfl 7 (by decide) (ho _ kf_TS_68) (fun _ h9 => h9) rfl d_TS_enter_58 ?_
  refine lv_aload_n hx hb d_TS_enter_61 rfl (lv_at hl 0 rfl) ?_
  refine lv_iload_n hx hb d_TS_enter_62 rfl (lv_at hl 1 rfl) ?_
  refine lv_aload_n hx hb d_TS_enter_63 rfl (lv_at hl 0 rfl) ?_
  refine va_get (D := D) (ci := 3) (v := .int (nI st.2.2.2.2.2.1)) (C := R_TS) (T := F_TS) (N := 10) hx hb ho j_TS hown hK hP 0 rfl rfl 7 (by decide) (ho _ kf_TS_68) (fun _ h9 => h9) rfl d_TS_enter_64 ?_
  refine lv_bipush (v := nI 8) hx hb d_TS_enter_67 (by decide) ?_
  refine nr_imul hx hb d_TS_enter_69 ?_
  refine af_i (wc := [(a, .inr (3, [.ref b1, .ref b2, .ref b3, .ref b4, .ref b5, .int (nI pi), .long (lN (st.2.2.2.2.1 &&& ((2 ^ c0) ^^^ 18446744073709551615))), .int (nI st.2.2.2.2.2.1), .int (nI st.2.2.2.2.2.2), .int (nI fd)])), (b1, .inl (cL, 108, .inr (.inl (lA re)))), (b2, .inl (cI, 36, .inl (nA (va_up st.1 st.2.2.2.2.2.1 c0)))), (b3, .inl (cI, 288, .inl (nA st.2.1))), (b4, .inl (cI, 36, .inl (nA st.2.2.1))), (b5, .inl (cI, 36, .inl (nA (va_up st.2.2.2.1 st.2.2.2.2.2.1 0))))]) (wr := []) (rest := [.int (nI st.2.2.2.2.2.1), .ref b4]) [0, 1, 2, 3, 4, 5] [] hP hD hS hA rfl rfl (by decide) (by decide) (rn_V E (As := [.int (nI c0), .int (nI (st.2.2.2.2.2.1 * 8))]) m_TS_listWaysOn km_TS_92 (c_TS_list l D cI cL a b1 b2 b3 b4 b5 pi (st.2.2.2.2.1 &&& ((2 ^ c0) ^^^ 18446744073709551615)) st.2.2.2.2.2.1 st.2.2.2.2.2.2 fd re (va_up st.1 st.2.2.2.2.2.1 c0) st.2.1 st.2.2.1 (va_up st.2.2.2.1 st.2.2.2.2.2.1 0) c0 (st.2.2.2.2.2.1 * 8) (by omega) hpi hop2 hre (by omega) hwo _) ⟨rfl, rfl, by dsimp only; omega, by dsimp only; omega⟩ (hP.sub [0, 1, 2, 3, 4, 5] rfl) (hD.sub [0, 1, 2, 3, 4, 5] (by decide) rfl) (q0 := 0) (ci := 3) rfl rfl rfl hl.1 rfl (Nat.le_of_ble_eq_true rfl) ⟨Nat.le_of_ble_eq_true rfl, Nat.le_of_ble_eq_true rfl⟩ d_TS_enter_70) (fun r_2 u_1 H locs hw hP hD hS => ?_)
  obtain ⟨rfl, rfl⟩ := hw
  have hP : va_P D classes [(a, .inr (3, [.ref b1, .ref b2, .ref b3, .ref b4, .ref b5, .int (nI pi), .long (lN (st.2.2.2.2.1 &&& ((2 ^ c0) ^^^ 18446744073709551615))), .int (nI st.2.2.2.2.2.1), .int (nI st.2.2.2.2.2.2), .int (nI fd)])), (b1, .inl (cL, 108, .inr (.inl (lA re)))), (b2, .inl (cI, 36, .inl (nA (va_up st.1 st.2.2.2.2.2.1 c0)))), (b3, .inl (cI, 288, .inl (nA (tLs pi (st.2.2.2.2.1 &&& ((2 ^ c0) ^^^ 18446744073709551615)) re (st.2.2.2.2.2.1 * 8) c0 st.2.1)))), (b4, .inl (cI, 36, .inl (nA st.2.2.1))), (b5, .inl (cI, 36, .inl (nA (va_up st.2.2.2.1 st.2.2.2.2.2.1 0))))] H := hP
  have hD : va_D A [(a, .inr (3, [.ref b1, .ref b2, .ref b3, .ref b4, .ref b5, .int (nI pi), .long (lN (st.2.2.2.2.1 &&& ((2 ^ c0) ^^^ 18446744073709551615))), .int (nI st.2.2.2.2.2.1), .int (nI st.2.2.2.2.2.2), .int (nI fd)])), (b1, .inl (cL, 108, .inr (.inl (lA re)))), (b2, .inl (cI, 36, .inl (nA (va_up st.1 st.2.2.2.2.2.1 c0)))), (b3, .inl (cI, 288, .inl (nA (tLs pi (st.2.2.2.2.1 &&& ((2 ^ c0) ^^^ 18446744073709551615)) re (st.2.2.2.2.2.1 * 8) c0 st.2.1)))), (b4, .inl (cI, 36, .inl (nA st.2.2.1))), (b5, .inl (cI, 36, .inl (nA (va_up st.2.2.2.1 st.2.2.2.2.2.1 0))))] := hD
  refine nr_iast hx hb hK hP hD hS 4 0 rfl rfl (i := st.2.2.2.2.2.1) (x := tMn pi (st.2.2.2.2.1 &&& ((2 ^ c0) ^^^ 18446744073709551615)) re c0) (by omega) (by decide) d_TS_enter_73 (fun H locs hP hD hS => ?_)
  have hP : va_P D classes [(a, .inr (3, [.ref b1, .ref b2, .ref b3, .ref b4, .ref b5, .int (nI pi), .long (lN (st.2.2.2.2.1 &&& ((2 ^ c0) ^^^ 18446744073709551615))), .int (nI st.2.2.2.2.2.1), .int (nI st.2.2.2.2.2.2), .int (nI fd)])), (b1, .inl (cL, 108, .inr (.inl (lA re)))), (b2, .inl (cI, 36, .inl (nA (va_up st.1 st.2.2.2.2.2.1 c0)))), (b3, .inl (cI, 288, .inl (nA (tLs pi (st.2.2.2.2.1 &&& ((2 ^ c0) ^^^ 18446744073709551615)) re (st.2.2.2.2.2.1 * 8) c0 st.2.1)))), (b4, .inl (cI, 36, .inl (nA (va_up st.2.2.1 st.2.2.2.2.2.1 (tMn pi (st.2.2.2.2.1 &&& ((2 ^ c0) ^^^ 18446744073709551615)) re c0))))), (b5, .inl (cI, 36, .inl (nA (va_up st.2.2.2.1 st.2.2.2.2.2.1 0))))] H := hP
  have hD : va_D A [(a, .inr (3, [.ref b1, .ref b2, .ref b3, .ref b4, .ref b5, .int (nI pi), .long (lN (st.2.2.2.2.1 &&& ((2 ^ c0) ^^^ 18446744073709551615))), .int (nI st.2.2.2.2.2.1), .int (nI st.2.2.2.2.2.2), .int (nI fd)])), (b1, .inl (cL, 108, .inr (.inl (lA re)))), (b2, .inl (cI, 36, .inl (nA (va_up st.1 st.2.2.2.2.2.1 c0)))), (b3, .inl (cI, 288, .inl (nA (tLs pi (st.2.2.2.2.1 &&& ((2 ^ c0) ^^^ 18446744073709551615)) re (st.2.2.2.2.2.1 * 8) c0 st.2.1)))), (b4, .inl (cI, 36, .inl (nA (va_up st.2.2.1 st.2.2.2.2.2.1 (tMn pi (st.2.2.2.2.1 &&& ((2 ^ c0) ^^^ 18446744073709551615)) re c0))))), (b5, .inl (cI, 36, .inl (nA (va_up st.2.2.2.1 st.2.2.2.2.2.1 0))))] := hD
  refine lv_aload_n hx hb d_TS_enter_74 rfl (lv_at hl 0 rfl) ?_
  refine lv_dup hx hb d_TS_enter_75 rfl ?_
  refine va_get (D := D) (ci := 3) (v := .int (nI st.2.2.2.2.2.1)) (C := R_TS) (T := F_TS) (N := 10) hx hb ho j_TS hown hK hP 0 rfl rfl 7 (by decide) (ho _ kf_TS_68) (fun _ h9 => h9) rfl d_TS_enter_76 ?_
  refine lv_iconst (v := nI 1) hx hb d_TS_enter_79 (by decide) ?_
  refine nr_iadd hx hb d_TS_enter_80 ?_
  refine va_put (D := D) (ci := 3) (v := .int (nI (st.2.2.2.2.2.1 + 1))) (ty := .int) (C := R_TS) (T := F_TS) (N := 10) hx hb ho j_TS t_TS t_TS_ok n_TS hown hK hP hD hS 0 rfl rfl 7 (by decide) (ho _ kf_TS_68) (fun _ h9 => h9) rfl (by decide +kernel) rfl rfl (Nat.le_of_ble_eq_true rfl) d_TS_enter_81 (fun H locs hP hD hS => ?_)
  have hP : va_P D classes [(a, .inr (3, [.ref b1, .ref b2, .ref b3, .ref b4, .ref b5, .int (nI pi), .long (lN (st.2.2.2.2.1 &&& ((2 ^ c0) ^^^ 18446744073709551615))), .int (nI (st.2.2.2.2.2.1 + 1)), .int (nI st.2.2.2.2.2.2), .int (nI fd)])), (b1, .inl (cL, 108, .inr (.inl (lA re)))), (b2, .inl (cI, 36, .inl (nA (va_up st.1 st.2.2.2.2.2.1 c0)))), (b3, .inl (cI, 288, .inl (nA (tLs pi (st.2.2.2.2.1 &&& ((2 ^ c0) ^^^ 18446744073709551615)) re (st.2.2.2.2.2.1 * 8) c0 st.2.1)))), (b4, .inl (cI, 36, .inl (nA (va_up st.2.2.1 st.2.2.2.2.2.1 (tMn pi (st.2.2.2.2.1 &&& ((2 ^ c0) ^^^ 18446744073709551615)) re c0))))), (b5, .inl (cI, 36, .inl (nA (va_up st.2.2.2.1 st.2.2.2.2.2.1 0))))] H := hP
  have hD : va_D A [(a, .inr (3, [.ref b1, .ref b2, .ref b3, .ref b4, .ref b5, .int (nI pi), .long (lN (st.2.2.2.2.1 &&& ((2 ^ c0) ^^^ 18446744073709551615))), .int (nI (st.2.2.2.2.2.1 + 1)), .int (nI st.2.2.2.2.2.2), .int (nI fd)])), (b1, .inl (cL, 108, .inr (.inl (lA re)))), (b2, .inl (cI, 36, .inl (nA (va_up st.1 st.2.2.2.2.2.1 c0)))), (b3, .inl (cI, 288, .inl (nA (tLs pi (st.2.2.2.2.1 &&& ((2 ^ c0) ^^^ 18446744073709551615)) re (st.2.2.2.2.2.1 * 8) c0 st.2.1)))), (b4, .inl (cI, 36, .inl (nA (va_up st.2.2.1 st.2.2.2.2.2.1 (tMn pi (st.2.2.2.2.1 &&& ((2 ^ c0) ^^^ 18446744073709551615)) re c0))))), (b5, .inl (cI, 36, .inl (nA (va_up st.2.2.2.1 st.2.2.2.2.2.1 0))))] := hD
  exact rt_v E hP hD hS (by rw [tEn_in hlt]) d_TS_enter_84
set_option maxHeartbeats 1000000 in
set_option maxRecDepth 100000 in
theorem c_TS_enterOut (l : Launch) (D : va_G) (cI cL : ClassId) (a b1 b2 b3 b4 b5 pi fd : Nat) (re : Nat → Nat) (c0 : Nat) (st : T7) (hj : J7 st) (hlt : ¬ st.2.2.2.2.2.1 < 36) : CV l y_TS_enter (.code y_TS_enter b_TS_enter 2 none :: Om) { frames := 3, cells := 0, slots := 0, locals := 72 } D [(a, .inr (3, [.ref b1, .ref b2, .ref b3, .ref b4, .ref b5, .int (nI pi), .long (lN st.2.2.2.2.1), .int (nI st.2.2.2.2.2.1), .int (nI st.2.2.2.2.2.2), .int (nI fd)])), (b1, .inl (cL, 108, .inr (.inl (lA re)))), (b2, .inl (cI, 36, .inl (nA st.1))), (b3, .inl (cI, 288, .inl (nA st.2.1))), (b4, .inl (cI, 36, .inl (nA st.2.2.1))), (b5, .inl (cI, 36, .inl (nA st.2.2.2.1)))] [(cI, .int), (cL, .long)] [.ref a, .int (nI c0)] (fun u => u = [(a, .inr (3, [.ref b1, .ref b2, .ref b3, .ref b4, .ref b5, .int (nI pi), .long (lN ((tEn pi re c0 st).2.2.2.2.1)), .int (nI ((tEn pi re c0 st).2.2.2.2.2.1)), .int (nI ((tEn pi re c0 st).2.2.2.2.2.2)), .int (nI fd)])), (b1, .inl (cL, 108, .inr (.inl (lA re)))), (b2, .inl (cI, 36, .inl (nA ((tEn pi re c0 st).1)))), (b3, .inl (cI, 288, .inl (nA ((tEn pi re c0 st).2.1)))), (b4, .inl (cI, 36, .inl (nA ((tEn pi re c0 st).2.2.1)))), (b5, .inl (cI, 36, .inl (nA ((tEn pi re c0 st).2.2.2.1))))]) := by
  refine en_of (cc := b_TS_enter) (Qc := qV D [(cI, .int), (cL, .long)] (fun u => u = [(a, .inr (3, [.ref b1, .ref b2, .ref b3, .ref b4, .ref b5, .int (nI pi), .long (lN ((tEn pi re c0 st).2.2.2.2.1)), .int (nI ((tEn pi re c0 st).2.2.2.2.2.1)), .int (nI ((tEn pi re c0 st).2.2.2.2.2.2)), .int (nI fd)])), (b1, .inl (cL, 108, .inr (.inl (lA re)))), (b2, .inl (cI, 36, .inl (nA ((tEn pi re c0 st).1)))), (b3, .inl (cI, 288, .inl (nA ((tEn pi re c0 st).2.1)))), (b4, .inl (cI, 36, .inl (nA ((tEn pi re c0 st).2.2.1)))), (b5, .inl (cI, 36, .inl (nA ((tEn pi re c0 st).2.2.2.1))))])) (by decide) rfl (Nat.le_of_ble_eq_true rfl) ?_
  intro p e s m below meth c A E hnm hP hD hS ls hl
  have hl : lv_has ls 2 [(0, .ref a), (1, .int (nI c0))] := hl
  obtain ⟨hx, hb, hml, hown, hts, hr, hlk, hA, hK, hN⟩ := id E
  have ho : ∀ q ∈ Om, q.before _ s = true := fun q h => hts q (List.mem_cons_of_mem _ h)
  have hl9 := hj.2.2.2.2.2.1
  refine lv_aload_n hx hb d_TS_enter_0 rfl (lv_at hl 0 rfl) ?_
  refine va_get (D := D) (ci := 3) (v := .int (nI st.2.2.2.2.2.1)) (C := R_TS) (T := F_TS) (N := 10) hx hb ho j_TS hown hK hP 0 rfl rfl 7 (by decide) (ho _ kf_TS_68) (fun _ h9 => h9) rfl d_TS_enter_1 ?_
  refine nr_if_lt (tgt := 16) hx hb d_TS_enter_4 (by decide) (by omega) ?_
  refine lv_aload_n hx hb d_TS_enter_7 rfl (lv_at hl 0 rfl) ?_
  refine va_get (D := D) (ci := 3) (v := .int (nI st.2.2.2.2.2.1)) (C := R_TS) (T := F_TS) (N := 10) hx hb ho j_TS hown hK hP 0 rfl rfl 7 (by decide) (ho _ kf_TS_68) (fun _ h9 => h9) rfl d_TS_enter_8 ?_
  refine lv_bipush (v := nI 36) hx hb d_TS_enter_11 (by decide) ?_
  refine nr_icmp_lt (tgt := 17) hx hb d_TS_enter_13 (by decide) (by omega) (by omega) (fun h9 => absurd h9 (by omega)) (fun _ => ?_)
  exact rt_v E hP hD hS (by rw [tEn_out hlt]) d_TS_enter_16
theorem c_TS_enter (l : Launch) (D : va_G) (cI cL : ClassId) (a b1 b2 b3 b4 b5 pi fd : Nat) (re : Nat → Nat) (c0 : Nat) (hc : c0 < 36) (hpi : pi < 3) (hre : ∀ i, re i < 2 ^ 36) (st : T7) (hj : J7 st) : CV l y_TS_enter (.code y_TS_enter b_TS_enter 2 none :: Om) { frames := 3, cells := 0, slots := 0, locals := 72 } D [(a, .inr (3, [.ref b1, .ref b2, .ref b3, .ref b4, .ref b5, .int (nI pi), .long (lN st.2.2.2.2.1), .int (nI st.2.2.2.2.2.1), .int (nI st.2.2.2.2.2.2), .int (nI fd)])), (b1, .inl (cL, 108, .inr (.inl (lA re)))), (b2, .inl (cI, 36, .inl (nA st.1))), (b3, .inl (cI, 288, .inl (nA st.2.1))), (b4, .inl (cI, 36, .inl (nA st.2.2.1))), (b5, .inl (cI, 36, .inl (nA st.2.2.2.1)))] [(cI, .int), (cL, .long)] [.ref a, .int (nI c0)] (fun u => u = [(a, .inr (3, [.ref b1, .ref b2, .ref b3, .ref b4, .ref b5, .int (nI pi), .long (lN ((tEn pi re c0 st).2.2.2.2.1)), .int (nI ((tEn pi re c0 st).2.2.2.2.2.1)), .int (nI ((tEn pi re c0 st).2.2.2.2.2.2)), .int (nI fd)])), (b1, .inl (cL, 108, .inr (.inl (lA re)))), (b2, .inl (cI, 36, .inl (nA ((tEn pi re c0 st).1)))), (b3, .inl (cI, 288, .inl (nA ((tEn pi re c0 st).2.1)))), (b4, .inl (cI, 36, .inl (nA ((tEn pi re c0 st).2.2.1)))), (b5, .inl (cI, 36, .inl (nA ((tEn pi re c0 st).2.2.2.1))))]) := by
  by_cases h : st.2.2.2.2.2.1 < 36
  · exact c_TS_enterIn l D cI cL a b1 b2 b3 b4 b5 pi fd re c0 hc hpi hre st hj h
  · exact c_TS_enterOut l D cI cL a b1 b2 b3 b4 b5 pi fd re c0 st hj h
end
section
set_option maxHeartbeats 1000000 in
set_option maxRecDepth 100000 in
theorem c_TS_begin (l : Launch) (D : va_G) (cI cL : ClassId) (a b1 b2 b3 b4 b5 pi op ln md fd : Nat) (re pa wo wc wt : Nat → Nat) (p0 c0 f : Nat) (hp0 : p0 < 3) (hc : c0 < 36) (hf : f < 2 ^ 36) (hre : ∀ i, re i < 2 ^ 36) (hpa : ∀ k, pa k < 36) (hwo : ∀ k, wo k < 4000) (hwc : ∀ k, wc k ≤ 8) (hwt : ∀ k, wt k ≤ 8) : CV l y_TS_begin (.code y_TS_begin b_TS_begin 5 none :: Om) { frames := 4, cells := 0, slots := 0, locals := 93 } D [(a, .inr (3, [.ref b1, .ref b2, .ref b3, .ref b4, .ref b5, .int (nI pi), .long (lN op), .int (nI ln), .int (nI md), .int (nI fd)])), (b1, .inl (cL, 108, .inr (.inl (lA re)))), (b2, .inl (cI, 36, .inl (nA pa))), (b3, .inl (cI, 288, .inl (nA wo))), (b4, .inl (cI, 36, .inl (nA wc))), (b5, .inl (cI, 36, .inl (nA wt)))] [(cI, .int), (cL, .long)] [.ref a, .int (nI p0), .int (nI c0), .long (lN f)] (fun u => u = [(a, .inr (3, [.ref b1, .ref b2, .ref b3, .ref b4, .ref b5, .int (nI p0), .long (lN ((tEn p0 re c0 (pa, wo, wc, wt, f, 0, 0)).2.2.2.2.1)), .int (nI ((tEn p0 re c0 (pa, wo, wc, wt, f, 0, 0)).2.2.2.2.2.1)), .int (nI ((tEn p0 re c0 (pa, wo, wc, wt, f, 0, 0)).2.2.2.2.2.2)), .int (nI 0)])), (b1, .inl (cL, 108, .inr (.inl (lA re)))), (b2, .inl (cI, 36, .inl (nA ((tEn p0 re c0 (pa, wo, wc, wt, f, 0, 0)).1)))), (b3, .inl (cI, 288, .inl (nA ((tEn p0 re c0 (pa, wo, wc, wt, f, 0, 0)).2.1)))), (b4, .inl (cI, 36, .inl (nA ((tEn p0 re c0 (pa, wo, wc, wt, f, 0, 0)).2.2.1)))), (b5, .inl (cI, 36, .inl (nA ((tEn p0 re c0 (pa, wo, wc, wt, f, 0, 0)).2.2.2.1))))]) := by
  refine en_of (cc := b_TS_begin) (Qc := qV D [(cI, .int), (cL, .long)] (fun u => u = [(a, .inr (3, [.ref b1, .ref b2, .ref b3, .ref b4, .ref b5, .int (nI p0), .long (lN ((tEn p0 re c0 (pa, wo, wc, wt, f, 0, 0)).2.2.2.2.1)), .int (nI ((tEn p0 re c0 (pa, wo, wc, wt, f, 0, 0)).2.2.2.2.2.1)), .int (nI ((tEn p0 re c0 (pa, wo, wc, wt, f, 0, 0)).2.2.2.2.2.2)), .int (nI 0)])), (b1, .inl (cL, 108, .inr (.inl (lA re)))), (b2, .inl (cI, 36, .inl (nA ((tEn p0 re c0 (pa, wo, wc, wt, f, 0, 0)).1)))), (b3, .inl (cI, 288, .inl (nA ((tEn p0 re c0 (pa, wo, wc, wt, f, 0, 0)).2.1)))), (b4, .inl (cI, 36, .inl (nA ((tEn p0 re c0 (pa, wo, wc, wt, f, 0, 0)).2.2.1)))), (b5, .inl (cI, 36, .inl (nA ((tEn p0 re c0 (pa, wo, wc, wt, f, 0, 0)).2.2.2.1))))])) (by decide) rfl (Nat.le_of_ble_eq_true rfl) ?_
  intro p e s m below meth c A E hnm hP hD hS ls hl
  have hl : lv_has ls 5 [(0, .ref a), (1, .int (nI p0)), (2, .int (nI c0)), (3, .long (lN f))] := hl
  obtain ⟨hx, hb, hml, hown, hts, hr, hlk, hA, hK, hN⟩ := id E
  have ho : ∀ q ∈ Om, q.before _ s = true := fun q h => hts q (List.mem_cons_of_mem _ h)
  refine lv_aload_n hx hb d_TS_begin_0 rfl (lv_at hl 0 rfl) ?_
  refine af_v (wc := [(a, .inr (3, [.ref b1, .ref b2, .ref b3, .ref b4, .ref b5, .int (nI pi), .long (lN op), .int (nI ln), .int (nI md), .int (nI fd)])), (b1, .inl (cL, 108, .inr (.inl (lA re)))), (b2, .inl (cI, 36, .inl (nA pa))), (b3, .inl (cI, 288, .inl (nA wo))), (b4, .inl (cI, 36, .inl (nA wc))), (b5, .inl (cI, 36, .inl (nA wt)))]) (wr := []) (rest := []) [0, 1, 2, 3, 4, 5] [] hP hD hS hA rfl rfl (by decide) (by decide) (rn_V E (As := []) m_TS_giveUp km_TS_58 (c_TS_giveUp l D cI cL a b1 b2 b3 b4 b5 pi op ln md fd re pa wo wc wt _) ⟨rfl, rfl, by dsimp only; omega, by dsimp only; omega⟩ (hP.sub [0, 1, 2, 3, 4, 5] rfl) (hD.sub [0, 1, 2, 3, 4, 5] (by decide) rfl) (q0 := 0) (ci := 3) rfl rfl rfl hl.1 rfl (Nat.le_of_ble_eq_true rfl) ⟨Nat.le_of_ble_eq_true rfl, Nat.le_of_ble_eq_true rfl⟩ d_TS_begin_1) (fun u_1 H locs hw hP hD hS => ?_)
  obtain rfl := hw
  have hP : va_P D classes [(a, .inr (3, [.ref b1, .ref b2, .ref b3, .ref b4, .ref b5, .int (nI pi), .long (lN op), .int (nI ln), .int (nI 0), .int (nI 0)])), (b1, .inl (cL, 108, .inr (.inl (lA re)))), (b2, .inl (cI, 36, .inl (nA pa))), (b3, .inl (cI, 288, .inl (nA wo))), (b4, .inl (cI, 36, .inl (nA wc))), (b5, .inl (cI, 36, .inl (nA wt)))] H := hP
  have hD : va_D A [(a, .inr (3, [.ref b1, .ref b2, .ref b3, .ref b4, .ref b5, .int (nI pi), .long (lN op), .int (nI ln), .int (nI 0), .int (nI 0)])), (b1, .inl (cL, 108, .inr (.inl (lA re)))), (b2, .inl (cI, 36, .inl (nA pa))), (b3, .inl (cI, 288, .inl (nA wo))), (b4, .inl (cI, 36, .inl (nA wc))), (b5, .inl (cI, 36, .inl (nA wt)))] := hD
  refine lv_aload_n hx hb d_TS_begin_4 rfl (lv_at hl 0 rfl) ?_
  refine lv_iload_n hx hb d_TS_begin_5 rfl (lv_at hl 1 rfl) ?_
  refine va_put (D := D) (ci := 3) (v := .int (nI p0)) (ty := .int) (C := R_TS) (T := F_TS) (N := 10) hx hb ho j_TS t_TS t_TS_ok n_TS hown hK hP hD hS 0 rfl rfl 5 (by decide) (ho _ kf_TS_61) (fun _ h9 => h9) rfl (by decide +kernel) rfl rfl (Nat.le_of_ble_eq_true rfl) d_TS_begin_6 (fun H locs hP hD hS => ?_)
  have hP : va_P D classes [(a, .inr (3, [.ref b1, .ref b2, .ref b3, .ref b4, .ref b5, .int (nI p0), .long (lN op), .int (nI ln), .int (nI 0), .int (nI 0)])), (b1, .inl (cL, 108, .inr (.inl (lA re)))), (b2, .inl (cI, 36, .inl (nA pa))), (b3, .inl (cI, 288, .inl (nA wo))), (b4, .inl (cI, 36, .inl (nA wc))), (b5, .inl (cI, 36, .inl (nA wt)))] H := hP
  have hD : va_D A [(a, .inr (3, [.ref b1, .ref b2, .ref b3, .ref b4, .ref b5, .int (nI p0), .long (lN op), .int (nI ln), .int (nI 0), .int (nI 0)])), (b1, .inl (cL, 108, .inr (.inl (lA re)))), (b2, .inl (cI, 36, .inl (nA pa))), (b3, .inl (cI, 288, .inl (nA wo))), (b4, .inl (cI, 36, .inl (nA wc))), (b5, .inl (cI, 36, .inl (nA wt)))] := hD
  refine lv_aload_n hx hb d_TS_begin_9 rfl (lv_at hl 0 rfl) ?_
  refine lv_lload_n hx hb d_TS_begin_10 rfl (lv_at hl 3 rfl) ?_
  refine va_put (D := D) (ci := 3) (v := .long (lN f)) (ty := .long) (C := R_TS) (T := F_TS) (N := 10) hx hb ho j_TS t_TS t_TS_ok n_TS hown hK hP hD hS 0 rfl rfl 6 (by decide) (ho _ kf_TS_64) (fun _ h9 => h9) rfl (by decide +kernel) rfl rfl (Nat.le_of_ble_eq_true rfl) d_TS_begin_11 (fun H locs hP hD hS => ?_)
  have hP : va_P D classes [(a, .inr (3, [.ref b1, .ref b2, .ref b3, .ref b4, .ref b5, .int (nI p0), .long (lN f), .int (nI ln), .int (nI 0), .int (nI 0)])), (b1, .inl (cL, 108, .inr (.inl (lA re)))), (b2, .inl (cI, 36, .inl (nA pa))), (b3, .inl (cI, 288, .inl (nA wo))), (b4, .inl (cI, 36, .inl (nA wc))), (b5, .inl (cI, 36, .inl (nA wt)))] H := hP
  have hD : va_D A [(a, .inr (3, [.ref b1, .ref b2, .ref b3, .ref b4, .ref b5, .int (nI p0), .long (lN f), .int (nI ln), .int (nI 0), .int (nI 0)])), (b1, .inl (cL, 108, .inr (.inl (lA re)))), (b2, .inl (cI, 36, .inl (nA pa))), (b3, .inl (cI, 288, .inl (nA wo))), (b4, .inl (cI, 36, .inl (nA wc))), (b5, .inl (cI, 36, .inl (nA wt)))] := hD
  refine lv_aload_n hx hb d_TS_begin_14 rfl (lv_at hl 0 rfl) ?_
  refine lv_iconst (v := nI 0) hx hb d_TS_begin_15 (by decide) ?_
  refine va_put (D := D) (ci := 3) (v := .int (nI 0)) (ty := .int) (C := R_TS) (T := F_TS) (N := 10) hx hb ho j_TS t_TS t_TS_ok n_TS hown hK hP hD hS 0 rfl rfl 7 (by decide) (ho _ kf_TS_68) (fun _ h9 => h9) rfl (by decide +kernel) rfl rfl (Nat.le_of_ble_eq_true rfl) d_TS_begin_16 (fun H locs hP hD hS => ?_)
  have hP : va_P D classes [(a, .inr (3, [.ref b1, .ref b2, .ref b3, .ref b4, .ref b5, .int (nI p0), .long (lN f), .int (nI 0), .int (nI 0), .int (nI 0)])), (b1, .inl (cL, 108, .inr (.inl (lA re)))), (b2, .inl (cI, 36, .inl (nA pa))), (b3, .inl (cI, 288, .inl (nA wo))), (b4, .inl (cI, 36, .inl (nA wc))), (b5, .inl (cI, 36, .inl (nA wt)))] H := hP
  have hD : va_D A [(a, .inr (3, [.ref b1, .ref b2, .ref b3, .ref b4, .ref b5, .int (nI p0), .long (lN f), .int (nI 0), .int (nI 0), .int (nI 0)])), (b1, .inl (cL, 108, .inr (.inl (lA re)))), (b2, .inl (cI, 36, .inl (nA pa))), (b3, .inl (cI, 288, .inl (nA wo))), (b4, .inl (cI, 36, .inl (nA wc))), (b5, .inl (cI, 36, .inl (nA wt)))] := hD
  refine lv_aload_n hx hb d_TS_begin_19 rfl (lv_at hl 0 rfl) ?_
  refine lv_iload_n hx hb d_TS_begin_20 rfl (lv_at hl 2 rfl) ?_
  refine af_v (wc := [(a, .inr (3, [.ref b1, .ref b2, .ref b3, .ref b4, .ref b5, .int (nI p0), .long (lN f), .int (nI 0), .int (nI 0), .int (nI 0)])), (b1, .inl (cL, 108, .inr (.inl (lA re)))), (b2, .inl (cI, 36, .inl (nA pa))), (b3, .inl (cI, 288, .inl (nA wo))), (b4, .inl (cI, 36, .inl (nA wc))), (b5, .inl (cI, 36, .inl (nA wt)))]) (wr := []) (rest := []) [0, 1, 2, 3, 4, 5] [] hP hD hS hA rfl rfl (by decide) (by decide) (rn_V E (As := [.int (nI c0)]) m_TS_enter km_TS_71 (c_TS_enter l D cI cL a b1 b2 b3 b4 b5 p0 0 re c0 (by omega) (by omega) hre (pa, wo, wc, wt, f, 0, 0) (j7_mk pa wo wc wt f 0 0 hpa hwo hwc hwt hf (by omega) (by omega)) _) ⟨rfl, rfl, by dsimp only; omega, by dsimp only; omega⟩ (hP.sub [0, 1, 2, 3, 4, 5] rfl) (hD.sub [0, 1, 2, 3, 4, 5] (by decide) rfl) (q0 := 0) (ci := 3) rfl rfl rfl hl.1 rfl (Nat.le_of_ble_eq_true rfl) ⟨Nat.le_of_ble_eq_true rfl, Nat.le_of_ble_eq_true rfl⟩ d_TS_begin_21) (fun u_3 H locs hw hP hD hS => ?_)
  obtain rfl := hw
  have hP : va_P D classes [(a, .inr (3, [.ref b1, .ref b2, .ref b3, .ref b4, .ref b5, .int (nI p0), .long (lN ((tEn p0 re c0 (pa, wo, wc, wt, f, 0, 0)).2.2.2.2.1)), .int (nI ((tEn p0 re c0 (pa, wo, wc, wt, f, 0, 0)).2.2.2.2.2.1)), .int (nI ((tEn p0 re c0 (pa, wo, wc, wt, f, 0, 0)).2.2.2.2.2.2)), .int (nI 0)])), (b1, .inl (cL, 108, .inr (.inl (lA re)))), (b2, .inl (cI, 36, .inl (nA ((tEn p0 re c0 (pa, wo, wc, wt, f, 0, 0)).1)))), (b3, .inl (cI, 288, .inl (nA ((tEn p0 re c0 (pa, wo, wc, wt, f, 0, 0)).2.1)))), (b4, .inl (cI, 36, .inl (nA ((tEn p0 re c0 (pa, wo, wc, wt, f, 0, 0)).2.2.1)))), (b5, .inl (cI, 36, .inl (nA ((tEn p0 re c0 (pa, wo, wc, wt, f, 0, 0)).2.2.2.1))))] H := hP
  have hD : va_D A [(a, .inr (3, [.ref b1, .ref b2, .ref b3, .ref b4, .ref b5, .int (nI p0), .long (lN ((tEn p0 re c0 (pa, wo, wc, wt, f, 0, 0)).2.2.2.2.1)), .int (nI ((tEn p0 re c0 (pa, wo, wc, wt, f, 0, 0)).2.2.2.2.2.1)), .int (nI ((tEn p0 re c0 (pa, wo, wc, wt, f, 0, 0)).2.2.2.2.2.2)), .int (nI 0)])), (b1, .inl (cL, 108, .inr (.inl (lA re)))), (b2, .inl (cI, 36, .inl (nA ((tEn p0 re c0 (pa, wo, wc, wt, f, 0, 0)).1)))), (b3, .inl (cI, 288, .inl (nA ((tEn p0 re c0 (pa, wo, wc, wt, f, 0, 0)).2.1)))), (b4, .inl (cI, 36, .inl (nA ((tEn p0 re c0 (pa, wo, wc, wt, f, 0, 0)).2.2.1)))), (b5, .inl (cI, 36, .inl (nA ((tEn p0 re c0 (pa, wo, wc, wt, f, 0, 0)).2.2.2.1))))] := hD
  exact rt_v E hP hD hS rfl d_TS_begin_24
/-- the search: 0 found, 1 there is none, 2 the steps do not do; is it found; what stands then -/
def tR (pi : Nat) (re : Nat → Nat) (cl most : Nat) : Nat → Nat → T7 → Nat × Nat × T7
  | 0, _, st => (1, 0, st)
  | m + 1, t, st => if t < 2 * most + 2 ∧ 0 < st.2.2.2.2.2.1 then
      (if st.2.2.2.2.1 = 0 ∧ (cl = 0 ∨ 0 < tCl pi st.2.2.2.2.2.1 re st.1) then (0, 1, st)
       else if tNx st.2.2.2.2.2.1 st.2.1 st.2.2.1 st.2.2.2.1 = 0 then tR pi re cl most m (t + 1) (tBk (st.1, st.2.1, st.2.2.1, tNt st.2.2.2.2.2.1 st.2.2.1 st.2.2.2.1, st.2.2.2.2.1, st.2.2.2.2.2.1, st.2.2.2.2.2.2))
       else if st.2.2.2.2.2.2 < most then tR pi re cl most m (t + 1) (tEn pi re (tNx st.2.2.2.2.2.1 st.2.1 st.2.2.1 st.2.2.2.1 - 1) (st.1, st.2.1, st.2.2.1, tNt st.2.2.2.2.2.1 st.2.2.1 st.2.2.2.1, st.2.2.2.2.1, st.2.2.2.2.2.1, st.2.2.2.2.2.2 + 1))
       else (2, 0, (st.1, st.2.1, st.2.2.1, tNt st.2.2.2.2.2.1 st.2.2.1 st.2.2.2.1, st.2.2.2.2.1, st.2.2.2.2.2.1, st.2.2.2.2.2.2)))
    else (1, 0, st)
theorem tNx_lt (ln : Nat) (wo wc wt : Nat → Nat) : tNx ln wo wc wt ≤ 36 := by
  unfold tNx
  split
  · have := Nat.mod_lt (wo ((ln - 1) * 8 + wt (ln - 1))) (show 0 < 36 by decide)
    omega
  · omega
theorem tCl_1 (pi ln : Nat) (re pa : Nat → Nat) : tCl pi ln re pa ≤ 1 := by
  unfold tCl
  omega
theorem j7_md {pa wo wc wt : Nat → Nat} {op ln md md2 : Nat} (h : J7 (pa, wo, wc, wt, op, ln, md)) (hm : md2 ≤ 100000) : J7 (pa, wo, wc, wt, op, ln, md2) := ⟨h.1, h.2.1, h.2.2.1, h.2.2.2.1, h.2.2.2.2.1, h.2.2.2.2.2.1, hm⟩
set_option maxHeartbeats 1000000 in
set_option maxRecDepth 100000 in
theorem L_TS_run {p : Program} {l : Launch} {e : Env} {s : State} {m : MethodId} {args : Array Value} {below : List Frame} {meth : Method} {c : Code} {A : Nat → Prop} {D : va_G} {cI cL : ClassId} {c0 : Cond} {post : Int32 → va_W → Prop} (a b1 b2 b3 b4 b5 pi cl most : Nat) (re : Nat → Nat) (hpi : pi < 3) (hre : ∀ i, re i < 2 ^ 36) (hcl : cl ≤ 1) (hmost : most ≤ 100000) (E : En p s m args meth c b_TS_run 6 (c0 :: Om) R_TS (some .int) A D [(cI, .int), (cL, .long)]) : ∀ (m1 : Nat) (t : Nat) (st : T7), t ≤ 2 * most + 2 → 2 * most + 2 < t + m1 → J7 st → post (nI (tR pi re cl most m1 t st).1) [(a, .inr (3, [.ref b1, .ref b2, .ref b3, .ref b4, .ref b5, .int (nI pi), .long (lN (((tR pi re cl most m1 t st).2.2).2.2.2.2.1)), .int (nI (((tR pi re cl most m1 t st).2.2).2.2.2.2.2.1)), .int (nI (((tR pi re cl most m1 t st).2.2).2.2.2.2.2.2)), .int (nI ((tR pi re cl most m1 t st).2.1))])), (b1, .inl (cL, 108, .inr (.inl (lA re)))), (b2, .inl (cI, 36, .inl (nA (((tR pi re cl most m1 t st).2.2).1)))), (b3, .inl (cI, 288, .inl (nA (((tR pi re cl most m1 t st).2.2).2.1)))), (b4, .inl (cI, 36, .inl (nA (((tR pi re cl most m1 t st).2.2).2.2.1)))), (b5, .inl (cI, 36, .inl (nA (((tR pi re cl most m1 t st).2.2).2.2.2.1))))] → ∀ (H : Heap) (locs : List Loc), va_P D classes [(a, .inr (3, [.ref b1, .ref b2, .ref b3, .ref b4, .ref b5, .int (nI pi), .long (lN st.2.2.2.2.1), .int (nI st.2.2.2.2.2.1), .int (nI st.2.2.2.2.2.2), .int (nI 0)])), (b1, .inl (cL, 108, .inr (.inl (lA re)))), (b2, .inl (cI, 36, .inl (nA st.1))), (b3, .inl (cI, 288, .inl (nA st.2.1))), (b4, .inl (cI, 36, .inl (nA st.2.2.1))), (b5, .inl (cI, 36, .inl (nA st.2.2.2.1)))] H → va_D A [(a, .inr (3, [.ref b1, .ref b2, .ref b3, .ref b4, .ref b5, .int (nI pi), .long (lN st.2.2.2.2.1), .int (nI st.2.2.2.2.2.1), .int (nI st.2.2.2.2.2.2), .int (nI 0)])), (b1, .inl (cL, 108, .inr (.inl (lA re)))), (b2, .inl (cI, 36, .inl (nA st.1))), (b3, .inl (cI, 288, .inl (nA st.2.1))), (b4, .inl (cI, 36, .inl (nA st.2.2.1))), (b5, .inl (cI, 36, .inl (nA st.2.2.2.1)))] → va_S A s.heap H locs → ∀ ls : Array Slot, lv_has ls 6 [(0, .ref a), (1, .int (nI cl)), (2, .int (nI most)), (3, .int (nI (2 * most + 2))), (4, .int (nI t))] → W p l e { frames := 4, cells := 0, slots := 0, locals := 93 } s m args below meth c H locs 0 0 (MQ below (qI D [(cI, .int), (cL, .long)] post A) args s 0 0 A) (F0 m 9 ls []) := by
  obtain ⟨hx, hb, hml, hown, hts, hr, hlk, hA, hK, hN⟩ := id E
  have ho : ∀ q ∈ Om, q.before _ s = true := fun q h => hts q (List.mem_cons_of_mem _ h)
  intro m1
  induction m1 with
  | zero =>
    intro t st h1 h2 hj hq
    exact absurd h2 (by omega)
  | succ m1 ih =>
    intro t st h1 h2 hj hq H locs hP hD hS ls hl
    refine lv_iload hx hb d_TS_run_9 (lv_at hl 4 rfl) ?_
    refine lv_iload_n hx hb d_TS_run_11 rfl (lv_at hl 3 rfl) ?_
    refine nr_icmp_ge (tgt := 99) hx hb d_TS_run_12 (by decide) (by omega) (by omega) (fun h_1 => ?_) (fun h_1 => ?_)
    · refine lv_iconst (v := nI 1) hx hb d_TS_run_99 (by decide) ?_
      exact rt_i E hP hD hS (by rw [tR] at hq; rw [if_neg (by omega)] at hq; exact hq) d_TS_run_100
    · have hj6 := hj.2.2.2.2.2.1
      have hj7 := hj.2.2.2.2.2.2
      have hj5 := hj.2.2.2.2.1
      refine lv_aload_n hx hb d_TS_run_15 rfl (lv_at hl 0 rfl) ?_
      refine va_get (D := D) (ci := 3) (v := .int (nI st.2.2.2.2.2.1)) (C := R_TS) (T := F_TS) (N := 10) hx hb ho j_TS hown hK hP 0 rfl rfl 7 (by decide) (ho _ kf_TS_68) (fun _ h9 => h9) rfl d_TS_run_16 ?_
      refine nr_if_le (tgt := 99) hx hb d_TS_run_19 (by decide) (by omega) (fun h_2 => ?_) (fun h_2 => ?_)
      · refine lv_iconst (v := nI 1) hx hb d_TS_run_99 (by decide) ?_
        exact rt_i E hP hD hS (by rw [tR] at hq; rw [if_neg (by omega)] at hq; exact hq) d_TS_run_100
      · refine lv_aload_n hx hb d_TS_run_22 rfl (lv_at hl 0 rfl) ?_
        refine va_get (D := D) (ci := 3) (v := .long (lN st.2.2.2.2.1)) (C := R_TS) (T := F_TS) (N := 10) hx hb ho j_TS hown hK hP 0 rfl rfl 6 (by decide) (ho _ kf_TS_64) (fun _ h9 => h9) rfl d_TS_run_23 ?_
        refine lv_lconst (v := lN 0) hx hb d_TS_run_26 rfl ?_
        refine nr_lcmp_ne (tgt := 49) hx hb d_TS_run_27 d_TS_run_28 (by decide) (by omega) (by omega) (fun h_3 => ?_) (fun h_3 => ?_)
        · refine lv_aload_n hx hb d_TS_run_49 rfl (lv_at hl 0 rfl) ?_
          refine af_i (wc := [(a, .inr (3, [.ref b1, .ref b2, .ref b3, .ref b4, .ref b5, .int (nI pi), .long (lN st.2.2.2.2.1), .int (nI st.2.2.2.2.2.1), .int (nI st.2.2.2.2.2.2), .int (nI 0)])), (b1, .inl (cL, 108, .inr (.inl (lA re)))), (b2, .inl (cI, 36, .inl (nA st.1))), (b3, .inl (cI, 288, .inl (nA st.2.1))), (b4, .inl (cI, 36, .inl (nA st.2.2.1))), (b5, .inl (cI, 36, .inl (nA st.2.2.2.1)))]) (wr := []) (rest := []) [0, 1, 2, 3, 4, 5] [] hP hD hS hA rfl rfl (by decide) (by decide) (rn_V E (As := []) m_TS_nextCell km_TS_79 (c_TS_nextCell l D cI cL a b1 b2 b3 b4 b5 pi st.2.2.2.2.1 st.2.2.2.2.2.1 st.2.2.2.2.2.2 0 re st.1 st.2.1 st.2.2.1 st.2.2.2.1 (by omega) (by omega) hj.2.1 hj.2.2.1 hj.2.2.2.1 _) ⟨rfl, rfl, by dsimp only; omega, by dsimp only; omega⟩ (hP.sub [0, 1, 2, 3, 4, 5] rfl) (hD.sub [0, 1, 2, 3, 4, 5] (by decide) rfl) (q0 := 0) (ci := 3) rfl rfl rfl hl.1 rfl (Nat.le_of_ble_eq_true rfl) ⟨Nat.le_of_ble_eq_true rfl, Nat.le_of_ble_eq_true rfl⟩ d_TS_run_50) (fun r_5 u_4 H locs hw hP hD hS => ?_)
          obtain ⟨rfl, rfl⟩ := hw
          have hP : va_P D classes [(a, .inr (3, [.ref b1, .ref b2, .ref b3, .ref b4, .ref b5, .int (nI pi), .long (lN st.2.2.2.2.1), .int (nI st.2.2.2.2.2.1), .int (nI st.2.2.2.2.2.2), .int (nI 0)])), (b1, .inl (cL, 108, .inr (.inl (lA re)))), (b2, .inl (cI, 36, .inl (nA st.1))), (b3, .inl (cI, 288, .inl (nA st.2.1))), (b4, .inl (cI, 36, .inl (nA st.2.2.1))), (b5, .inl (cI, 36, .inl (nA (tNt st.2.2.2.2.2.1 st.2.2.1 st.2.2.2.1))))] H := hP
          have hD : va_D A [(a, .inr (3, [.ref b1, .ref b2, .ref b3, .ref b4, .ref b5, .int (nI pi), .long (lN st.2.2.2.2.1), .int (nI st.2.2.2.2.2.1), .int (nI st.2.2.2.2.2.2), .int (nI 0)])), (b1, .inl (cL, 108, .inr (.inl (lA re)))), (b2, .inl (cI, 36, .inl (nA st.1))), (b3, .inl (cI, 288, .inl (nA st.2.1))), (b4, .inl (cI, 36, .inl (nA st.2.2.1))), (b5, .inl (cI, 36, .inl (nA (tNt st.2.2.2.2.2.1 st.2.2.1 st.2.2.2.1))))] := hD
          have hnx := tNx_lt st.2.2.2.2.2.1 st.2.1 st.2.2.1 st.2.2.2.1
          rcases hjx : tNx st.2.2.2.2.2.1 st.2.1 st.2.2.1 st.2.2.2.1 with _ | kx
          · refine lv_istore (lv' := [(5, .int (nI 0 - 1)), (0, .ref a), (1, .int (nI cl)), (2, .int (nI most)), (3, .int (nI (2 * most + 2))), (4, .int (nI t))]) hx hb d_TS_run_53 hl (by decide) rfl (fun ls hl => ?_)
            refine lv_iload hx hb d_TS_run_55 (lv_at hl 0 rfl) ?_
            refine lv_if_ge (tgt := 67) hx hb d_TS_run_57 (by decide) (fun h9 => absurd h9 (by decide)) (fun _ => ?_)
            refine lv_aload_n hx hb d_TS_run_60 rfl (lv_at hl 1 rfl) ?_
            refine af_v (wc := [(a, .inr (3, [.ref b1, .ref b2, .ref b3, .ref b4, .ref b5, .int (nI pi), .long (lN st.2.2.2.2.1), .int (nI st.2.2.2.2.2.1), .int (nI st.2.2.2.2.2.2), .int (nI 0)])), (b1, .inl (cL, 108, .inr (.inl (lA re)))), (b2, .inl (cI, 36, .inl (nA st.1))), (b3, .inl (cI, 288, .inl (nA st.2.1))), (b4, .inl (cI, 36, .inl (nA st.2.2.1))), (b5, .inl (cI, 36, .inl (nA (tNt st.2.2.2.2.2.1 st.2.2.1 st.2.2.2.1))))]) (wr := []) (rest := []) [0, 1, 2, 3, 4, 5] [] hP hD hS hA rfl rfl (by decide) (by decide) (rn_V E (As := []) m_TS_goBack km_TS_83 (c_TS_goBack l D cI cL a b1 b2 b3 b4 b5 pi st.2.2.2.2.1 st.2.2.2.2.2.1 st.2.2.2.2.2.2 0 re st.1 st.2.1 st.2.2.1 (tNt st.2.2.2.2.2.1 st.2.2.1 st.2.2.2.1) (by omega) (by omega) hj.1 _) ⟨rfl, rfl, by dsimp only; omega, by dsimp only; omega⟩ (hP.sub [0, 1, 2, 3, 4, 5] rfl) (hD.sub [0, 1, 2, 3, 4, 5] (by decide) rfl) (q0 := 0) (ci := 3) rfl rfl rfl hl.1 rfl (Nat.le_of_ble_eq_true rfl) ⟨Nat.le_of_ble_eq_true rfl, Nat.le_of_ble_eq_true rfl⟩ d_TS_run_61) (fun u_6 H locs hw hP hD hS => ?_)
            obtain rfl := hw
            have hP : va_P D classes [(a, .inr (3, [.ref b1, .ref b2, .ref b3, .ref b4, .ref b5, .int (nI pi), .long (lN (st.2.2.2.2.1 ||| 2 ^ st.1 (st.2.2.2.2.2.1 - 1))), .int (nI (st.2.2.2.2.2.1 - 1)), .int (nI st.2.2.2.2.2.2), .int (nI 0)])), (b1, .inl (cL, 108, .inr (.inl (lA re)))), (b2, .inl (cI, 36, .inl (nA st.1))), (b3, .inl (cI, 288, .inl (nA st.2.1))), (b4, .inl (cI, 36, .inl (nA st.2.2.1))), (b5, .inl (cI, 36, .inl (nA (tNt st.2.2.2.2.2.1 st.2.2.1 st.2.2.2.1))))] H := hP
            have hD : va_D A [(a, .inr (3, [.ref b1, .ref b2, .ref b3, .ref b4, .ref b5, .int (nI pi), .long (lN (st.2.2.2.2.1 ||| 2 ^ st.1 (st.2.2.2.2.2.1 - 1))), .int (nI (st.2.2.2.2.2.1 - 1)), .int (nI st.2.2.2.2.2.2), .int (nI 0)])), (b1, .inl (cL, 108, .inr (.inl (lA re)))), (b2, .inl (cI, 36, .inl (nA st.1))), (b3, .inl (cI, 288, .inl (nA st.2.1))), (b4, .inl (cI, 36, .inl (nA st.2.2.1))), (b5, .inl (cI, 36, .inl (nA (tNt st.2.2.2.2.2.1 st.2.2.1 st.2.2.2.1))))] := hD
            refine lv_goto (tgt := 93) hx hb d_TS_run_64 (by decide) ?_
            refine nr_iinc (lv' := [(4, .int (nI (t + 1))), (5, .int (nI 0 - 1)), (0, .ref a), (1, .int (nI cl)), (2, .int (nI most)), (3, .int (nI (2 * most + 2)))]) hx hb d_TS_run_93 hl (k := 5) rfl (by decide) rfl (fun ls hl => ?_)
            refine lv_goto (tgt := 9) hx hb d_TS_run_96 (by decide) ?_
            exact ih (t + 1) (tBk (st.1, st.2.1, st.2.2.1, tNt st.2.2.2.2.2.1 st.2.2.1 st.2.2.2.1, st.2.2.2.2.1, st.2.2.2.2.2.1, st.2.2.2.2.2.2)) (by omega) (by omega) (j7_bk (j7_nt hj)) (by rw [tR] at hq; rw [if_pos ⟨by omega, by omega⟩, if_neg (by omega), if_pos (by omega)] at hq; exact hq) _ _ hP hD hS ls (lv_sub hl [2, 3, 4, 5, 0] rfl)
          · rw [nI_pred]
            refine lv_istore (lv' := [(5, .int (nI kx)), (0, .ref a), (1, .int (nI cl)), (2, .int (nI most)), (3, .int (nI (2 * most + 2))), (4, .int (nI t))]) hx hb d_TS_run_53 hl (by decide) rfl (fun ls hl => ?_)
            refine lv_iload hx hb d_TS_run_55 (lv_at hl 0 rfl) ?_
            refine nr_if_ge (tgt := 67) hx hb d_TS_run_57 (by decide) (by omega) ?_
            refine lv_aload_n hx hb d_TS_run_67 rfl (lv_at hl 1 rfl) ?_
            refine va_get (D := D) (ci := 3) (v := .int (nI st.2.2.2.2.2.2)) (C := R_TS) (T := F_TS) (N := 10) hx hb ho j_TS hown hK hP 0 rfl rfl 8 (by decide) (ho _ kf_TS_54) (fun _ h9 => h9) rfl d_TS_run_68 ?_
            refine lv_iload_n hx hb d_TS_run_71 rfl (lv_at hl 3 rfl) ?_
            refine nr_icmp_lt (tgt := 77) hx hb d_TS_run_72 (by decide) (by omega) (by omega) (fun h_8 => ?_) (fun h_8 => ?_)
            · refine lv_aload_n hx hb d_TS_run_77 rfl (lv_at hl 1 rfl) ?_
              refine lv_dup hx hb d_TS_run_78 rfl ?_
              refine va_get (D := D) (ci := 3) (v := .int (nI st.2.2.2.2.2.2)) (C := R_TS) (T := F_TS) (N := 10) hx hb ho j_TS hown hK hP 0 rfl rfl 8 (by decide) (ho _ kf_TS_54) (fun _ h9 => h9) rfl d_TS_run_79 ?_
              refine lv_iconst (v := nI 1) hx hb d_TS_run_82 (by decide) ?_
              refine nr_iadd hx hb d_TS_run_83 ?_
              refine va_put (D := D) (ci := 3) (v := .int (nI (st.2.2.2.2.2.2 + 1))) (ty := .int) (C := R_TS) (T := F_TS) (N := 10) hx hb ho j_TS t_TS t_TS_ok n_TS hown hK hP hD hS 0 rfl rfl 8 (by decide) (ho _ kf_TS_54) (fun _ h9 => h9) rfl (by decide +kernel) rfl rfl (Nat.le_of_ble_eq_true rfl) d_TS_run_84 (fun H locs hP hD hS => ?_)
              have hP : va_P D classes [(a, .inr (3, [.ref b1, .ref b2, .ref b3, .ref b4, .ref b5, .int (nI pi), .long (lN st.2.2.2.2.1), .int (nI st.2.2.2.2.2.1), .int (nI (st.2.2.2.2.2.2 + 1)), .int (nI 0)])), (b1, .inl (cL, 108, .inr (.inl (lA re)))), (b2, .inl (cI, 36, .inl (nA st.1))), (b3, .inl (cI, 288, .inl (nA st.2.1))), (b4, .inl (cI, 36, .inl (nA st.2.2.1))), (b5, .inl (cI, 36, .inl (nA (tNt st.2.2.2.2.2.1 st.2.2.1 st.2.2.2.1))))] H := hP
              have hD : va_D A [(a, .inr (3, [.ref b1, .ref b2, .ref b3, .ref b4, .ref b5, .int (nI pi), .long (lN st.2.2.2.2.1), .int (nI st.2.2.2.2.2.1), .int (nI (st.2.2.2.2.2.2 + 1)), .int (nI 0)])), (b1, .inl (cL, 108, .inr (.inl (lA re)))), (b2, .inl (cI, 36, .inl (nA st.1))), (b3, .inl (cI, 288, .inl (nA st.2.1))), (b4, .inl (cI, 36, .inl (nA st.2.2.1))), (b5, .inl (cI, 36, .inl (nA (tNt st.2.2.2.2.2.1 st.2.2.1 st.2.2.2.1))))] := hD
              refine lv_aload_n hx hb d_TS_run_87 rfl (lv_at hl 1 rfl) ?_
              refine lv_iload hx hb d_TS_run_88 (lv_at hl 0 rfl) ?_
              refine af_v (wc := [(a, .inr (3, [.ref b1, .ref b2, .ref b3, .ref b4, .ref b5, .int (nI pi), .long (lN st.2.2.2.2.1), .int (nI st.2.2.2.2.2.1), .int (nI (st.2.2.2.2.2.2 + 1)), .int (nI 0)])), (b1, .inl (cL, 108, .inr (.inl (lA re)))), (b2, .inl (cI, 36, .inl (nA st.1))), (b3, .inl (cI, 288, .inl (nA st.2.1))), (b4, .inl (cI, 36, .inl (nA st.2.2.1))), (b5, .inl (cI, 36, .inl (nA (tNt st.2.2.2.2.2.1 st.2.2.1 st.2.2.2.1))))]) (wr := []) (rest := []) [0, 1, 2, 3, 4, 5] [] hP hD hS hA rfl rfl (by decide) (by decide) (rn_V E (As := [.int (nI kx)]) m_TS_enter km_TS_71 (c_TS_enter l D cI cL a b1 b2 b3 b4 b5 pi 0 re kx (by omega) (by omega) hre (st.1, st.2.1, st.2.2.1, tNt st.2.2.2.2.2.1 st.2.2.1 st.2.2.2.1, st.2.2.2.2.1, st.2.2.2.2.2.1, st.2.2.2.2.2.2 + 1) (j7_md (j7_nt hj) (by omega)) _) ⟨rfl, rfl, by dsimp only; omega, by dsimp only; omega⟩ (hP.sub [0, 1, 2, 3, 4, 5] rfl) (hD.sub [0, 1, 2, 3, 4, 5] (by decide) rfl) (q0 := 0) (ci := 3) rfl rfl rfl hl.1 rfl (Nat.le_of_ble_eq_true rfl) ⟨Nat.le_of_ble_eq_true rfl, Nat.le_of_ble_eq_true rfl⟩ d_TS_run_90) (fun u_9 H locs hw hP hD hS => ?_)
              obtain rfl := hw
              have hP : va_P D classes [(a, .inr (3, [.ref b1, .ref b2, .ref b3, .ref b4, .ref b5, .int (nI pi), .long (lN ((tEn pi re kx (st.1, st.2.1, st.2.2.1, tNt st.2.2.2.2.2.1 st.2.2.1 st.2.2.2.1, st.2.2.2.2.1, st.2.2.2.2.2.1, st.2.2.2.2.2.2 + 1)).2.2.2.2.1)), .int (nI ((tEn pi re kx (st.1, st.2.1, st.2.2.1, tNt st.2.2.2.2.2.1 st.2.2.1 st.2.2.2.1, st.2.2.2.2.1, st.2.2.2.2.2.1, st.2.2.2.2.2.2 + 1)).2.2.2.2.2.1)), .int (nI ((tEn pi re kx (st.1, st.2.1, st.2.2.1, tNt st.2.2.2.2.2.1 st.2.2.1 st.2.2.2.1, st.2.2.2.2.1, st.2.2.2.2.2.1, st.2.2.2.2.2.2 + 1)).2.2.2.2.2.2)), .int (nI 0)])), (b1, .inl (cL, 108, .inr (.inl (lA re)))), (b2, .inl (cI, 36, .inl (nA ((tEn pi re kx (st.1, st.2.1, st.2.2.1, tNt st.2.2.2.2.2.1 st.2.2.1 st.2.2.2.1, st.2.2.2.2.1, st.2.2.2.2.2.1, st.2.2.2.2.2.2 + 1)).1)))), (b3, .inl (cI, 288, .inl (nA ((tEn pi re kx (st.1, st.2.1, st.2.2.1, tNt st.2.2.2.2.2.1 st.2.2.1 st.2.2.2.1, st.2.2.2.2.1, st.2.2.2.2.2.1, st.2.2.2.2.2.2 + 1)).2.1)))), (b4, .inl (cI, 36, .inl (nA ((tEn pi re kx (st.1, st.2.1, st.2.2.1, tNt st.2.2.2.2.2.1 st.2.2.1 st.2.2.2.1, st.2.2.2.2.1, st.2.2.2.2.2.1, st.2.2.2.2.2.2 + 1)).2.2.1)))), (b5, .inl (cI, 36, .inl (nA ((tEn pi re kx (st.1, st.2.1, st.2.2.1, tNt st.2.2.2.2.2.1 st.2.2.1 st.2.2.2.1, st.2.2.2.2.1, st.2.2.2.2.2.1, st.2.2.2.2.2.2 + 1)).2.2.2.1))))] H := hP
              have hD : va_D A [(a, .inr (3, [.ref b1, .ref b2, .ref b3, .ref b4, .ref b5, .int (nI pi), .long (lN ((tEn pi re kx (st.1, st.2.1, st.2.2.1, tNt st.2.2.2.2.2.1 st.2.2.1 st.2.2.2.1, st.2.2.2.2.1, st.2.2.2.2.2.1, st.2.2.2.2.2.2 + 1)).2.2.2.2.1)), .int (nI ((tEn pi re kx (st.1, st.2.1, st.2.2.1, tNt st.2.2.2.2.2.1 st.2.2.1 st.2.2.2.1, st.2.2.2.2.1, st.2.2.2.2.2.1, st.2.2.2.2.2.2 + 1)).2.2.2.2.2.1)), .int (nI ((tEn pi re kx (st.1, st.2.1, st.2.2.1, tNt st.2.2.2.2.2.1 st.2.2.1 st.2.2.2.1, st.2.2.2.2.1, st.2.2.2.2.2.1, st.2.2.2.2.2.2 + 1)).2.2.2.2.2.2)), .int (nI 0)])), (b1, .inl (cL, 108, .inr (.inl (lA re)))), (b2, .inl (cI, 36, .inl (nA ((tEn pi re kx (st.1, st.2.1, st.2.2.1, tNt st.2.2.2.2.2.1 st.2.2.1 st.2.2.2.1, st.2.2.2.2.1, st.2.2.2.2.2.1, st.2.2.2.2.2.2 + 1)).1)))), (b3, .inl (cI, 288, .inl (nA ((tEn pi re kx (st.1, st.2.1, st.2.2.1, tNt st.2.2.2.2.2.1 st.2.2.1 st.2.2.2.1, st.2.2.2.2.1, st.2.2.2.2.2.1, st.2.2.2.2.2.2 + 1)).2.1)))), (b4, .inl (cI, 36, .inl (nA ((tEn pi re kx (st.1, st.2.1, st.2.2.1, tNt st.2.2.2.2.2.1 st.2.2.1 st.2.2.2.1, st.2.2.2.2.1, st.2.2.2.2.2.1, st.2.2.2.2.2.2 + 1)).2.2.1)))), (b5, .inl (cI, 36, .inl (nA ((tEn pi re kx (st.1, st.2.1, st.2.2.1, tNt st.2.2.2.2.2.1 st.2.2.1 st.2.2.2.1, st.2.2.2.2.1, st.2.2.2.2.2.1, st.2.2.2.2.2.2 + 1)).2.2.2.1))))] := hD
              refine nr_iinc (lv' := [(4, .int (nI (t + 1))), (5, .int (nI kx)), (0, .ref a), (1, .int (nI cl)), (2, .int (nI most)), (3, .int (nI (2 * most + 2)))]) hx hb d_TS_run_93 hl (k := 5) rfl (by decide) rfl (fun ls hl => ?_)
              refine lv_goto (tgt := 9) hx hb d_TS_run_96 (by decide) ?_
              exact ih (t + 1) (tEn pi re kx (st.1, st.2.1, st.2.2.1, tNt st.2.2.2.2.2.1 st.2.2.1 st.2.2.2.1, st.2.2.2.2.1, st.2.2.2.2.2.1, st.2.2.2.2.2.2 + 1)) (by omega) (by omega) (j7_en (by omega) (j7_md (j7_nt hj) (by omega))) (by rw [tR] at hq; rw [if_pos ⟨by omega, by omega⟩, if_neg (by omega), if_neg (by omega), if_pos (by omega), show tNx st.2.2.2.2.2.1 st.2.1 st.2.2.1 st.2.2.2.1 - 1 = kx by omega] at hq; exact hq) _ _ hP hD hS ls (lv_sub hl [2, 3, 4, 5, 0] rfl)
            · refine lv_iconst (v := nI 2) hx hb d_TS_run_75 (by decide) ?_
              exact rt_i E hP hD hS (by rw [tR] at hq; rw [if_pos ⟨by omega, by omega⟩, if_neg (by omega), if_neg (by omega), if_neg (by omega)] at hq; exact hq) d_TS_run_76
        · refine lv_iload_n hx hb d_TS_run_31 rfl (lv_at hl 1 rfl) ?_
          refine nr_if_eq (tgt := 42) hx hb d_TS_run_32 (by decide) (by omega) (fun h_11 => ?_) (fun h_11 => ?_)
          · refine lv_aload_n hx hb d_TS_run_42 rfl (lv_at hl 0 rfl) ?_
            refine lv_iconst (v := nI 1) hx hb d_TS_run_43 (by decide) ?_
            refine va_put (D := D) (ci := 3) (v := .int (nI 1)) (ty := .boolean) (C := R_TS) (T := F_TS) (N := 10) hx hb ho j_TS t_TS t_TS_ok n_TS hown hK hP hD hS 0 rfl rfl 9 (by decide) (ho _ kf_TS_50) (fun _ h9 => h9) rfl (by decide +kernel) (by first | rfl | decide | assumption) (by first | rfl | decide | assumption) (Nat.le_of_ble_eq_true rfl) d_TS_run_44 (fun H locs hP hD hS => ?_)
            have hP : va_P D classes [(a, .inr (3, [.ref b1, .ref b2, .ref b3, .ref b4, .ref b5, .int (nI pi), .long (lN st.2.2.2.2.1), .int (nI st.2.2.2.2.2.1), .int (nI st.2.2.2.2.2.2), .int (nI 1)])), (b1, .inl (cL, 108, .inr (.inl (lA re)))), (b2, .inl (cI, 36, .inl (nA st.1))), (b3, .inl (cI, 288, .inl (nA st.2.1))), (b4, .inl (cI, 36, .inl (nA st.2.2.1))), (b5, .inl (cI, 36, .inl (nA st.2.2.2.1)))] H := hP
            have hD : va_D A [(a, .inr (3, [.ref b1, .ref b2, .ref b3, .ref b4, .ref b5, .int (nI pi), .long (lN st.2.2.2.2.1), .int (nI st.2.2.2.2.2.1), .int (nI st.2.2.2.2.2.2), .int (nI 1)])), (b1, .inl (cL, 108, .inr (.inl (lA re)))), (b2, .inl (cI, 36, .inl (nA st.1))), (b3, .inl (cI, 288, .inl (nA st.2.1))), (b4, .inl (cI, 36, .inl (nA st.2.2.1))), (b5, .inl (cI, 36, .inl (nA st.2.2.2.1)))] := hD
            refine lv_iconst (v := nI 0) hx hb d_TS_run_47 (by decide) ?_
            exact rt_i E hP hD hS (by rw [tR] at hq; rw [if_pos ⟨by omega, by omega⟩, if_pos ⟨by omega, by omega⟩] at hq; exact hq) d_TS_run_48
          · refine lv_aload_n hx hb d_TS_run_35 rfl (lv_at hl 0 rfl) ?_
            have hcl1 := tCl_1 pi st.2.2.2.2.2.1 re st.1
            refine af_i (wc := [(a, .inr (3, [.ref b1, .ref b2, .ref b3, .ref b4, .ref b5, .int (nI pi), .long (lN st.2.2.2.2.1), .int (nI st.2.2.2.2.2.1), .int (nI st.2.2.2.2.2.2), .int (nI 0)])), (b1, .inl (cL, 108, .inr (.inl (lA re)))), (b2, .inl (cI, 36, .inl (nA st.1))), (b3, .inl (cI, 288, .inl (nA st.2.1))), (b4, .inl (cI, 36, .inl (nA st.2.2.1))), (b5, .inl (cI, 36, .inl (nA st.2.2.2.1)))]) (wr := []) (rest := []) [0, 1, 2, 3, 4, 5] [] hP hD hS hA rfl rfl (by decide) (by decide) (rn_V E (As := []) m_TS_closes km_TS_75 (c_TS_closes l D cI cL a b1 b2 b3 b4 b5 pi st.2.2.2.2.1 st.2.2.2.2.2.1 st.2.2.2.2.2.2 0 re st.1 st.2.1 st.2.2.1 st.2.2.2.1 (by omega) (by omega) hj.1 hpi hre _) ⟨rfl, rfl, by dsimp only; omega, by dsimp only; omega⟩ (hP.sub [0, 1, 2, 3, 4, 5] rfl) (hD.sub [0, 1, 2, 3, 4, 5] (by decide) rfl) (q0 := 0) (ci := 3) rfl rfl rfl hl.1 rfl (Nat.le_of_ble_eq_true rfl) ⟨Nat.le_of_ble_eq_true rfl, Nat.le_of_ble_eq_true rfl⟩ d_TS_run_36) (fun r_13 u_12 H locs hw hP hD hS => ?_)
            obtain ⟨rfl, rfl⟩ := hw
            have hP : va_P D classes [(a, .inr (3, [.ref b1, .ref b2, .ref b3, .ref b4, .ref b5, .int (nI pi), .long (lN st.2.2.2.2.1), .int (nI st.2.2.2.2.2.1), .int (nI st.2.2.2.2.2.2), .int (nI 0)])), (b1, .inl (cL, 108, .inr (.inl (lA re)))), (b2, .inl (cI, 36, .inl (nA st.1))), (b3, .inl (cI, 288, .inl (nA st.2.1))), (b4, .inl (cI, 36, .inl (nA st.2.2.1))), (b5, .inl (cI, 36, .inl (nA st.2.2.2.1)))] H := hP
            have hD : va_D A [(a, .inr (3, [.ref b1, .ref b2, .ref b3, .ref b4, .ref b5, .int (nI pi), .long (lN st.2.2.2.2.1), .int (nI st.2.2.2.2.2.1), .int (nI st.2.2.2.2.2.2), .int (nI 0)])), (b1, .inl (cL, 108, .inr (.inl (lA re)))), (b2, .inl (cI, 36, .inl (nA st.1))), (b3, .inl (cI, 288, .inl (nA st.2.1))), (b4, .inl (cI, 36, .inl (nA st.2.2.1))), (b5, .inl (cI, 36, .inl (nA st.2.2.2.1)))] := hD
            refine nr_if_eq (tgt := 49) hx hb d_TS_run_39 (by decide) (by omega) (fun h_14 => ?_) (fun h_14 => ?_)
            · refine lv_aload_n hx hb d_TS_run_49 rfl (lv_at hl 0 rfl) ?_
              refine af_i (wc := [(a, .inr (3, [.ref b1, .ref b2, .ref b3, .ref b4, .ref b5, .int (nI pi), .long (lN st.2.2.2.2.1), .int (nI st.2.2.2.2.2.1), .int (nI st.2.2.2.2.2.2), .int (nI 0)])), (b1, .inl (cL, 108, .inr (.inl (lA re)))), (b2, .inl (cI, 36, .inl (nA st.1))), (b3, .inl (cI, 288, .inl (nA st.2.1))), (b4, .inl (cI, 36, .inl (nA st.2.2.1))), (b5, .inl (cI, 36, .inl (nA st.2.2.2.1)))]) (wr := []) (rest := []) [0, 1, 2, 3, 4, 5] [] hP hD hS hA rfl rfl (by decide) (by decide) (rn_V E (As := []) m_TS_nextCell km_TS_79 (c_TS_nextCell l D cI cL a b1 b2 b3 b4 b5 pi st.2.2.2.2.1 st.2.2.2.2.2.1 st.2.2.2.2.2.2 0 re st.1 st.2.1 st.2.2.1 st.2.2.2.1 (by omega) (by omega) hj.2.1 hj.2.2.1 hj.2.2.2.1 _) ⟨rfl, rfl, by dsimp only; omega, by dsimp only; omega⟩ (hP.sub [0, 1, 2, 3, 4, 5] rfl) (hD.sub [0, 1, 2, 3, 4, 5] (by decide) rfl) (q0 := 0) (ci := 3) rfl rfl rfl hl.1 rfl (Nat.le_of_ble_eq_true rfl) ⟨Nat.le_of_ble_eq_true rfl, Nat.le_of_ble_eq_true rfl⟩ d_TS_run_50) (fun r_16 u_15 H locs hw hP hD hS => ?_)
              obtain ⟨rfl, rfl⟩ := hw
              have hP : va_P D classes [(a, .inr (3, [.ref b1, .ref b2, .ref b3, .ref b4, .ref b5, .int (nI pi), .long (lN st.2.2.2.2.1), .int (nI st.2.2.2.2.2.1), .int (nI st.2.2.2.2.2.2), .int (nI 0)])), (b1, .inl (cL, 108, .inr (.inl (lA re)))), (b2, .inl (cI, 36, .inl (nA st.1))), (b3, .inl (cI, 288, .inl (nA st.2.1))), (b4, .inl (cI, 36, .inl (nA st.2.2.1))), (b5, .inl (cI, 36, .inl (nA (tNt st.2.2.2.2.2.1 st.2.2.1 st.2.2.2.1))))] H := hP
              have hD : va_D A [(a, .inr (3, [.ref b1, .ref b2, .ref b3, .ref b4, .ref b5, .int (nI pi), .long (lN st.2.2.2.2.1), .int (nI st.2.2.2.2.2.1), .int (nI st.2.2.2.2.2.2), .int (nI 0)])), (b1, .inl (cL, 108, .inr (.inl (lA re)))), (b2, .inl (cI, 36, .inl (nA st.1))), (b3, .inl (cI, 288, .inl (nA st.2.1))), (b4, .inl (cI, 36, .inl (nA st.2.2.1))), (b5, .inl (cI, 36, .inl (nA (tNt st.2.2.2.2.2.1 st.2.2.1 st.2.2.2.1))))] := hD
              have hnx := tNx_lt st.2.2.2.2.2.1 st.2.1 st.2.2.1 st.2.2.2.1
              rcases hjx : tNx st.2.2.2.2.2.1 st.2.1 st.2.2.1 st.2.2.2.1 with _ | kx
              · refine lv_istore (lv' := [(5, .int (nI 0 - 1)), (0, .ref a), (1, .int (nI cl)), (2, .int (nI most)), (3, .int (nI (2 * most + 2))), (4, .int (nI t))]) hx hb d_TS_run_53 hl (by decide) rfl (fun ls hl => ?_)
                refine lv_iload hx hb d_TS_run_55 (lv_at hl 0 rfl) ?_
                refine lv_if_ge (tgt := 67) hx hb d_TS_run_57 (by decide) (fun h9 => absurd h9 (by decide)) (fun _ => ?_)
                refine lv_aload_n hx hb d_TS_run_60 rfl (lv_at hl 1 rfl) ?_
                refine af_v (wc := [(a, .inr (3, [.ref b1, .ref b2, .ref b3, .ref b4, .ref b5, .int (nI pi), .long (lN st.2.2.2.2.1), .int (nI st.2.2.2.2.2.1), .int (nI st.2.2.2.2.2.2), .int (nI 0)])), (b1, .inl (cL, 108, .inr (.inl (lA re)))), (b2, .inl (cI, 36, .inl (nA st.1))), (b3, .inl (cI, 288, .inl (nA st.2.1))), (b4, .inl (cI, 36, .inl (nA st.2.2.1))), (b5, .inl (cI, 36, .inl (nA (tNt st.2.2.2.2.2.1 st.2.2.1 st.2.2.2.1))))]) (wr := []) (rest := []) [0, 1, 2, 3, 4, 5] [] hP hD hS hA rfl rfl (by decide) (by decide) (rn_V E (As := []) m_TS_goBack km_TS_83 (c_TS_goBack l D cI cL a b1 b2 b3 b4 b5 pi st.2.2.2.2.1 st.2.2.2.2.2.1 st.2.2.2.2.2.2 0 re st.1 st.2.1 st.2.2.1 (tNt st.2.2.2.2.2.1 st.2.2.1 st.2.2.2.1) (by omega) (by omega) hj.1 _) ⟨rfl, rfl, by dsimp only; omega, by dsimp only; omega⟩ (hP.sub [0, 1, 2, 3, 4, 5] rfl) (hD.sub [0, 1, 2, 3, 4, 5] (by decide) rfl) (q0 := 0) (ci := 3) rfl rfl rfl hl.1 rfl (Nat.le_of_ble_eq_true rfl) ⟨Nat.le_of_ble_eq_true rfl, Nat.le_of_ble_eq_true rfl⟩ d_TS_run_61) (fun u_17 H locs hw hP hD hS => ?_)
                obtain rfl := hw
                have hP : va_P D classes [(a, .inr (3, [.ref b1, .ref b2, .ref b3, .ref b4, .ref b5, .int (nI pi), .long (lN (st.2.2.2.2.1 ||| 2 ^ st.1 (st.2.2.2.2.2.1 - 1))), .int (nI (st.2.2.2.2.2.1 - 1)), .int (nI st.2.2.2.2.2.2), .int (nI 0)])), (b1, .inl (cL, 108, .inr (.inl (lA re)))), (b2, .inl (cI, 36, .inl (nA st.1))), (b3, .inl (cI, 288, .inl (nA st.2.1))), (b4, .inl (cI, 36, .inl (nA st.2.2.1))), (b5, .inl (cI, 36, .inl (nA (tNt st.2.2.2.2.2.1 st.2.2.1 st.2.2.2.1))))] H := hP
                have hD : va_D A [(a, .inr (3, [.ref b1, .ref b2, .ref b3, .ref b4, .ref b5, .int (nI pi), .long (lN (st.2.2.2.2.1 ||| 2 ^ st.1 (st.2.2.2.2.2.1 - 1))), .int (nI (st.2.2.2.2.2.1 - 1)), .int (nI st.2.2.2.2.2.2), .int (nI 0)])), (b1, .inl (cL, 108, .inr (.inl (lA re)))), (b2, .inl (cI, 36, .inl (nA st.1))), (b3, .inl (cI, 288, .inl (nA st.2.1))), (b4, .inl (cI, 36, .inl (nA st.2.2.1))), (b5, .inl (cI, 36, .inl (nA (tNt st.2.2.2.2.2.1 st.2.2.1 st.2.2.2.1))))] := hD
                refine lv_goto (tgt := 93) hx hb d_TS_run_64 (by decide) ?_
                refine nr_iinc (lv' := [(4, .int (nI (t + 1))), (5, .int (nI 0 - 1)), (0, .ref a), (1, .int (nI cl)), (2, .int (nI most)), (3, .int (nI (2 * most + 2)))]) hx hb d_TS_run_93 hl (k := 5) rfl (by decide) rfl (fun ls hl => ?_)
                refine lv_goto (tgt := 9) hx hb d_TS_run_96 (by decide) ?_
                exact ih (t + 1) (tBk (st.1, st.2.1, st.2.2.1, tNt st.2.2.2.2.2.1 st.2.2.1 st.2.2.2.1, st.2.2.2.2.1, st.2.2.2.2.2.1, st.2.2.2.2.2.2)) (by omega) (by omega) (j7_bk (j7_nt hj)) (by rw [tR] at hq; rw [if_pos ⟨by omega, by omega⟩, if_neg (by omega), if_pos (by omega)] at hq; exact hq) _ _ hP hD hS ls (lv_sub hl [2, 3, 4, 5, 0] rfl)
              · rw [nI_pred]
                refine lv_istore (lv' := [(5, .int (nI kx)), (0, .ref a), (1, .int (nI cl)), (2, .int (nI most)), (3, .int (nI (2 * most + 2))), (4, .int (nI t))]) hx hb d_TS_run_53 hl (by decide) rfl (fun ls hl => ?_)
                refine lv_iload hx hb d_TS_run_55 (lv_at hl 0 rfl) ?_
                refine nr_if_ge (tgt := 67) hx hb d_TS_run_57 (by decide) (by omega) ?_
                refine lv_aload_n hx hb d_TS_run_67 rfl (lv_at hl 1 rfl) ?_
                refine va_get (D := D) (ci := 3) (v := .int (nI st.2.2.2.2.2.2)) (C := R_TS) (T := F_TS) (N := 10) hx hb ho j_TS hown hK hP 0 rfl rfl 8 (by decide) (ho _ kf_TS_54) (fun _ h9 => h9) rfl d_TS_run_68 ?_
                refine lv_iload_n hx hb d_TS_run_71 rfl (lv_at hl 3 rfl) ?_
                refine nr_icmp_lt (tgt := 77) hx hb d_TS_run_72 (by decide) (by omega) (by omega) (fun h_19 => ?_) (fun h_19 => ?_)
                · refine lv_aload_n hx hb d_TS_run_77 rfl (lv_at hl 1 rfl) ?_
                  refine lv_dup hx hb d_TS_run_78 rfl ?_
                  refine va_get (D := D) (ci := 3) (v := .int (nI st.2.2.2.2.2.2)) (C := R_TS) (T := F_TS) (N := 10) hx hb ho j_TS hown hK hP 0 rfl rfl 8 (by decide) (ho _ kf_TS_54) (fun _ h9 => h9) rfl d_TS_run_79 ?_
                  refine lv_iconst (v := nI 1) hx hb d_TS_run_82 (by decide) ?_
                  refine nr_iadd hx hb d_TS_run_83 ?_
                  refine va_put (D := D) (ci := 3) (v := .int (nI (st.2.2.2.2.2.2 + 1))) (ty := .int) (C := R_TS) (T := F_TS) (N := 10) hx hb ho j_TS t_TS t_TS_ok n_TS hown hK hP hD hS 0 rfl rfl 8 (by decide) (ho _ kf_TS_54) (fun _ h9 => h9) rfl (by decide +kernel) rfl rfl (Nat.le_of_ble_eq_true rfl) d_TS_run_84 (fun H locs hP hD hS => ?_)
                  have hP : va_P D classes [(a, .inr (3, [.ref b1, .ref b2, .ref b3, .ref b4, .ref b5, .int (nI pi), .long (lN st.2.2.2.2.1), .int (nI st.2.2.2.2.2.1), .int (nI (st.2.2.2.2.2.2 + 1)), .int (nI 0)])), (b1, .inl (cL, 108, .inr (.inl (lA re)))), (b2, .inl (cI, 36, .inl (nA st.1))), (b3, .inl (cI, 288, .inl (nA st.2.1))), (b4, .inl (cI, 36, .inl (nA st.2.2.1))), (b5, .inl (cI, 36, .inl (nA (tNt st.2.2.2.2.2.1 st.2.2.1 st.2.2.2.1))))] H := hP
                  have hD : va_D A [(a, .inr (3, [.ref b1, .ref b2, .ref b3, .ref b4, .ref b5, .int (nI pi), .long (lN st.2.2.2.2.1), .int (nI st.2.2.2.2.2.1), .int (nI (st.2.2.2.2.2.2 + 1)), .int (nI 0)])), (b1, .inl (cL, 108, .inr (.inl (lA re)))), (b2, .inl (cI, 36, .inl (nA st.1))), (b3, .inl (cI, 288, .inl (nA st.2.1))), (b4, .inl (cI, 36, .inl (nA st.2.2.1))), (b5, .inl (cI, 36, .inl (nA (tNt st.2.2.2.2.2.1 st.2.2.1 st.2.2.2.1))))] := hD
                  refine lv_aload_n hx hb d_TS_run_87 rfl (lv_at hl 1 rfl) ?_
                  refine lv_iload hx hb d_TS_run_88 (lv_at hl 0 rfl) ?_
                  refine af_v (wc := [(a, .inr (3, [.ref b1, .ref b2, .ref b3, .ref b4, .ref b5, .int (nI pi), .long (lN st.2.2.2.2.1), .int (nI st.2.2.2.2.2.1), .int (nI (st.2.2.2.2.2.2 + 1)), .int (nI 0)])), (b1, .inl (cL, 108, .inr (.inl (lA re)))), (b2, .inl (cI, 36, .inl (nA st.1))), (b3, .inl (cI, 288, .inl (nA st.2.1))), (b4, .inl (cI, 36, .inl (nA st.2.2.1))), (b5, .inl (cI, 36, .inl (nA (tNt st.2.2.2.2.2.1 st.2.2.1 st.2.2.2.1))))]) (wr := []) (rest := []) [0, 1, 2, 3, 4, 5] [] hP hD hS hA rfl rfl (by decide) (by decide) (rn_V E (As := [.int (nI kx)]) m_TS_enter km_TS_71 (c_TS_enter l D cI cL a b1 b2 b3 b4 b5 pi 0 re kx (by omega) (by omega) hre (st.1, st.2.1, st.2.2.1, tNt st.2.2.2.2.2.1 st.2.2.1 st.2.2.2.1, st.2.2.2.2.1, st.2.2.2.2.2.1, st.2.2.2.2.2.2 + 1) (j7_md (j7_nt hj) (by omega)) _) ⟨rfl, rfl, by dsimp only; omega, by dsimp only; omega⟩ (hP.sub [0, 1, 2, 3, 4, 5] rfl) (hD.sub [0, 1, 2, 3, 4, 5] (by decide) rfl) (q0 := 0) (ci := 3) rfl rfl rfl hl.1 rfl (Nat.le_of_ble_eq_true rfl) ⟨Nat.le_of_ble_eq_true rfl, Nat.le_of_ble_eq_true rfl⟩ d_TS_run_90) (fun u_20 H locs hw hP hD hS => ?_)
                  obtain rfl := hw
                  have hP : va_P D classes [(a, .inr (3, [.ref b1, .ref b2, .ref b3, .ref b4, .ref b5, .int (nI pi), .long (lN ((tEn pi re kx (st.1, st.2.1, st.2.2.1, tNt st.2.2.2.2.2.1 st.2.2.1 st.2.2.2.1, st.2.2.2.2.1, st.2.2.2.2.2.1, st.2.2.2.2.2.2 + 1)).2.2.2.2.1)), .int (nI ((tEn pi re kx (st.1, st.2.1, st.2.2.1, tNt st.2.2.2.2.2.1 st.2.2.1 st.2.2.2.1, st.2.2.2.2.1, st.2.2.2.2.2.1, st.2.2.2.2.2.2 + 1)).2.2.2.2.2.1)), .int (nI ((tEn pi re kx (st.1, st.2.1, st.2.2.1, tNt st.2.2.2.2.2.1 st.2.2.1 st.2.2.2.1, st.2.2.2.2.1, st.2.2.2.2.2.1, st.2.2.2.2.2.2 + 1)).2.2.2.2.2.2)), .int (nI 0)])), (b1, .inl (cL, 108, .inr (.inl (lA re)))), (b2, .inl (cI, 36, .inl (nA ((tEn pi re kx (st.1, st.2.1, st.2.2.1, tNt st.2.2.2.2.2.1 st.2.2.1 st.2.2.2.1, st.2.2.2.2.1, st.2.2.2.2.2.1, st.2.2.2.2.2.2 + 1)).1)))), (b3, .inl (cI, 288, .inl (nA ((tEn pi re kx (st.1, st.2.1, st.2.2.1, tNt st.2.2.2.2.2.1 st.2.2.1 st.2.2.2.1, st.2.2.2.2.1, st.2.2.2.2.2.1, st.2.2.2.2.2.2 + 1)).2.1)))), (b4, .inl (cI, 36, .inl (nA ((tEn pi re kx (st.1, st.2.1, st.2.2.1, tNt st.2.2.2.2.2.1 st.2.2.1 st.2.2.2.1, st.2.2.2.2.1, st.2.2.2.2.2.1, st.2.2.2.2.2.2 + 1)).2.2.1)))), (b5, .inl (cI, 36, .inl (nA ((tEn pi re kx (st.1, st.2.1, st.2.2.1, tNt st.2.2.2.2.2.1 st.2.2.1 st.2.2.2.1, st.2.2.2.2.1, st.2.2.2.2.2.1, st.2.2.2.2.2.2 + 1)).2.2.2.1))))] H := hP
                  have hD : va_D A [(a, .inr (3, [.ref b1, .ref b2, .ref b3, .ref b4, .ref b5, .int (nI pi), .long (lN ((tEn pi re kx (st.1, st.2.1, st.2.2.1, tNt st.2.2.2.2.2.1 st.2.2.1 st.2.2.2.1, st.2.2.2.2.1, st.2.2.2.2.2.1, st.2.2.2.2.2.2 + 1)).2.2.2.2.1)), .int (nI ((tEn pi re kx (st.1, st.2.1, st.2.2.1, tNt st.2.2.2.2.2.1 st.2.2.1 st.2.2.2.1, st.2.2.2.2.1, st.2.2.2.2.2.1, st.2.2.2.2.2.2 + 1)).2.2.2.2.2.1)), .int (nI ((tEn pi re kx (st.1, st.2.1, st.2.2.1, tNt st.2.2.2.2.2.1 st.2.2.1 st.2.2.2.1, st.2.2.2.2.1, st.2.2.2.2.2.1, st.2.2.2.2.2.2 + 1)).2.2.2.2.2.2)), .int (nI 0)])), (b1, .inl (cL, 108, .inr (.inl (lA re)))), (b2, .inl (cI, 36, .inl (nA ((tEn pi re kx (st.1, st.2.1, st.2.2.1, tNt st.2.2.2.2.2.1 st.2.2.1 st.2.2.2.1, st.2.2.2.2.1, st.2.2.2.2.2.1, st.2.2.2.2.2.2 + 1)).1)))), (b3, .inl (cI, 288, .inl (nA ((tEn pi re kx (st.1, st.2.1, st.2.2.1, tNt st.2.2.2.2.2.1 st.2.2.1 st.2.2.2.1, st.2.2.2.2.1, st.2.2.2.2.2.1, st.2.2.2.2.2.2 + 1)).2.1)))), (b4, .inl (cI, 36, .inl (nA ((tEn pi re kx (st.1, st.2.1, st.2.2.1, tNt st.2.2.2.2.2.1 st.2.2.1 st.2.2.2.1, st.2.2.2.2.1, st.2.2.2.2.2.1, st.2.2.2.2.2.2 + 1)).2.2.1)))), (b5, .inl (cI, 36, .inl (nA ((tEn pi re kx (st.1, st.2.1, st.2.2.1, tNt st.2.2.2.2.2.1 st.2.2.1 st.2.2.2.1, st.2.2.2.2.1, st.2.2.2.2.2.1, st.2.2.2.2.2.2 + 1)).2.2.2.1))))] := hD
                  refine nr_iinc (lv' := [(4, .int (nI (t + 1))), (5, .int (nI kx)), (0, .ref a), (1, .int (nI cl)), (2, .int (nI most)), (3, .int (nI (2 * most + 2)))]) hx hb d_TS_run_93 hl (k := 5) rfl (by decide) rfl (fun ls hl => ?_)
                  refine lv_goto (tgt := 9) hx hb d_TS_run_96 (by decide) ?_
                  exact ih (t + 1) (tEn pi re kx (st.1, st.2.1, st.2.2.1, tNt st.2.2.2.2.2.1 st.2.2.1 st.2.2.2.1, st.2.2.2.2.1, st.2.2.2.2.2.1, st.2.2.2.2.2.2 + 1)) (by omega) (by omega) (j7_en (by omega) (j7_md (j7_nt hj) (by omega))) (by rw [tR] at hq; rw [if_pos ⟨by omega, by omega⟩, if_neg (by omega), if_neg (by omega), if_pos (by omega), show tNx st.2.2.2.2.2.1 st.2.1 st.2.2.1 st.2.2.2.1 - 1 = kx by omega] at hq; exact hq) _ _ hP hD hS ls (lv_sub hl [2, 3, 4, 5, 0] rfl)
                · refine lv_iconst (v := nI 2) hx hb d_TS_run_75 (by decide) ?_
                  exact rt_i E hP hD hS (by rw [tR] at hq; rw [if_pos ⟨by omega, by omega⟩, if_neg (by omega), if_neg (by omega), if_neg (by omega)] at hq; exact hq) d_TS_run_76
            · refine lv_aload_n hx hb d_TS_run_42 rfl (lv_at hl 0 rfl) ?_
              refine lv_iconst (v := nI 1) hx hb d_TS_run_43 (by decide) ?_
              refine va_put (D := D) (ci := 3) (v := .int (nI 1)) (ty := .boolean) (C := R_TS) (T := F_TS) (N := 10) hx hb ho j_TS t_TS t_TS_ok n_TS hown hK hP hD hS 0 rfl rfl 9 (by decide) (ho _ kf_TS_50) (fun _ h9 => h9) rfl (by decide +kernel) (by first | rfl | decide | assumption) (by first | rfl | decide | assumption) (Nat.le_of_ble_eq_true rfl) d_TS_run_44 (fun H locs hP hD hS => ?_)
              have hP : va_P D classes [(a, .inr (3, [.ref b1, .ref b2, .ref b3, .ref b4, .ref b5, .int (nI pi), .long (lN st.2.2.2.2.1), .int (nI st.2.2.2.2.2.1), .int (nI st.2.2.2.2.2.2), .int (nI 1)])), (b1, .inl (cL, 108, .inr (.inl (lA re)))), (b2, .inl (cI, 36, .inl (nA st.1))), (b3, .inl (cI, 288, .inl (nA st.2.1))), (b4, .inl (cI, 36, .inl (nA st.2.2.1))), (b5, .inl (cI, 36, .inl (nA st.2.2.2.1)))] H := hP
              have hD : va_D A [(a, .inr (3, [.ref b1, .ref b2, .ref b3, .ref b4, .ref b5, .int (nI pi), .long (lN st.2.2.2.2.1), .int (nI st.2.2.2.2.2.1), .int (nI st.2.2.2.2.2.2), .int (nI 1)])), (b1, .inl (cL, 108, .inr (.inl (lA re)))), (b2, .inl (cI, 36, .inl (nA st.1))), (b3, .inl (cI, 288, .inl (nA st.2.1))), (b4, .inl (cI, 36, .inl (nA st.2.2.1))), (b5, .inl (cI, 36, .inl (nA st.2.2.2.1)))] := hD
              refine lv_iconst (v := nI 0) hx hb d_TS_run_47 (by decide) ?_
              exact rt_i E hP hD hS (by rw [tR] at hq; rw [if_pos ⟨by omega, by omega⟩, if_pos ⟨by omega, by omega⟩] at hq; exact hq) d_TS_run_48
set_option maxHeartbeats 1000000 in
set_option maxRecDepth 100000 in
theorem c_TS_run (l : Launch) (D : va_G) (cI cL : ClassId) (a b1 b2 b3 b4 b5 pi cl most : Nat) (re : Nat → Nat) (hpi : pi < 3) (hre : ∀ i, re i < 2 ^ 36) (hcl : cl ≤ 1) (hmost : most ≤ 100000) (st : T7) (hj : J7 st) : CI l y_TS_run (.code y_TS_run b_TS_run 6 (some .int) :: Om) { frames := 4, cells := 0, slots := 0, locals := 93 } D [(a, .inr (3, [.ref b1, .ref b2, .ref b3, .ref b4, .ref b5, .int (nI pi), .long (lN st.2.2.2.2.1), .int (nI st.2.2.2.2.2.1), .int (nI st.2.2.2.2.2.2), .int (nI 0)])), (b1, .inl (cL, 108, .inr (.inl (lA re)))), (b2, .inl (cI, 36, .inl (nA st.1))), (b3, .inl (cI, 288, .inl (nA st.2.1))), (b4, .inl (cI, 36, .inl (nA st.2.2.1))), (b5, .inl (cI, 36, .inl (nA st.2.2.2.1)))] [(cI, .int), (cL, .long)] [.ref a, .int (nI cl), .int (nI most)] (fun r u => r = nI (tR pi re cl most (2 * most + 3) 0 st).1 ∧ u = [(a, .inr (3, [.ref b1, .ref b2, .ref b3, .ref b4, .ref b5, .int (nI pi), .long (lN (((tR pi re cl most (2 * most + 3) 0 st).2.2).2.2.2.2.1)), .int (nI (((tR pi re cl most (2 * most + 3) 0 st).2.2).2.2.2.2.2.1)), .int (nI (((tR pi re cl most (2 * most + 3) 0 st).2.2).2.2.2.2.2.2)), .int (nI ((tR pi re cl most (2 * most + 3) 0 st).2.1))])), (b1, .inl (cL, 108, .inr (.inl (lA re)))), (b2, .inl (cI, 36, .inl (nA (((tR pi re cl most (2 * most + 3) 0 st).2.2).1)))), (b3, .inl (cI, 288, .inl (nA (((tR pi re cl most (2 * most + 3) 0 st).2.2).2.1)))), (b4, .inl (cI, 36, .inl (nA (((tR pi re cl most (2 * most + 3) 0 st).2.2).2.2.1)))), (b5, .inl (cI, 36, .inl (nA (((tR pi re cl most (2 * most + 3) 0 st).2.2).2.2.2.1))))]) := by
  refine en_of (cc := b_TS_run) (Qc := qI D [(cI, .int), (cL, .long)] (fun r u => r = nI (tR pi re cl most (2 * most + 3) 0 st).1 ∧ u = [(a, .inr (3, [.ref b1, .ref b2, .ref b3, .ref b4, .ref b5, .int (nI pi), .long (lN (((tR pi re cl most (2 * most + 3) 0 st).2.2).2.2.2.2.1)), .int (nI (((tR pi re cl most (2 * most + 3) 0 st).2.2).2.2.2.2.2.1)), .int (nI (((tR pi re cl most (2 * most + 3) 0 st).2.2).2.2.2.2.2.2)), .int (nI ((tR pi re cl most (2 * most + 3) 0 st).2.1))])), (b1, .inl (cL, 108, .inr (.inl (lA re)))), (b2, .inl (cI, 36, .inl (nA (((tR pi re cl most (2 * most + 3) 0 st).2.2).1)))), (b3, .inl (cI, 288, .inl (nA (((tR pi re cl most (2 * most + 3) 0 st).2.2).2.1)))), (b4, .inl (cI, 36, .inl (nA (((tR pi re cl most (2 * most + 3) 0 st).2.2).2.2.1)))), (b5, .inl (cI, 36, .inl (nA (((tR pi re cl most (2 * most + 3) 0 st).2.2).2.2.2.1))))])) (by decide) rfl (Nat.le_of_ble_eq_true rfl) ?_
  intro p e s m below meth c A E hnm hP hD hS ls hl
  have hl : lv_has ls 6 [(0, .ref a), (1, .int (nI cl)), (2, .int (nI most))] := hl
  obtain ⟨hx, hb, hml, hown, hts, hr, hlk, hA, hK, hN⟩ := id E
  have ho : ∀ q ∈ Om, q.before _ s = true := fun q h => hts q (List.mem_cons_of_mem _ h)
  refine lv_iconst (v := nI 2) hx hb d_TS_run_0 (by decide) ?_
  refine lv_iload_n hx hb d_TS_run_1 rfl (lv_at hl 2 rfl) ?_
  refine nr_imul hx hb d_TS_run_2 ?_
  refine lv_iconst (v := nI 2) hx hb d_TS_run_3 (by decide) ?_
  refine nr_iadd hx hb d_TS_run_4 ?_
  refine lv_istore_n (lv' := [(3, .int (nI ((2 * most) + 2))), (0, .ref a), (1, .int (nI cl)), (2, .int (nI most))]) hx hb d_TS_run_5 rfl hl (by decide) rfl (fun ls hl => ?_)
  refine lv_iconst (v := nI 0) hx hb d_TS_run_6 (by decide) ?_
  refine lv_istore (lv' := [(4, .int (nI 0)), (3, .int (nI ((2 * most) + 2))), (0, .ref a), (1, .int (nI cl)), (2, .int (nI most))]) hx hb d_TS_run_7 hl (by decide) rfl (fun ls hl => ?_)
  exact L_TS_run a b1 b2 b3 b4 b5 pi cl most re hpi hre hcl hmost E (2 * most + 3) 0 st (by omega) (by omega) hj ⟨rfl, rfl⟩ _ _ hP hD hS ls (lv_sub hl [2, 3, 4, 1, 0] rfl)
end
