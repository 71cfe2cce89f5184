-- ===== PART A: goes FIRST, ahead of the names: the tables' words, and 'selects' of the private methods out of them =====
/-- a private method of a class that the tables say can be made, by its rows of tables_1 -/
def lw_okq (q : MethodName × Nat) : Prop := (q.1.cls ≠ "java/lang/invoke/MethodHandle" ∧ q.1.cls ≠ "java/lang/invoke/VarHandle") ∧ Cond.instantiable q.1.cls q.2 ∈ tables_1 ∧ Cond.privateMethod q.1 ∈ tables_1 ∧ Cond.instanceMethod q.1 ∈ tables_1
theorem lw_p0 : lw_okq (⟨"TourForms$TourSearch", "enter", "(I)V"⟩, 10) := ⟨⟨by decide +kernel, by decide +kernel⟩, List.mem_of_getElem? (i := 48) (by decide +kernel), List.mem_of_getElem? (i := 233) (by decide +kernel), List.mem_of_getElem? (i := 234) (by decide +kernel)⟩
theorem lw_p1 : lw_okq (⟨"TourForms$TourSearch", "listWaysOn", "(II)I"⟩, 10) := ⟨⟨by decide +kernel, by decide +kernel⟩, List.mem_of_getElem? (i := 48) (by decide +kernel), List.mem_of_getElem? (i := 238) (by decide +kernel), List.mem_of_getElem? (i := 239) (by decide +kernel)⟩
theorem lw_p2 : lw_okq (⟨"TourForms$TourSearch", "insertWayOn", "(III)V"⟩, 10) := ⟨⟨by decide +kernel, by decide +kernel⟩, List.mem_of_getElem? (i := 48) (by decide +kernel), List.mem_of_getElem? (i := 254) (by decide +kernel), List.mem_of_getElem? (i := 255) (by decide +kernel)⟩
theorem lw_p3 : lw_okq (⟨"TourForms$TourSearch", "closes", "()Z"⟩, 10) := ⟨⟨by decide +kernel, by decide +kernel⟩, List.mem_of_getElem? (i := 48) (by decide +kernel), List.mem_of_getElem? (i := 262) (by decide +kernel), List.mem_of_getElem? (i := 263) (by decide +kernel)⟩
theorem lw_p4 : lw_okq (⟨"TourForms$TourSearch", "nextCell", "()I"⟩, 10) := ⟨⟨by decide +kernel, by decide +kernel⟩, List.mem_of_getElem? (i := 48) (by decide +kernel), List.mem_of_getElem? (i := 266) (by decide +kernel), List.mem_of_getElem? (i := 267) (by decide +kernel)⟩
theorem lw_p5 : lw_okq (⟨"TourForms$TourSearch", "goBack", "()V"⟩, 10) := ⟨⟨by decide +kernel, by decide +kernel⟩, List.mem_of_getElem? (i := 48) (by decide +kernel), List.mem_of_getElem? (i := 270) (by decide +kernel), List.mem_of_getElem? (i := 271) (by decide +kernel)⟩
theorem lw_p6 : lw_okq (⟨"TourForms$QueenSearch", "placeFrom", "(II)Z"⟩, 5) := ⟨⟨by decide +kernel, by decide +kernel⟩, List.mem_of_getElem? (i := 97) (by decide +kernel), List.mem_of_getElem? (i := 305) (by decide +kernel), List.mem_of_getElem? (i := 306) (by decide +kernel)⟩
theorem lw_p7 : lw_okq (⟨"TourForms$QueenSearch", "placeIn", "(II)Z"⟩, 5) := ⟨⟨by decide +kernel, by decide +kernel⟩, List.mem_of_getElem? (i := 97) (by decide +kernel), List.mem_of_getElem? (i := 309) (by decide +kernel), List.mem_of_getElem? (i := 310) (by decide +kernel)⟩
theorem lw_p8 : lw_okq (⟨"TourForms$QueenSearch", "canStand", "(II)Z"⟩, 5) := ⟨⟨by decide +kernel, by decide +kernel⟩, List.mem_of_getElem? (i := 97) (by decide +kernel), List.mem_of_getElem? (i := 313) (by decide +kernel), List.mem_of_getElem? (i := 314) (by decide +kernel)⟩
theorem lw_p9 : lw_okq (⟨"TourForms$Rectangle", "layGiven", "()Z"⟩, 13) := ⟨⟨by decide +kernel, by decide +kernel⟩, List.mem_of_getElem? (i := 120) (by decide +kernel), List.mem_of_getElem? (i := 348) (by decide +kernel), List.mem_of_getElem? (i := 349) (by decide +kernel)⟩
theorem lw_p10 : lw_okq (⟨"TourForms$Rectangle", "choicesAt", "(I)I"⟩, 13) := ⟨⟨by decide +kernel, by decide +kernel⟩, List.mem_of_getElem? (i := 120) (by decide +kernel), List.mem_of_getElem? (i := 352) (by decide +kernel), List.mem_of_getElem? (i := 353) (by decide +kernel)⟩
theorem lw_p11 : lw_okq (⟨"TourForms$Rectangle", "put", "(II)V"⟩, 13) := ⟨⟨by decide +kernel, by decide +kernel⟩, List.mem_of_getElem? (i := 120) (by decide +kernel), List.mem_of_getElem? (i := 356) (by decide +kernel), List.mem_of_getElem? (i := 357) (by decide +kernel)⟩
theorem lw_p12 : lw_okq (⟨"TourForms$Rectangle", "countFrom", "(II)I"⟩, 13) := ⟨⟨by decide +kernel, by decide +kernel⟩, List.mem_of_getElem? (i := 120) (by decide +kernel), List.mem_of_getElem? (i := 360) (by decide +kernel), List.mem_of_getElem? (i := 361) (by decide +kernel)⟩
theorem lw_p13 : lw_okq (⟨"TourForms$Rectangle", "narrowestOpenCell", "()I"⟩, 13) := ⟨⟨by decide +kernel, by decide +kernel⟩, List.mem_of_getElem? (i := 120) (by decide +kernel), List.mem_of_getElem? (i := 364) (by decide +kernel), List.mem_of_getElem? (i := 365) (by decide +kernel)⟩
theorem lw_p14 : lw_okq (⟨"TourForms$Rectangle", "someNumberLacksPlaces", "()Z"⟩, 13) := ⟨⟨by decide +kernel, by decide +kernel⟩, List.mem_of_getElem? (i := 120) (by decide +kernel), List.mem_of_getElem? (i := 377) (by decide +kernel), List.mem_of_getElem? (i := 378) (by decide +kernel)⟩
theorem lw_p15 : lw_okq (⟨"TourForms$Rectangle", "countWith", "(IIII)I"⟩, 13) := ⟨⟨by decide +kernel, by decide +kernel⟩, List.mem_of_getElem? (i := 120) (by decide +kernel), List.mem_of_getElem? (i := 386) (by decide +kernel), List.mem_of_getElem? (i := 387) (by decide +kernel)⟩
def lw_privs_1 : List (MethodName × Nat) := [(⟨"TourForms$TourSearch", "enter", "(I)V"⟩, 10), (⟨"TourForms$TourSearch", "listWaysOn", "(II)I"⟩, 10), (⟨"TourForms$TourSearch", "insertWayOn", "(III)V"⟩, 10), (⟨"TourForms$TourSearch", "closes", "()Z"⟩, 10), (⟨"TourForms$TourSearch", "nextCell", "()I"⟩, 10), (⟨"TourForms$TourSearch", "goBack", "()V"⟩, 10), (⟨"TourForms$QueenSearch", "placeFrom", "(II)Z"⟩, 5), (⟨"TourForms$QueenSearch", "placeIn", "(II)Z"⟩, 5), (⟨"TourForms$QueenSearch", "canStand", "(II)Z"⟩, 5), (⟨"TourForms$Rectangle", "layGiven", "()Z"⟩, 13), (⟨"TourForms$Rectangle", "choicesAt", "(I)I"⟩, 13), (⟨"TourForms$Rectangle", "put", "(II)V"⟩, 13), (⟨"TourForms$Rectangle", "countFrom", "(II)I"⟩, 13), (⟨"TourForms$Rectangle", "narrowestOpenCell", "()I"⟩, 13), (⟨"TourForms$Rectangle", "someNumberLacksPlaces", "()Z"⟩, 13), (⟨"TourForms$Rectangle", "countWith", "(IIII)I"⟩, 13)]
theorem lw_r1 : ∀ q ∈ lw_privs_1, lw_okq q := List.forall_mem_cons.mpr ⟨lw_p0, List.forall_mem_cons.mpr ⟨lw_p1, List.forall_mem_cons.mpr ⟨lw_p2, List.forall_mem_cons.mpr ⟨lw_p3, List.forall_mem_cons.mpr ⟨lw_p4, List.forall_mem_cons.mpr ⟨lw_p5, List.forall_mem_cons.mpr ⟨lw_p6, List.forall_mem_cons.mpr ⟨lw_p7, List.forall_mem_cons.mpr ⟨lw_p8, List.forall_mem_cons.mpr ⟨lw_p9, List.forall_mem_cons.mpr ⟨lw_p10, List.forall_mem_cons.mpr ⟨lw_p11, List.forall_mem_cons.mpr ⟨lw_p12, List.forall_mem_cons.mpr ⟨lw_p13, List.forall_mem_cons.mpr ⟨lw_p14, List.forall_mem_cons.mpr ⟨lw_p15, fun _ h => absurd h List.not_mem_nil⟩⟩⟩⟩⟩⟩⟩⟩⟩⟩⟩⟩⟩⟩⟩⟩
theorem lw_p16 : lw_okq (⟨"TourForms$Rectangle", "take", "(II)V"⟩, 13) := ⟨⟨by decide +kernel, by decide +kernel⟩, List.mem_of_getElem? (i := 120) (by decide +kernel), List.mem_of_getElem? (i := 390) (by decide +kernel), List.mem_of_getElem? (i := 391) (by decide +kernel)⟩
theorem lw_p17 : lw_okq (⟨"TourForms$Rectangle", "settle", "(I)V"⟩, 13) := ⟨⟨by decide +kernel, by decide +kernel⟩, List.mem_of_getElem? (i := 120) (by decide +kernel), List.mem_of_getElem? (i := 395) (by decide +kernel), List.mem_of_getElem? (i := 396) (by decide +kernel)⟩
theorem lw_p18 : lw_okq (⟨"TourFormsModel", "isCell", "(II)Z"⟩, 18) := ⟨⟨by decide +kernel, by decide +kernel⟩, List.mem_of_getElem? (i := 425) (by decide +kernel), List.mem_of_getElem? (i := 494) (by decide +kernel), List.mem_of_getElem? (i := 495) (by decide +kernel)⟩
theorem lw_p19 : lw_okq (⟨"TourFormsModel", "search", "(IZI)I"⟩, 18) := ⟨⟨by decide +kernel, by decide +kernel⟩, List.mem_of_getElem? (i := 425) (by decide +kernel), List.mem_of_getElem? (i := 507) (by decide +kernel), List.mem_of_getElem? (i := 508) (by decide +kernel)⟩
theorem lw_p20 : lw_okq (⟨"TourFormsModel", "open", "()I"⟩, 18) := ⟨⟨by decide +kernel, by decide +kernel⟩, List.mem_of_getElem? (i := 425) (by decide +kernel), List.mem_of_getElem? (i := 511) (by decide +kernel), List.mem_of_getElem? (i := 512) (by decide +kernel)⟩
theorem lw_p21 : lw_okq (⟨"TourFormsModel", "goes", "(III)Z"⟩, 18) := ⟨⟨by decide +kernel, by decide +kernel⟩, List.mem_of_getElem? (i := 425) (by decide +kernel), List.mem_of_getElem? (i := 515) (by decide +kernel), List.mem_of_getElem? (i := 516) (by decide +kernel)⟩
theorem lw_p22 : lw_okq (⟨"TourFormsModel", "nextCell", "(III)I"⟩, 18) := ⟨⟨by decide +kernel, by decide +kernel⟩, List.mem_of_getElem? (i := 425) (by decide +kernel), List.mem_of_getElem? (i := 522) (by decide +kernel), List.mem_of_getElem? (i := 523) (by decide +kernel)⟩
theorem lw_p23 : lw_okq (⟨"TourFormsModel", "waysOn", "(II)I"⟩, 18) := ⟨⟨by decide +kernel, by decide +kernel⟩, List.mem_of_getElem? (i := 425) (by decide +kernel), List.mem_of_getElem? (i := 526) (by decide +kernel), List.mem_of_getElem? (i := 527) (by decide +kernel)⟩
theorem lw_p24 : lw_okq (⟨"TourFormsModel", "goThrough", "(I)I"⟩, 18) := ⟨⟨by decide +kernel, by decide +kernel⟩, List.mem_of_getElem? (i := 425) (by decide +kernel), List.mem_of_getElem? (i := 546) (by decide +kernel), List.mem_of_getElem? (i := 547) (by decide +kernel)⟩
theorem lw_p25 : lw_okq (⟨"TourFormsModel", "stands", "(I)Z"⟩, 18) := ⟨⟨by decide +kernel, by decide +kernel⟩, List.mem_of_getElem? (i := 425) (by decide +kernel), List.mem_of_getElem? (i := 550) (by decide +kernel), List.mem_of_getElem? (i := 551) (by decide +kernel)⟩
theorem lw_p26 : lw_okq (⟨"TourFormsModel", "fillThrough", "(IZ)I"⟩, 18) := ⟨⟨by decide +kernel, by decide +kernel⟩, List.mem_of_getElem? (i := 425) (by decide +kernel), List.mem_of_getElem? (i := 566) (by decide +kernel), List.mem_of_getElem? (i := 567) (by decide +kernel)⟩
theorem lw_p27 : lw_okq (⟨"TourFormsModel", "goesOn", "(I)Z"⟩, 18) := ⟨⟨by decide +kernel, by decide +kernel⟩, List.mem_of_getElem? (i := 425) (by decide +kernel), List.mem_of_getElem? (i := 570) (by decide +kernel), List.mem_of_getElem? (i := 571) (by decide +kernel)⟩
theorem lw_p28 : lw_okq (⟨"TourFormsModel", "free", "(II)I"⟩, 18) := ⟨⟨by decide +kernel, by decide +kernel⟩, List.mem_of_getElem? (i := 425) (by decide +kernel), List.mem_of_getElem? (i := 574) (by decide +kernel), List.mem_of_getElem? (i := 575) (by decide +kernel)⟩
theorem lw_p29 : lw_okq (⟨"TourFormsModel", "enough", "(IIII)Z"⟩, 18) := ⟨⟨by decide +kernel, by decide +kernel⟩, List.mem_of_getElem? (i := 425) (by decide +kernel), List.mem_of_getElem? (i := 578) (by decide +kernel), List.mem_of_getElem? (i := 579) (by decide +kernel)⟩
theorem lw_p30 : lw_okq (⟨"TourFormsModel", "fits", "(II)Z"⟩, 18) := ⟨⟨by decide +kernel, by decide +kernel⟩, List.mem_of_getElem? (i := 425) (by decide +kernel), List.mem_of_getElem? (i := 585) (by decide +kernel), List.mem_of_getElem? (i := 586) (by decide +kernel)⟩
def lw_privs_2 : List (MethodName × Nat) := [(⟨"TourForms$Rectangle", "take", "(II)V"⟩, 13), (⟨"TourForms$Rectangle", "settle", "(I)V"⟩, 13), (⟨"TourFormsModel", "isCell", "(II)Z"⟩, 18), (⟨"TourFormsModel", "search", "(IZI)I"⟩, 18), (⟨"TourFormsModel", "open", "()I"⟩, 18), (⟨"TourFormsModel", "goes", "(III)Z"⟩, 18), (⟨"TourFormsModel", "nextCell", "(III)I"⟩, 18), (⟨"TourFormsModel", "waysOn", "(II)I"⟩, 18), (⟨"TourFormsModel", "goThrough", "(I)I"⟩, 18), (⟨"TourFormsModel", "stands", "(I)Z"⟩, 18), (⟨"TourFormsModel", "fillThrough", "(IZ)I"⟩, 18), (⟨"TourFormsModel", "goesOn", "(I)Z"⟩, 18), (⟨"TourFormsModel", "free", "(II)I"⟩, 18), (⟨"TourFormsModel", "enough", "(IIII)Z"⟩, 18), (⟨"TourFormsModel", "fits", "(II)Z"⟩, 18)]
theorem lw_r2 : ∀ q ∈ lw_privs_2, lw_okq q := List.forall_mem_cons.mpr ⟨lw_p16, List.forall_mem_cons.mpr ⟨lw_p17, List.forall_mem_cons.mpr ⟨lw_p18, List.forall_mem_cons.mpr ⟨lw_p19, List.forall_mem_cons.mpr ⟨lw_p20, List.forall_mem_cons.mpr ⟨lw_p21, List.forall_mem_cons.mpr ⟨lw_p22, List.forall_mem_cons.mpr ⟨lw_p23, List.forall_mem_cons.mpr ⟨lw_p24, List.forall_mem_cons.mpr ⟨lw_p25, List.forall_mem_cons.mpr ⟨lw_p26, List.forall_mem_cons.mpr ⟨lw_p27, List.forall_mem_cons.mpr ⟨lw_p28, List.forall_mem_cons.mpr ⟨lw_p29, List.forall_mem_cons.mpr ⟨lw_p30, fun _ h => absurd h List.not_mem_nil⟩⟩⟩⟩⟩⟩⟩⟩⟩⟩⟩⟩⟩⟩⟩
def lw_privs : List (MethodName × Nat) := lw_privs_1 ++ (lw_privs_2)
def lw_tbl : List Cond := k2_sels lw_privs ++ tables_1
theorem lw_privs_ok : ∀ q ∈ lw_privs, lw_okq q := by
  show ∀ q ∈ lw_privs_1 ++ (lw_privs_2), lw_okq q
  exact List.forall_mem_append.mpr ⟨lw_r1, lw_r2⟩
def Om : List Cond := lw_tbl.filter goodWord
theorem om_at {w : Cond} (h : w ∈ lw_tbl) (g : goodWord w = true) : w ∈ Om := List.mem_filter.mpr ⟨h, g⟩
theorem om_in {w : Cond} (h : w ∈ Om) : w ∈ lw_tbl := (List.mem_filter.mp h).1
def R_BD : String := "TourForms$Board"
def F_BD : u_T := fun k => match k with
  | 0 => ("TourForms$Board", "width", "I", true)
  | 1 => ("TourForms$Board", "height", "I", true)
  | 2 => ("TourForms$Board", "cells", "I", true)
  | _ => ("TourForms$Board", "free", "J", false)
def t_BD : Nat → FieldType := fun k => match k with
  | 0 => .int
  | 1 => .int
  | 2 => .int
  | _ => .long
theorem n_BD : ∀ a, a < 4 → ∀ b, b < 4 → a ≠ b → (F_BD a).2.1 ≠ (F_BD b).2.1 := by decide +kernel
theorem t_BD_ok : ∀ k, k < 4 → parseFieldDescriptor (F_BD k).2.2.1 = some (t_BD k) := by decide +kernel
theorem j_BD0 : ∀ w ∈ u_ws R_BD F_BD 4, w ∈ lw_tbl ∧ goodWord w = true := by decide +kernel
theorem j_BD : ∀ w ∈ u_ws R_BD F_BD 4, w ∈ Om := fun w h => om_at (j_BD0 w h).1 (j_BD0 w h).2
def R_QS : String := "TourForms$QueenSearch"
def F_QS : u_T := fun k => match k with
  | 0 => ("TourForms$QueenSearch", "width", "I", true)
  | 1 => ("TourForms$QueenSearch", "height", "I", true)
  | 2 => ("TourForms$QueenSearch", "rows", "[I", true)
  | 3 => ("TourForms$QueenSearch", "free", "J", false)
  | _ => ("TourForms$QueenSearch", "waysSeen", "I", false)
def t_QS : Nat → FieldType := fun k => match k with
  | 0 => .int
  | 1 => .int
  | 2 => .array .int
  | 3 => .long
  | _ => .int
theorem n_QS : ∀ a, a < 5 → ∀ b, b < 5 → a ≠ b → (F_QS a).2.1 ≠ (F_QS b).2.1 := by decide +kernel
theorem t_QS_ok : ∀ k, k < 5 → parseFieldDescriptor (F_QS k).2.2.1 = some (t_QS k) := by decide +kernel
theorem j_QS0 : ∀ w ∈ u_ws R_QS F_QS 5, w ∈ lw_tbl ∧ goodWord w = true := by decide +kernel
theorem j_QS : ∀ w ∈ u_ws R_QS F_QS 5, w ∈ Om := fun w h => om_at (j_QS0 w h).1 (j_QS0 w h).2
def R_RC : String := "TourForms$Rectangle"
def F_RC : u_T := fun k => match k with
  | 0 => ("TourForms$Rectangle", "cells", "I", true)
  | 1 => ("TourForms$Rectangle", "greatest", "I", true)
  | 2 => ("TourForms$Rectangle", "shorterSide", "I", true)
  | 3 => ("TourForms$Rectangle", "all", "I", true)
  | 4 => ("TourForms$Rectangle", "fixed", "[I", true)
  | 5 => ("TourForms$Rectangle", "least", "[I", true)
  | 6 => ("TourForms$Rectangle", "tried", "[I", true)
  | 7 => ("TourForms$Rectangle", "witness", "[I", true)
  | 8 => ("TourForms$Rectangle", "columnBegins", "[I", true)
  | 9 => ("TourForms$Rectangle", "rowBegins", "[I", true)
  | 10 => ("TourForms$Rectangle", "usedInColumns", "J", false)
  | 11 => ("TourForms$Rectangle", "usedInRows", "J", false)
  | _ => ("TourForms$Rectangle", "found", "Z", false)
def t_RC : Nat → FieldType := fun k => match k with
  | 0 => .int
  | 1 => .int
  | 2 => .int
  | 3 => .int
  | 4 => .array .int
  | 5 => .array .int
  | 6 => .array .int
  | 7 => .array .int
  | 8 => .array .int
  | 9 => .array .int
  | 10 => .long
  | 11 => .long
  | _ => .boolean
theorem n_RC : ∀ a, a < 13 → ∀ b, b < 13 → a ≠ b → (F_RC a).2.1 ≠ (F_RC b).2.1 := by decide +kernel
theorem t_RC_ok : ∀ k, k < 13 → parseFieldDescriptor (F_RC k).2.2.1 = some (t_RC k) := by decide +kernel
theorem j_RC0 : ∀ w ∈ u_ws R_RC F_RC 13, w ∈ lw_tbl ∧ goodWord w = true := by decide +kernel
theorem j_RC : ∀ w ∈ u_ws R_RC F_RC 13, w ∈ Om := fun w h => om_at (j_RC0 w h).1 (j_RC0 w h).2
def R_TS : String := "TourForms$TourSearch"
def F_TS : u_T := fun k => match k with
  | 0 => ("TourForms$TourSearch", "reaches", "[J", true)
  | 1 => ("TourForms$TourSearch", "path", "[I", true)
  | 2 => ("TourForms$TourSearch", "waysOn", "[I", true)
  | 3 => ("TourForms$TourSearch", "waysOnCount", "[I", true)
  | 4 => ("TourForms$TourSearch", "waysOnTried", "[I", true)
  | 5 => ("TourForms$TourSearch", "piece", "I", false)
  | 6 => ("TourForms$TourSearch", "open", "J", false)
  | 7 => ("TourForms$TourSearch", "length", "I", false)
  | 8 => ("TourForms$TourSearch", "made", "I", false)
  | _ => ("TourForms$TourSearch", "found", "Z", false)
def t_TS : Nat → FieldType := fun k => match k with
  | 0 => .array .long
  | 1 => .array .int
  | 2 => .array .int
  | 3 => .array .int
  | 4 => .array .int
  | 5 => .int
  | 6 => .long
  | 7 => .int
  | 8 => .int
  | _ => .boolean
theorem n_TS : ∀ a, a < 10 → ∀ b, b < 10 → a ≠ b → (F_TS a).2.1 ≠ (F_TS b).2.1 := by decide +kernel
theorem t_TS_ok : ∀ k, k < 10 → parseFieldDescriptor (F_TS k).2.2.1 = some (t_TS k) := by decide +kernel
theorem j_TS0 : ∀ w ∈ u_ws R_TS F_TS 10, w ∈ lw_tbl ∧ goodWord w = true := by decide +kernel
theorem j_TS : ∀ w ∈ u_ws R_TS F_TS 10, w ∈ Om := fun w h => om_at (j_TS0 w h).1 (j_TS0 w h).2
def R_TF : String := "TourForms"
def F_TF : u_T := fun k => match k with
  | 0 => ("TourForms", "board", "LTourForms$Board;", true)
  | 1 => ("TourForms", "search", "LTourForms$TourSearch;", true)
  | 2 => ("TourForms", "queenSearch", "LTourForms$QueenSearch;", true)
  | 3 => ("TourForms", "rectangle", "LTourForms$Rectangle;", true)
  | _ => ("TourForms", "startCell", "I", false)
def t_TF : Nat → FieldType := fun k => match k with
  | 0 => .object "TourForms$Board"
  | 1 => .object "TourForms$TourSearch"
  | 2 => .object "TourForms$QueenSearch"
  | 3 => .object "TourForms$Rectangle"
  | _ => .int
theorem n_TF : ∀ a, a < 5 → ∀ b, b < 5 → a ≠ b → (F_TF a).2.1 ≠ (F_TF b).2.1 := by decide +kernel
theorem t_TF_ok : ∀ k, k < 5 → parseFieldDescriptor (F_TF k).2.2.1 = some (t_TF k) := by decide +kernel
theorem j_TF0 : ∀ w ∈ u_ws R_TF F_TF 5, w ∈ lw_tbl ∧ goodWord w = true := by decide +kernel
theorem j_TF : ∀ w ∈ u_ws R_TF F_TF 5, w ∈ Om := fun w h => om_at (j_TF0 w h).1 (j_TF0 w h).2
def R_MD : String := "TourFormsModel"
def F_MD : u_T := fun k => match k with
  | 0 => ("TourFormsModel", "width", "I", true)
  | 1 => ("TourFormsModel", "height", "I", true)
  | 2 => ("TourFormsModel", "cells", "I", true)
  | 3 => ("TourFormsModel", "numbers", "I", true)
  | 4 => ("TourFormsModel", "barred", "[Z", true)
  | 5 => ("TourFormsModel", "visited", "[Z", true)
  | 6 => ("TourFormsModel", "tour", "[I", true)
  | 7 => ("TourFormsModel", "begin", "I", false)
  | 8 => ("TourFormsModel", "tourLong", "I", false)
  | 9 => ("TourFormsModel", "steps", "I", false)
  | 10 => ("TourFormsModel", "thrown", "I", false)
  | 11 => ("TourFormsModel", "row", "[I", true)
  | 12 => ("TourFormsModel", "listed", "[I", true)
  | 13 => ("TourFormsModel", "givenAt", "[I", true)
  | 14 => ("TourFormsModel", "filled", "[I", true)
  | 15 => ("TourFormsModel", "found", "[I", true)
  | 16 => ("TourFormsModel", "may", "[I", true)
  | _ => ("TourFormsModel", "isFound", "Z", false)
def t_MD : Nat → FieldType := fun k => match k with
  | 0 => .int
  | 1 => .int
  | 2 => .int
  | 3 => .int
  | 4 => .array .boolean
  | 5 => .array .boolean
  | 6 => .array .int
  | 7 => .int
  | 8 => .int
  | 9 => .int
  | 10 => .int
  | 11 => .array .int
  | 12 => .array .int
  | 13 => .array .int
  | 14 => .array .int
  | 15 => .array .int
  | 16 => .array .int
  | _ => .boolean
theorem n_MD : ∀ a, a < 18 → ∀ b, b < 18 → a ≠ b → (F_MD a).2.1 ≠ (F_MD b).2.1 := by decide +kernel
theorem t_MD_ok : ∀ k, k < 18 → parseFieldDescriptor (F_MD k).2.2.1 = some (t_MD k) := by decide +kernel
theorem j_MD0 : ∀ w ∈ u_ws R_MD F_MD 18, w ∈ lw_tbl ∧ goodWord w = true := by decide +kernel
theorem j_MD : ∀ w ∈ u_ws R_MD F_MD 18, w ∈ Om := fun w h => om_at (j_MD0 w h).1 (j_MD0 w h).2
def R_LG : String := "java/lang/Long"
def R_IN : String := "java/lang/Integer"
def R_MT : String := "java/lang/Math"
abbrev classes : List vw_C := [(R_BD, F_BD, 4), (R_QS, F_QS, 5), (R_RC, F_RC, 13), (R_TS, F_TS, 10), (R_TF, F_TF, 5), (R_MD, F_MD, 18)]
