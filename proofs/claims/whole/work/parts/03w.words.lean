theorem kf_TF_18 : Cond.fieldLink R_TF 18 "TourForms" "board" "LTourForms$Board;" ∈ Om := om_at (List.mem_of_getElem? (i := 198) (by decide +kernel)) rfl
theorem kf_TF_25 : Cond.fieldLink R_TF 25 "TourForms" "search" "LTourForms$TourSearch;" ∈ Om := om_at (List.mem_of_getElem? (i := 199) (by decide +kernel)) rfl
theorem kf_TF_32 : Cond.fieldLink R_TF 32 "TourForms" "queenSearch" "LTourForms$QueenSearch;" ∈ Om := om_at (List.mem_of_getElem? (i := 200) (by decide +kernel)) rfl
theorem kf_TF_39 : Cond.fieldLink R_TF 39 "TourForms" "rectangle" "LTourForms$Rectangle;" ∈ Om := om_at (List.mem_of_getElem? (i := 201) (by decide +kernel)) rfl
theorem kf_TF_43 : Cond.fieldLink R_TF 43 "TourForms" "startCell" "I" ∈ Om := om_at (List.mem_of_getElem? (i := 202) (by decide +kernel)) rfl
theorem kf_BD_7 : Cond.fieldLink R_BD 7 "TourForms$Board" "width" "I" ∈ Om := om_at (List.mem_of_getElem? (i := 65) (by decide +kernel)) rfl
theorem kf_BD_13 : Cond.fieldLink R_BD 13 "TourForms$Board" "height" "I" ∈ Om := om_at (List.mem_of_getElem? (i := 66) (by decide +kernel)) rfl
theorem kf_BD_16 : Cond.fieldLink R_BD 16 "TourForms$Board" "cells" "I" ∈ Om := om_at (List.mem_of_getElem? (i := 67) (by decide +kernel)) rfl
theorem kf_BD_19 : Cond.fieldLink R_BD 19 "TourForms$Board" "free" "J" ∈ Om := om_at (List.mem_of_getElem? (i := 68) (by decide +kernel)) rfl
theorem kf_QS_9 : Cond.fieldLink R_QS 9 "TourForms$QueenSearch" "rows" "[I" ∈ Om := om_at (List.mem_of_getElem? (i := 136) (by decide +kernel)) rfl
theorem kf_QS_21 : Cond.fieldLink R_QS 21 "TourForms$QueenSearch" "width" "I" ∈ Om := om_at (List.mem_of_getElem? (i := 134) (by decide +kernel)) rfl
theorem kf_QS_25 : Cond.fieldLink R_QS 25 "TourForms$QueenSearch" "height" "I" ∈ Om := om_at (List.mem_of_getElem? (i := 135) (by decide +kernel)) rfl
theorem kf_QS_28 : Cond.fieldLink R_QS 28 "TourForms$QueenSearch" "free" "J" ∈ Om := om_at (List.mem_of_getElem? (i := 137) (by decide +kernel)) rfl
theorem kf_QS_32 : Cond.fieldLink R_QS 32 "TourForms$QueenSearch" "waysSeen" "I" ∈ Om := om_at (List.mem_of_getElem? (i := 138) (by decide +kernel)) rfl
theorem kf_RC_9 : Cond.fieldLink R_RC 9 "TourForms$Rectangle" "fixed" "[I" ∈ Om := om_at (List.mem_of_getElem? (i := 162) (by decide +kernel)) rfl
theorem kf_RC_15 : Cond.fieldLink R_RC 15 "TourForms$Rectangle" "least" "[I" ∈ Om := om_at (List.mem_of_getElem? (i := 163) (by decide +kernel)) rfl
theorem kf_RC_18 : Cond.fieldLink R_RC 18 "TourForms$Rectangle" "tried" "[I" ∈ Om := om_at (List.mem_of_getElem? (i := 164) (by decide +kernel)) rfl
theorem kf_RC_21 : Cond.fieldLink R_RC 21 "TourForms$Rectangle" "witness" "[I" ∈ Om := om_at (List.mem_of_getElem? (i := 165) (by decide +kernel)) rfl
theorem kf_RC_24 : Cond.fieldLink R_RC 24 "TourForms$Rectangle" "columnBegins" "[I" ∈ Om := om_at (List.mem_of_getElem? (i := 166) (by decide +kernel)) rfl
theorem kf_RC_27 : Cond.fieldLink R_RC 27 "TourForms$Rectangle" "rowBegins" "[I" ∈ Om := om_at (List.mem_of_getElem? (i := 167) (by decide +kernel)) rfl
theorem kf_RC_36 : Cond.fieldLink R_RC 36 "TourForms$Rectangle" "cells" "I" ∈ Om := om_at (List.mem_of_getElem? (i := 158) (by decide +kernel)) rfl
theorem kf_RC_43 : Cond.fieldLink R_RC 43 "TourForms$Rectangle" "greatest" "I" ∈ Om := om_at (List.mem_of_getElem? (i := 159) (by decide +kernel)) rfl
theorem kf_RC_46 : Cond.fieldLink R_RC 46 "TourForms$Rectangle" "shorterSide" "I" ∈ Om := om_at (List.mem_of_getElem? (i := 160) (by decide +kernel)) rfl
theorem kf_RC_49 : Cond.fieldLink R_RC 49 "TourForms$Rectangle" "all" "I" ∈ Om := om_at (List.mem_of_getElem? (i := 161) (by decide +kernel)) rfl
theorem kf_RC_52 : Cond.fieldLink R_RC 52 "TourForms$Rectangle" "found" "Z" ∈ Om := om_at (List.mem_of_getElem? (i := 170) (by decide +kernel)) rfl
theorem kf_RC_84 : Cond.fieldLink R_RC 84 "TourForms$Rectangle" "usedInColumns" "J" ∈ Om := om_at (List.mem_of_getElem? (i := 168) (by decide +kernel)) rfl
theorem kf_RC_88 : Cond.fieldLink R_RC 88 "TourForms$Rectangle" "usedInRows" "J" ∈ Om := om_at (List.mem_of_getElem? (i := 169) (by decide +kernel)) rfl
theorem kf_TS_9 : Cond.fieldLink R_TS 9 "TourForms$TourSearch" "path" "[I" ∈ Om := om_at (List.mem_of_getElem? (i := 95) (by decide +kernel)) rfl
theorem kf_TS_15 : Cond.fieldLink R_TS 15 "TourForms$TourSearch" "waysOn" "[I" ∈ Om := om_at (List.mem_of_getElem? (i := 96) (by decide +kernel)) rfl
theorem kf_TS_18 : Cond.fieldLink R_TS 18 "TourForms$TourSearch" "waysOnCount" "[I" ∈ Om := om_at (List.mem_of_getElem? (i := 97) (by decide +kernel)) rfl
theorem kf_TS_21 : Cond.fieldLink R_TS 21 "TourForms$TourSearch" "waysOnTried" "[I" ∈ Om := om_at (List.mem_of_getElem? (i := 98) (by decide +kernel)) rfl
theorem kf_TS_28 : Cond.fieldLink R_TS 28 "TourForms$TourSearch" "reaches" "[J" ∈ Om := om_at (List.mem_of_getElem? (i := 94) (by decide +kernel)) rfl
theorem kf_TS_50 : Cond.fieldLink R_TS 50 "TourForms$TourSearch" "found" "Z" ∈ Om := om_at (List.mem_of_getElem? (i := 103) (by decide +kernel)) rfl
theorem kf_TS_54 : Cond.fieldLink R_TS 54 "TourForms$TourSearch" "made" "I" ∈ Om := om_at (List.mem_of_getElem? (i := 102) (by decide +kernel)) rfl
theorem kf_TS_61 : Cond.fieldLink R_TS 61 "TourForms$TourSearch" "piece" "I" ∈ Om := om_at (List.mem_of_getElem? (i := 99) (by decide +kernel)) rfl
theorem kf_TS_64 : Cond.fieldLink R_TS 64 "TourForms$TourSearch" "open" "J" ∈ Om := om_at (List.mem_of_getElem? (i := 100) (by decide +kernel)) rfl
theorem kf_TS_68 : Cond.fieldLink R_TS 68 "TourForms$TourSearch" "length" "I" ∈ Om := om_at (List.mem_of_getElem? (i := 101) (by decide +kernel)) rfl
theorem kf_MD_7 : Cond.fieldLink R_MD 7 "TourFormsModel" "barred" "[Z" ∈ Om := om_at (List.mem_of_getElem? (i := 468) (by decide +kernel)) rfl
theorem kf_MD_13 : Cond.fieldLink R_MD 13 "TourFormsModel" "visited" "[Z" ∈ Om := om_at (List.mem_of_getElem? (i := 469) (by decide +kernel)) rfl
theorem kf_MD_16 : Cond.fieldLink R_MD 16 "TourFormsModel" "tour" "[I" ∈ Om := om_at (List.mem_of_getElem? (i := 470) (by decide +kernel)) rfl
theorem kf_MD_20 : Cond.fieldLink R_MD 20 "TourFormsModel" "row" "[I" ∈ Om := om_at (List.mem_of_getElem? (i := 475) (by decide +kernel)) rfl
theorem kf_MD_23 : Cond.fieldLink R_MD 23 "TourFormsModel" "listed" "[I" ∈ Om := om_at (List.mem_of_getElem? (i := 476) (by decide +kernel)) rfl
theorem kf_MD_26 : Cond.fieldLink R_MD 26 "TourFormsModel" "givenAt" "[I" ∈ Om := om_at (List.mem_of_getElem? (i := 477) (by decide +kernel)) rfl
theorem kf_MD_29 : Cond.fieldLink R_MD 29 "TourFormsModel" "filled" "[I" ∈ Om := om_at (List.mem_of_getElem? (i := 478) (by decide +kernel)) rfl
theorem kf_MD_32 : Cond.fieldLink R_MD 32 "TourFormsModel" "found" "[I" ∈ Om := om_at (List.mem_of_getElem? (i := 479) (by decide +kernel)) rfl
theorem kf_MD_35 : Cond.fieldLink R_MD 35 "TourFormsModel" "may" "[I" ∈ Om := om_at (List.mem_of_getElem? (i := 480) (by decide +kernel)) rfl
theorem kf_MD_42 : Cond.fieldLink R_MD 42 "TourFormsModel" "width" "I" ∈ Om := om_at (List.mem_of_getElem? (i := 464) (by decide +kernel)) rfl
theorem kf_MD_46 : Cond.fieldLink R_MD 46 "TourFormsModel" "height" "I" ∈ Om := om_at (List.mem_of_getElem? (i := 465) (by decide +kernel)) rfl
theorem kf_MD_49 : Cond.fieldLink R_MD 49 "TourFormsModel" "cells" "I" ∈ Om := om_at (List.mem_of_getElem? (i := 466) (by decide +kernel)) rfl
theorem kf_MD_52 : Cond.fieldLink R_MD 52 "TourFormsModel" "numbers" "I" ∈ Om := om_at (List.mem_of_getElem? (i := 467) (by decide +kernel)) rfl
theorem kf_MD_55 : Cond.fieldLink R_MD 55 "TourFormsModel" "thrown" "I" ∈ Om := om_at (List.mem_of_getElem? (i := 474) (by decide +kernel)) rfl
theorem kf_MD_62 : Cond.fieldLink R_MD 62 "TourFormsModel" "tourLong" "I" ∈ Om := om_at (List.mem_of_getElem? (i := 472) (by decide +kernel)) rfl
theorem kf_MD_65 : Cond.fieldLink R_MD 65 "TourFormsModel" "begin" "I" ∈ Om := om_at (List.mem_of_getElem? (i := 471) (by decide +kernel)) rfl
theorem kf_MD_87 : Cond.fieldLink R_MD 87 "TourFormsModel" "steps" "I" ∈ Om := om_at (List.mem_of_getElem? (i := 473) (by decide +kernel)) rfl
theorem kf_MD_102 : Cond.fieldLink R_MD 102 "TourFormsModel" "isFound" "Z" ∈ Om := om_at (List.mem_of_getElem? (i := 481) (by decide +kernel)) rfl
theorem km_TF_1 : Cond.methodLink R_TF 1 objectInit ∈ Om := om_at (List.mem_of_getElem? (i := 47) (by decide +kernel)) rfl
theorem km_TF_7 : Cond.methodLink R_TF 7 y_TF_heldToSide ∈ Om := om_at (List.mem_of_getElem? (i := 50) (by decide +kernel)) rfl
theorem km_TF_15 : Cond.methodLink R_TF 15 y_BD_init ∈ Om := om_at (List.mem_of_getElem? (i := 61) (by decide +kernel)) rfl
theorem km_TF_24 : Cond.methodLink R_TF 24 y_TS_init ∈ Om := om_at (List.mem_of_getElem? (i := 80) (by decide +kernel)) rfl
theorem km_TF_31 : Cond.methodLink R_TF 31 y_QS_init ∈ Om := om_at (List.mem_of_getElem? (i := 129) (by decide +kernel)) rfl
theorem km_TF_38 : Cond.methodLink R_TF 38 y_RC_init ∈ Om := om_at (List.mem_of_getElem? (i := 152) (by decide +kernel)) rfl
theorem km_TF_47 : Cond.methodLink R_TF 47 y_BD_cellAt ∈ Om := om_at (List.mem_of_getElem? (i := 218) (by decide +kernel)) rfl
theorem km_TF_51 : Cond.methodLink R_TF 51 y_BD_isFree ∈ Om := om_at (List.mem_of_getElem? (i := 222) (by decide +kernel)) rfl
theorem km_TF_55 : Cond.methodLink R_TF 55 y_BD_turnBar ∈ Om := om_at (List.mem_of_getElem? (i := 230) (by decide +kernel)) rfl
theorem km_TF_59 : Cond.methodLink R_TF 59 y_TS_forget ∈ Om := om_at (List.mem_of_getElem? (i := 234) (by decide +kernel)) rfl
theorem km_TF_62 : Cond.methodLink R_TF 62 y_TF_isPiece ∈ Om := om_at (List.mem_of_getElem? (i := 246) (by decide +kernel)) rfl
theorem km_TF_66 : Cond.methodLink R_TF 66 y_TS_giveUp ∈ Om := om_at (List.mem_of_getElem? (i := 250) (by decide +kernel)) rfl
theorem km_TF_69 : Cond.methodLink R_TF 69 y_BD_freeCells ∈ Om := om_at (List.mem_of_getElem? (i := 254) (by decide +kernel)) rfl
theorem km_TF_73 : Cond.methodLink R_TF 73 y_TS_begin ∈ Om := om_at (List.mem_of_getElem? (i := 258) (by decide +kernel)) rfl
theorem km_TF_77 : Cond.methodLink R_TF 77 y_TS_run ∈ Om := om_at (List.mem_of_getElem? (i := 288) (by decide +kernel)) rfl
theorem km_TF_81 : Cond.methodLink R_TF 81 y_TS_cellOfTour ∈ Om := om_at (List.mem_of_getElem? (i := 308) (by decide +kernel)) rfl
theorem km_TF_84 : Cond.methodLink R_TF 84 y_TS_stepsMade ∈ Om := om_at (List.mem_of_getElem? (i := 316) (by decide +kernel)) rfl
theorem km_TF_88 : Cond.methodLink R_TF 88 y_BD_hasCell ∈ Om := om_at (List.mem_of_getElem? (i := 324) (by decide +kernel)) rfl
theorem km_TF_91 : Cond.methodLink R_TF 91 y_TS_reach ∈ Om := om_at (List.mem_of_getElem? (i := 325) (by decide +kernel)) rfl
theorem km_TF_95 : Cond.methodLink R_TF 95 y_LG_bitCount ∈ Om := om_at (List.mem_of_getElem? (i := 326) (by decide +kernel)) rfl
theorem km_TF_101 : Cond.methodLink R_TF 101 y_QS_countWays ∈ Om := om_at (List.mem_of_getElem? (i := 331) (by decide +kernel)) rfl
theorem km_TF_104 : Cond.methodLink R_TF 104 y_QS_rowInWay ∈ Om := om_at (List.mem_of_getElem? (i := 354) (by decide +kernel)) rfl
theorem km_TF_108 : Cond.methodLink R_TF 108 y_RC_allows ∈ Om := om_at (List.mem_of_getElem? (i := 362) (by decide +kernel)) rfl
theorem km_TF_111 : Cond.methodLink R_TF 111 y_RC_give ∈ Om := om_at (List.mem_of_getElem? (i := 366) (by decide +kernel)) rfl
theorem km_TF_114 : Cond.methodLink R_TF 114 y_RC_findLeast ∈ Om := om_at (List.mem_of_getElem? (i := 374) (by decide +kernel)) rfl
theorem km_TF_118 : Cond.methodLink R_TF 118 y_RC_foundAt ∈ Om := om_at (List.mem_of_getElem? (i := 433) (by decide +kernel)) rfl
theorem km_TF_121 : Cond.methodLink R_TF 121 y_RC_countUpTo ∈ Om := om_at (List.mem_of_getElem? (i := 441) (by decide +kernel)) rfl
theorem km_TF_124 : Cond.methodLink R_TF 124 y_MT_floorMod ∈ Om := om_at (List.mem_of_getElem? (i := 449) (by decide +kernel)) rfl
theorem km_TF_129 : Cond.methodLink R_TF 129 Lib.Math.min.name ∈ Om := om_at (List.mem_of_getElem? (i := 53) (by decide +kernel)) rfl
theorem km_TF_132 : Cond.methodLink R_TF 132 Lib.Math.max.name ∈ Om := om_at (List.mem_of_getElem? (i := 56) (by decide +kernel)) rfl
theorem km_BD_1 : Cond.methodLink R_BD 1 objectInit ∈ Om := om_at (List.mem_of_getElem? (i := 64) (by decide +kernel)) rfl
theorem km_BD_23 : Cond.methodLink R_BD 23 y_BD_hasCell ∈ Om := om_at (List.mem_of_getElem? (i := 226) (by decide +kernel)) rfl
theorem km_QS_3 : Cond.methodLink R_QS 3 objectInit ∈ Om := om_at (List.mem_of_getElem? (i := 132) (by decide +kernel)) rfl
theorem km_QS_15 : Cond.methodLink R_QS 15 Lib.Math.min.name ∈ Om := om_at (List.mem_of_getElem? (i := 133) (by decide +kernel)) rfl
theorem km_QS_35 : Cond.methodLink R_QS 35 y_QS_placeFrom ∈ Om := om_at (List.mem_of_getElem? (i := 335) (by decide +kernel)) rfl
theorem km_QS_39 : Cond.methodLink R_QS 39 y_QS_placeIn ∈ Om := om_at (List.mem_of_getElem? (i := 339) (by decide +kernel)) rfl
theorem km_QS_42 : Cond.methodLink R_QS 42 y_QS_canStand ∈ Om := om_at (List.mem_of_getElem? (i := 343) (by decide +kernel)) rfl
theorem km_QS_45 : Cond.methodLink R_QS 45 Lib.Math.abs.name ∈ Om := om_at (List.mem_of_getElem? (i := 347) (by decide +kernel)) rfl
theorem km_RC_3 : Cond.methodLink R_RC 3 objectInit ∈ Om := om_at (List.mem_of_getElem? (i := 155) (by decide +kernel)) rfl
theorem km_RC_30 : Cond.methodLink R_RC 30 Lib.Math.min.name ∈ Om := om_at (List.mem_of_getElem? (i := 156) (by decide +kernel)) rfl
theorem km_RC_40 : Cond.methodLink R_RC 40 Lib.Math.max.name ∈ Om := om_at (List.mem_of_getElem? (i := 157) (by decide +kernel)) rfl
theorem km_RC_56 : Cond.methodLink R_RC 56 y_RC_layGiven ∈ Om := om_at (List.mem_of_getElem? (i := 378) (by decide +kernel)) rfl
theorem km_RC_60 : Cond.methodLink R_RC 60 y_RC_countFrom ∈ Om := om_at (List.mem_of_getElem? (i := 390) (by decide +kernel)) rfl
theorem km_RC_63 : Cond.methodLink R_RC 63 y_RC_settle ∈ Om := om_at (List.mem_of_getElem? (i := 425) (by decide +kernel)) rfl
theorem km_RC_67 : Cond.methodLink R_RC 67 arraycopyName ∈ Om := om_at (List.mem_of_getElem? (i := 404) (by decide +kernel)) rfl
theorem km_RC_73 : Cond.methodLink R_RC 73 y_RC_choicesAt ∈ Om := om_at (List.mem_of_getElem? (i := 382) (by decide +kernel)) rfl
theorem km_RC_77 : Cond.methodLink R_RC 77 y_RC_put ∈ Om := om_at (List.mem_of_getElem? (i := 386) (by decide +kernel)) rfl
theorem km_RC_81 : Cond.methodLink R_RC 81 y_RC_take ∈ Om := om_at (List.mem_of_getElem? (i := 420) (by decide +kernel)) rfl
theorem km_RC_91 : Cond.methodLink R_RC 91 y_RC_narrowestOpenCell ∈ Om := om_at (List.mem_of_getElem? (i := 394) (by decide +kernel)) rfl
theorem km_RC_95 : Cond.methodLink R_RC 95 y_IN_bitCount ∈ Om := om_at (List.mem_of_getElem? (i := 398) (by decide +kernel)) rfl
theorem km_RC_100 : Cond.methodLink R_RC 100 y_RC_someNumberLacksPlaces ∈ Om := om_at (List.mem_of_getElem? (i := 407) (by decide +kernel)) rfl
theorem km_RC_103 : Cond.methodLink R_RC 103 y_RC_countWith ∈ Om := om_at (List.mem_of_getElem? (i := 416) (by decide +kernel)) rfl
theorem km_RC_107 : Cond.methodLink R_RC 107 y_RC_linesWith ∈ Om := om_at (List.mem_of_getElem? (i := 411) (by decide +kernel)) rfl
theorem km_RC_113 : Cond.methodLink R_RC 113 y_LG_bitCount ∈ Om := om_at (List.mem_of_getElem? (i := 415) (by decide +kernel)) rfl
theorem km_TS_3 : Cond.methodLink R_TS 3 objectInit ∈ Om := om_at (List.mem_of_getElem? (i := 83) (by decide +kernel)) rfl
theorem km_TS_24 : Cond.methodLink R_TS 24 y_TS_reachesOn ∈ Om := om_at (List.mem_of_getElem? (i := 84) (by decide +kernel)) rfl
theorem km_TS_32 : Cond.methodLink R_TS 32 y_TS_reachFrom ∈ Om := om_at (List.mem_of_getElem? (i := 87) (by decide +kernel)) rfl
theorem km_TS_36 : Cond.methodLink R_TS 36 Lib.Math.max.name ∈ Om := om_at (List.mem_of_getElem? (i := 90) (by decide +kernel)) rfl
theorem km_TS_42 : Cond.methodLink R_TS 42 y_TS_goes ∈ Om := om_at (List.mem_of_getElem? (i := 91) (by decide +kernel)) rfl
theorem km_TS_46 : Cond.methodLinkNest R_TS 46 y_TF_isPiece "TourForms" ∈ lw_tbl := List.mem_of_getElem? (i := 276) (by decide +kernel)
theorem km_TS_58 : Cond.methodLink R_TS 58 y_TS_giveUp ∈ Om := om_at (List.mem_of_getElem? (i := 262) (by decide +kernel)) rfl
theorem km_TS_71 : Cond.methodLink R_TS 71 y_TS_enter ∈ Om := om_at (List.mem_of_getElem? (i := 263) (by decide +kernel)) rfl
theorem km_TS_75 : Cond.methodLink R_TS 75 y_TS_closes ∈ Om := om_at (List.mem_of_getElem? (i := 292) (by decide +kernel)) rfl
theorem km_TS_79 : Cond.methodLink R_TS 79 y_TS_nextCell ∈ Om := om_at (List.mem_of_getElem? (i := 296) (by decide +kernel)) rfl
theorem km_TS_83 : Cond.methodLink R_TS 83 y_TS_goBack ∈ Om := om_at (List.mem_of_getElem? (i := 300) (by decide +kernel)) rfl
theorem km_TS_86 : Cond.methodLink R_TS 86 y_TS_reach ∈ Om := om_at (List.mem_of_getElem? (i := 272) (by decide +kernel)) rfl
theorem km_TS_92 : Cond.methodLink R_TS 92 y_TS_listWaysOn ∈ Om := om_at (List.mem_of_getElem? (i := 268) (by decide +kernel)) rfl
theorem km_TS_95 : Cond.methodLink R_TS 95 y_LG_bitCount ∈ Om := om_at (List.mem_of_getElem? (i := 277) (by decide +kernel)) rfl
theorem km_TS_101 : Cond.methodLink R_TS 101 Lib.Math.min.name ∈ Om := om_at (List.mem_of_getElem? (i := 283) (by decide +kernel)) rfl
theorem km_TS_104 : Cond.methodLink R_TS 104 y_TS_insertWayOn ∈ Om := om_at (List.mem_of_getElem? (i := 284) (by decide +kernel)) rfl
theorem km_law_9 : Cond.methodLink "TourFormsLaw" 9 y_law_cell ∈ Om := om_at (List.mem_of_getElem? (i := 452) (by decide +kernel)) rfl
theorem km_law_15 : Cond.methodLink "TourFormsLaw" 15 y_TF_init ∈ Om := om_at (List.mem_of_getElem? (i := 44) (by decide +kernel)) rfl
theorem km_law_20 : Cond.methodLink "TourFormsLaw" 20 y_MD_init ∈ Om := om_at (List.mem_of_getElem? (i := 457) (by decide +kernel)) rfl
theorem km_law_21 : Cond.methodLink "TourFormsLaw" 21 y_TF_bar ∈ Om := om_at (List.mem_of_getElem? (i := 214) (by decide +kernel)) rfl
theorem km_law_25 : Cond.methodLink "TourFormsLaw" 25 y_MD_bar ∈ Om := om_at (List.mem_of_getElem? (i := 520) (by decide +kernel)) rfl
theorem km_law_26 : Cond.methodLink "TourFormsLaw" 26 y_TF_start ∈ Om := om_at (List.mem_of_getElem? (i := 238) (by decide +kernel)) rfl
theorem km_law_30 : Cond.methodLink "TourFormsLaw" 30 y_MD_start ∈ Om := om_at (List.mem_of_getElem? (i := 528) (by decide +kernel)) rfl
theorem km_law_31 : Cond.methodLink "TourFormsLaw" 31 y_TF_tour ∈ Om := om_at (List.mem_of_getElem? (i := 242) (by decide +kernel)) rfl
theorem km_law_35 : Cond.methodLink "TourFormsLaw" 35 y_MD_tour ∈ Om := om_at (List.mem_of_getElem? (i := 532) (by decide +kernel)) rfl
theorem km_law_36 : Cond.methodLink "TourFormsLaw" 36 y_TF_at ∈ Om := om_at (List.mem_of_getElem? (i := 304) (by decide +kernel)) rfl
theorem km_law_40 : Cond.methodLink "TourFormsLaw" 40 y_MD_at ∈ Om := om_at (List.mem_of_getElem? (i := 560) (by decide +kernel)) rfl
theorem km_law_41 : Cond.methodLink "TourFormsLaw" 41 y_TF_steps ∈ Om := om_at (List.mem_of_getElem? (i := 312) (by decide +kernel)) rfl
theorem km_law_45 : Cond.methodLink "TourFormsLaw" 45 y_MD_steps ∈ Om := om_at (List.mem_of_getElem? (i := 564) (by decide +kernel)) rfl
theorem km_law_46 : Cond.methodLink "TourFormsLaw" 46 y_TF_ways ∈ Om := om_at (List.mem_of_getElem? (i := 320) (by decide +kernel)) rfl
theorem km_law_50 : Cond.methodLink "TourFormsLaw" 50 y_MD_ways ∈ Om := om_at (List.mem_of_getElem? (i := 568) (by decide +kernel)) rfl
theorem km_law_51 : Cond.methodLink "TourFormsLaw" 51 y_TF_queens ∈ Om := om_at (List.mem_of_getElem? (i := 327) (by decide +kernel)) rfl
theorem km_law_54 : Cond.methodLink "TourFormsLaw" 54 y_MD_queens ∈ Om := om_at (List.mem_of_getElem? (i := 572) (by decide +kernel)) rfl
theorem km_law_55 : Cond.methodLink "TourFormsLaw" 55 y_TF_queen ∈ Om := om_at (List.mem_of_getElem? (i := 350) (by decide +kernel)) rfl
theorem km_law_58 : Cond.methodLink "TourFormsLaw" 58 y_MD_queen ∈ Om := om_at (List.mem_of_getElem? (i := 584) (by decide +kernel)) rfl
theorem km_law_59 : Cond.methodLink "TourFormsLaw" 59 y_TF_given ∈ Om := om_at (List.mem_of_getElem? (i := 358) (by decide +kernel)) rfl
theorem km_law_63 : Cond.methodLink "TourFormsLaw" 63 y_MD_given ∈ Om := om_at (List.mem_of_getElem? (i := 588) (by decide +kernel)) rfl
theorem km_law_64 : Cond.methodLink "TourFormsLaw" 64 y_TF_fill ∈ Om := om_at (List.mem_of_getElem? (i := 370) (by decide +kernel)) rfl
theorem km_law_68 : Cond.methodLink "TourFormsLaw" 68 y_MD_fill ∈ Om := om_at (List.mem_of_getElem? (i := 592) (by decide +kernel)) rfl
theorem km_law_69 : Cond.methodLink "TourFormsLaw" 69 y_TF_number ∈ Om := om_at (List.mem_of_getElem? (i := 429) (by decide +kernel)) rfl
theorem km_law_72 : Cond.methodLink "TourFormsLaw" 72 y_MD_number ∈ Om := om_at (List.mem_of_getElem? (i := 619) (by decide +kernel)) rfl
theorem km_law_73 : Cond.methodLink "TourFormsLaw" 73 y_TF_fills ∈ Om := om_at (List.mem_of_getElem? (i := 437) (by decide +kernel)) rfl
theorem km_law_76 : Cond.methodLink "TourFormsLaw" 76 y_MD_fills ∈ Om := om_at (List.mem_of_getElem? (i := 623) (by decide +kernel)) rfl
theorem km_law_77 : Cond.methodLink "TourFormsLaw" 77 y_TF_magic ∈ Om := om_at (List.mem_of_getElem? (i := 445) (by decide +kernel)) rfl
theorem km_law_81 : Cond.methodLink "TourFormsLaw" 81 y_MD_magic ∈ Om := om_at (List.mem_of_getElem? (i := 627) (by decide +kernel)) rfl
theorem km_MD_1 : Cond.methodLink R_MD 1 objectInit ∈ Om := om_at (List.mem_of_getElem? (i := 460) (by decide +kernel)) rfl
theorem km_MD_38 : Cond.methodLink R_MD 38 y_MD_held ∈ Om := om_at (List.mem_of_getElem? (i := 461) (by decide +kernel)) rfl
theorem km_MD_58 : Cond.methodLink R_MD 58 y_MD_isCell ∈ Om := om_at (List.mem_of_getElem? (i := 524) (by decide +kernel)) rfl
theorem km_MD_68 : Cond.methodLink R_MD 68 y_MD_apart ∈ Om := om_at (List.mem_of_getElem? (i := 549) (by decide +kernel)) rfl
theorem km_MD_72 : Cond.methodLink R_MD 72 y_MD_goes ∈ Om := om_at (List.mem_of_getElem? (i := 545) (by decide +kernel)) rfl
theorem km_MD_76 : Cond.methodLink R_MD 76 y_MD_waysOn ∈ Om := om_at (List.mem_of_getElem? (i := 556) (by decide +kernel)) rfl
theorem km_MD_79 : Cond.methodLink R_MD 79 y_MD_open ∈ Om := om_at (List.mem_of_getElem? (i := 541) (by decide +kernel)) rfl
theorem km_MD_83 : Cond.methodLink R_MD 83 y_MD_nextCell ∈ Om := om_at (List.mem_of_getElem? (i := 552) (by decide +kernel)) rfl
theorem km_MD_91 : Cond.methodLink R_MD 91 y_MD_search ∈ Om := om_at (List.mem_of_getElem? (i := 537) (by decide +kernel)) rfl
theorem km_MD_95 : Cond.methodLink R_MD 95 y_MD_stands ∈ Om := om_at (List.mem_of_getElem? (i := 580) (by decide +kernel)) rfl
theorem km_MD_99 : Cond.methodLink R_MD 99 y_MD_goThrough ∈ Om := om_at (List.mem_of_getElem? (i := 576) (by decide +kernel)) rfl
theorem km_MD_106 : Cond.methodLink R_MD 106 y_MD_free ∈ Om := om_at (List.mem_of_getElem? (i := 604) (by decide +kernel)) rfl
theorem km_MD_109 : Cond.methodLink R_MD 109 y_MD_enough ∈ Om := om_at (List.mem_of_getElem? (i := 608) (by decide +kernel)) rfl
theorem km_MD_113 : Cond.methodLink R_MD 113 y_MD_bits ∈ Om := om_at (List.mem_of_getElem? (i := 612) (by decide +kernel)) rfl
theorem km_MD_116 : Cond.methodLink R_MD 116 y_MD_goesOn ∈ Om := om_at (List.mem_of_getElem? (i := 600) (by decide +kernel)) rfl
theorem km_MD_119 : Cond.methodLink R_MD 119 y_MD_fits ∈ Om := om_at (List.mem_of_getElem? (i := 615) (by decide +kernel)) rfl
theorem km_MD_122 : Cond.methodLink R_MD 122 y_MD_fillThrough ∈ Om := om_at (List.mem_of_getElem? (i := 596) (by decide +kernel)) rfl
theorem kc_TF_13 : Cond.classLink R_TF 13 R_BD ∈ Om := om_at (List.mem_of_getElem? (i := 59) (by decide +kernel)) rfl
theorem kc_TF_22 : Cond.classLink R_TF 22 R_TS ∈ Om := om_at (List.mem_of_getElem? (i := 78) (by decide +kernel)) rfl
theorem kc_TF_29 : Cond.classLink R_TF 29 R_QS ∈ Om := om_at (List.mem_of_getElem? (i := 127) (by decide +kernel)) rfl
theorem kc_TF_36 : Cond.classLink R_TF 36 R_RC ∈ Om := om_at (List.mem_of_getElem? (i := 150) (by decide +kernel)) rfl
theorem kc_law_7 : Cond.classLink "TourFormsLaw" 7 R_TF ∈ Om := om_at (List.mem_of_getElem? (i := 42) (by decide +kernel)) rfl
theorem kc_law_18 : Cond.classLink "TourFormsLaw" 18 R_MD ∈ Om := om_at (List.mem_of_getElem? (i := 455) (by decide +kernel)) rfl
theorem ki_TF_65 : Cond.constant R_TF 65 (nI 100000) ∈ Om := om_at (List.mem_of_getElem? (i := 249) (by decide +kernel)) rfl
theorem ki_MD_90 : Cond.constant R_MD 90 (nI 100000) ∈ Om := om_at (List.mem_of_getElem? (i := 536) (by decide +kernel)) rfl
theorem ki_IN_265 : Cond.constant R_IN 265 (nI 1431655765) ∈ Om := om_at (List.mem_of_getElem? (i := 401) (by decide +kernel)) rfl
theorem ki_IN_266 : Cond.constant R_IN 266 (nI 858993459) ∈ Om := om_at (List.mem_of_getElem? (i := 402) (by decide +kernel)) rfl
theorem ki_IN_267 : Cond.constant R_IN 267 (nI 252645135) ∈ Om := om_at (List.mem_of_getElem? (i := 403) (by decide +kernel)) rfl
theorem kl_RC_111 : Cond.constantLong R_RC 111 (lN 1103823438081) ∈ Om := om_at (List.mem_of_getElem? (i := 414) (by decide +kernel)) rfl
theorem kl_RC_118 : Cond.constantLong R_RC 118 (lN 18446744073709551615) ∈ Om := om_at (List.mem_of_getElem? (i := 424) (by decide +kernel)) rfl
theorem kl_TS_90 : Cond.constantLong R_TS 90 (lN 18446744073709551615) ∈ Om := om_at (List.mem_of_getElem? (i := 267) (by decide +kernel)) rfl
theorem kl_LG_314 : Cond.constantLong R_LG 314 (lN 6148914691236517205) ∈ Om := om_at (List.mem_of_getElem? (i := 280) (by decide +kernel)) rfl
theorem kl_LG_316 : Cond.constantLong R_LG 316 (lN 3689348814741910323) ∈ Om := om_at (List.mem_of_getElem? (i := 281) (by decide +kernel)) rfl
theorem kl_LG_318 : Cond.constantLong R_LG 318 (lN 1085102592571150095) ∈ Om := om_at (List.mem_of_getElem? (i := 282) (by decide +kernel)) rfl
theorem kn_BD : Cond.instantiable R_BD 4 ∈ Om := om_at (List.mem_of_getElem? (i := 60) (by decide +kernel)) rfl
theorem kn_QS : Cond.instantiable R_QS 5 ∈ Om := om_at (List.mem_of_getElem? (i := 128) (by decide +kernel)) rfl
theorem kn_RC : Cond.instantiable R_RC 13 ∈ Om := om_at (List.mem_of_getElem? (i := 151) (by decide +kernel)) rfl
theorem kn_TS : Cond.instantiable R_TS 10 ∈ Om := om_at (List.mem_of_getElem? (i := 79) (by decide +kernel)) rfl
theorem kn_TF : Cond.instantiable R_TF 5 ∈ Om := om_at (List.mem_of_getElem? (i := 43) (by decide +kernel)) rfl
theorem kn_MD : Cond.instantiable R_MD 18 ∈ Om := om_at (List.mem_of_getElem? (i := 456) (by decide +kernel)) rfl
theorem kz_TF : Cond.initialized "TourForms" ∈ Om := om_at (List.mem_of_getElem? (i := 32) (by decide +kernel)) rfl
theorem kz_BD : Cond.initialized "TourForms$Board" ∈ Om := om_at (List.mem_of_getElem? (i := 34) (by decide +kernel)) rfl
theorem kz_QS : Cond.initialized "TourForms$QueenSearch" ∈ Om := om_at (List.mem_of_getElem? (i := 36) (by decide +kernel)) rfl
theorem kz_RC : Cond.initialized "TourForms$Rectangle" ∈ Om := om_at (List.mem_of_getElem? (i := 37) (by decide +kernel)) rfl
theorem kz_TS : Cond.initialized "TourForms$TourSearch" ∈ Om := om_at (List.mem_of_getElem? (i := 35) (by decide +kernel)) rfl
theorem kz_MD : Cond.initialized "TourFormsModel" ∈ Om := om_at (List.mem_of_getElem? (i := 38) (by decide +kernel)) rfl
theorem kz_law : Cond.initialized "TourFormsLaw" ∈ Om := om_at (List.mem_of_getElem? (i := 31) (by decide +kernel)) rfl
theorem kz_LG : Cond.initialized "java/lang/Long" ∈ Om := om_at (List.mem_of_getElem? (i := 39) (by decide +kernel)) rfl
theorem kz_IN : Cond.initialized "java/lang/Integer" ∈ Om := om_at (List.mem_of_getElem? (i := 40) (by decide +kernel)) rfl
theorem kz_MT : Cond.initialized "java/lang/Math" ∈ Om := om_at (List.mem_of_getElem? (i := 33) (by decide +kernel)) rfl
theorem kz_SY : Cond.initialized "java/lang/System" ∈ Om := om_at (List.mem_of_getElem? (i := 41) (by decide +kernel)) rfl
theorem ka_int : Cond.arrayClass .int ∈ Om := om_at (List.mem_of_getElem? (i := 125) (by decide +kernel)) rfl
theorem ka_long : Cond.arrayClass .long ∈ Om := om_at (List.mem_of_getElem? (i := 126) (by decide +kernel)) rfl
theorem ka_boolean : Cond.arrayClass .boolean ∈ Om := om_at (List.mem_of_getElem? (i := 519) (by decide +kernel)) rfl
set_option maxRecDepth 20000 in
theorem m_TF_init : MI y_TF_init b_TF_init 5 2 := ⟨om_at (List.mem_of_getElem? (i := 46) rfl) rfl, om_at (List.mem_of_getElem? (i := 45) (by decide +kernel)) rfl, rfl, kz_TF, (by decide +kernel), (by decide +kernel), (by decide +kernel)⟩
set_option maxRecDepth 20000 in
theorem m_TF_heldToSide : MS y_TF_heldToSide b_TF_heldToSide 1 (some .int) 1 := ⟨om_at (List.mem_of_getElem? (i := 52) rfl) rfl, om_at (List.mem_of_getElem? (i := 51) (by decide +kernel)) rfl, kz_TF, (by decide +kernel), (by decide +kernel), (by decide +kernel)⟩
set_option maxRecDepth 20000 in
theorem m_BD_init : MI y_BD_init b_BD_init 3 2 := ⟨om_at (List.mem_of_getElem? (i := 63) rfl) rfl, om_at (List.mem_of_getElem? (i := 62) (by decide +kernel)) rfl, rfl, kz_BD, (by decide +kernel), (by decide +kernel), (by decide +kernel)⟩
set_option maxRecDepth 20000 in
theorem m_TS_init : MI y_TS_init b_TS_init 3 2 := ⟨om_at (List.mem_of_getElem? (i := 82) rfl) rfl, om_at (List.mem_of_getElem? (i := 81) (by decide +kernel)) rfl, rfl, kz_TS, (by decide +kernel), (by decide +kernel), (by decide +kernel)⟩
set_option maxRecDepth 20000 in
theorem m_TS_reachesOn : MS y_TS_reachesOn b_TS_reachesOn 7 (some (.array .long)) 2 := ⟨om_at (List.mem_of_getElem? (i := 86) rfl) rfl, om_at (List.mem_of_getElem? (i := 85) (by decide +kernel)) rfl, kz_TS, (by decide +kernel), (by decide +kernel), (by decide +kernel)⟩
set_option maxRecDepth 20000 in
theorem m_TS_reachFrom : MS y_TS_reachFrom b_TS_reachFrom 9 (some .long) 5 := ⟨om_at (List.mem_of_getElem? (i := 89) rfl) rfl, om_at (List.mem_of_getElem? (i := 88) (by decide +kernel)) rfl, kz_TS, (by decide +kernel), (by decide +kernel), (by decide +kernel)⟩
set_option maxRecDepth 20000 in
theorem m_TS_goes : MS y_TS_goes b_TS_goes 2 (some .boolean) 2 := ⟨om_at (List.mem_of_getElem? (i := 93) rfl) rfl, om_at (List.mem_of_getElem? (i := 92) (by decide +kernel)) rfl, kz_TS, (by decide +kernel), (by decide +kernel), (by decide +kernel)⟩
set_option maxRecDepth 20000 in
theorem m_QS_init : MI y_QS_init b_QS_init 3 2 := ⟨om_at (List.mem_of_getElem? (i := 131) rfl) rfl, om_at (List.mem_of_getElem? (i := 130) (by decide +kernel)) rfl, rfl, kz_QS, (by decide +kernel), (by decide +kernel), (by decide +kernel)⟩
set_option maxRecDepth 20000 in
theorem m_RC_init : MI y_RC_init b_RC_init 6 2 := ⟨om_at (List.mem_of_getElem? (i := 154) rfl) rfl, om_at (List.mem_of_getElem? (i := 153) (by decide +kernel)) rfl, rfl, kz_RC, (by decide +kernel), (by decide +kernel), (by decide +kernel)⟩
set_option maxRecDepth 20000 in
theorem m_TF_bar : MV y_TF_bar b_TF_bar 5 (some .boolean) 3 := ⟨om_at (List.mem_of_getElem? (i := 217) rfl) rfl, om_at (List.mem_of_getElem? (i := 215) (by decide +kernel)) rfl, om_at (List.mem_of_getElem? (i := 216) (by decide +kernel)) rfl, kz_TF, (by decide +kernel), (by decide +kernel), (by decide +kernel)⟩
set_option maxRecDepth 20000 in
theorem m_BD_cellAt : MV y_BD_cellAt b_BD_cellAt 3 (some .int) 2 := ⟨om_at (List.mem_of_getElem? (i := 221) rfl) rfl, om_at (List.mem_of_getElem? (i := 219) (by decide +kernel)) rfl, om_at (List.mem_of_getElem? (i := 220) (by decide +kernel)) rfl, kz_BD, (by decide +kernel), (by decide +kernel), (by decide +kernel)⟩
set_option maxRecDepth 20000 in
theorem m_BD_isFree : MV y_BD_isFree b_BD_isFree 2 (some .boolean) 1 := ⟨om_at (List.mem_of_getElem? (i := 225) rfl) rfl, om_at (List.mem_of_getElem? (i := 223) (by decide +kernel)) rfl, om_at (List.mem_of_getElem? (i := 224) (by decide +kernel)) rfl, kz_BD, (by decide +kernel), (by decide +kernel), (by decide +kernel)⟩
set_option maxRecDepth 20000 in
theorem m_BD_hasCell : MV y_BD_hasCell b_BD_hasCell 2 (some .boolean) 1 := ⟨om_at (List.mem_of_getElem? (i := 229) rfl) rfl, om_at (List.mem_of_getElem? (i := 227) (by decide +kernel)) rfl, om_at (List.mem_of_getElem? (i := 228) (by decide +kernel)) rfl, kz_BD, (by decide +kernel), (by decide +kernel), (by decide +kernel)⟩
set_option maxRecDepth 20000 in
theorem m_BD_turnBar : MV y_BD_turnBar b_BD_turnBar 2 none 1 := ⟨om_at (List.mem_of_getElem? (i := 233) rfl) rfl, om_at (List.mem_of_getElem? (i := 231) (by decide +kernel)) rfl, om_at (List.mem_of_getElem? (i := 232) (by decide +kernel)) rfl, kz_BD, (by decide +kernel), (by decide +kernel), (by decide +kernel)⟩
set_option maxRecDepth 20000 in
theorem m_TS_forget : MV y_TS_forget b_TS_forget 1 none 0 := ⟨om_at (List.mem_of_getElem? (i := 237) rfl) rfl, om_at (List.mem_of_getElem? (i := 235) (by decide +kernel)) rfl, om_at (List.mem_of_getElem? (i := 236) (by decide +kernel)) rfl, kz_TS, (by decide +kernel), (by decide +kernel), (by decide +kernel)⟩
set_option maxRecDepth 20000 in
theorem m_TF_start : MV y_TF_start b_TF_start 4 (some .boolean) 2 := ⟨om_at (List.mem_of_getElem? (i := 241) rfl) rfl, om_at (List.mem_of_getElem? (i := 239) (by decide +kernel)) rfl, om_at (List.mem_of_getElem? (i := 240) (by decide +kernel)) rfl, kz_TF, (by decide +kernel), (by decide +kernel), (by decide +kernel)⟩
set_option maxRecDepth 20000 in
theorem m_TF_tour : MV y_TF_tour b_TF_tour 4 (some .int) 3 := ⟨om_at (List.mem_of_getElem? (i := 245) rfl) rfl, om_at (List.mem_of_getElem? (i := 243) (by decide +kernel)) rfl, om_at (List.mem_of_getElem? (i := 244) (by decide +kernel)) rfl, kz_TF, (by decide +kernel), (by decide +kernel), (by decide +kernel)⟩
set_option maxRecDepth 20000 in
theorem m_TF_isPiece : MS y_TF_isPiece b_TF_isPiece 1 (some .boolean) 1 := ⟨om_at (List.mem_of_getElem? (i := 248) rfl) rfl, om_at (List.mem_of_getElem? (i := 247) (by decide +kernel)) rfl, kz_TF, (by decide +kernel), (by decide +kernel), (by decide +kernel)⟩
set_option maxRecDepth 20000 in
theorem m_TS_giveUp : MV y_TS_giveUp b_TS_giveUp 1 none 0 := ⟨om_at (List.mem_of_getElem? (i := 253) rfl) rfl, om_at (List.mem_of_getElem? (i := 251) (by decide +kernel)) rfl, om_at (List.mem_of_getElem? (i := 252) (by decide +kernel)) rfl, kz_TS, (by decide +kernel), (by decide +kernel), (by decide +kernel)⟩
set_option maxRecDepth 20000 in
theorem m_BD_freeCells : MV y_BD_freeCells b_BD_freeCells 1 (some .long) 0 := ⟨om_at (List.mem_of_getElem? (i := 257) rfl) rfl, om_at (List.mem_of_getElem? (i := 255) (by decide +kernel)) rfl, om_at (List.mem_of_getElem? (i := 256) (by decide +kernel)) rfl, kz_BD, (by decide +kernel), (by decide +kernel), (by decide +kernel)⟩
set_option maxRecDepth 20000 in
theorem m_TS_begin : MV y_TS_begin b_TS_begin 5 none 3 := ⟨om_at (List.mem_of_getElem? (i := 261) rfl) rfl, om_at (List.mem_of_getElem? (i := 259) (by decide +kernel)) rfl, om_at (List.mem_of_getElem? (i := 260) (by decide +kernel)) rfl, kz_TS, (by decide +kernel), (by decide +kernel), (by decide +kernel)⟩
set_option maxRecDepth 20000 in
theorem m_TS_enter : MV y_TS_enter b_TS_enter 2 none 1 := ⟨om_at (List.mem_of_getElem? (i := 266) rfl) rfl, om_at (List.mem_of_getElem? (i := 265) (by decide +kernel)) rfl, om_at (List.mem_of_getElem? (i := 0) (by decide +kernel)) rfl, kz_TS, (by decide +kernel), (by decide +kernel), (by decide +kernel)⟩
set_option maxRecDepth 20000 in
theorem m_TS_listWaysOn : MV y_TS_listWaysOn b_TS_listWaysOn 11 (some .int) 2 := ⟨om_at (List.mem_of_getElem? (i := 271) rfl) rfl, om_at (List.mem_of_getElem? (i := 270) (by decide +kernel)) rfl, om_at (List.mem_of_getElem? (i := 1) (by decide +kernel)) rfl, kz_TS, (by decide +kernel), (by decide +kernel), (by decide +kernel)⟩
set_option maxRecDepth 20000 in
theorem m_TS_reach : MV y_TS_reach b_TS_reach 3 (some .long) 2 := ⟨om_at (List.mem_of_getElem? (i := 275) rfl) rfl, om_at (List.mem_of_getElem? (i := 273) (by decide +kernel)) rfl, om_at (List.mem_of_getElem? (i := 274) (by decide +kernel)) rfl, kz_TS, (by decide +kernel), (by decide +kernel), (by decide +kernel)⟩
set_option maxRecDepth 20000 in
theorem m_LG_bitCount : MS y_LG_bitCount b_LG_bitCount 2 (some .int) 1 := ⟨om_at (List.mem_of_getElem? (i := 279) rfl) rfl, om_at (List.mem_of_getElem? (i := 278) (by decide +kernel)) rfl, kz_LG, (by decide +kernel), (by decide +kernel), (by decide +kernel)⟩
set_option maxRecDepth 20000 in
theorem m_TS_insertWayOn : MV y_TS_insertWayOn b_TS_insertWayOn 5 none 3 := ⟨om_at (List.mem_of_getElem? (i := 287) rfl) rfl, om_at (List.mem_of_getElem? (i := 286) (by decide +kernel)) rfl, om_at (List.mem_of_getElem? (i := 2) (by decide +kernel)) rfl, kz_TS, (by decide +kernel), (by decide +kernel), (by decide +kernel)⟩
set_option maxRecDepth 20000 in
theorem m_TS_run : MV y_TS_run b_TS_run 6 (some .int) 2 := ⟨om_at (List.mem_of_getElem? (i := 291) rfl) rfl, om_at (List.mem_of_getElem? (i := 289) (by decide +kernel)) rfl, om_at (List.mem_of_getElem? (i := 290) (by decide +kernel)) rfl, kz_TS, (by decide +kernel), (by decide +kernel), (by decide +kernel)⟩
set_option maxRecDepth 20000 in
theorem m_TS_closes : MV y_TS_closes b_TS_closes 1 (some .boolean) 0 := ⟨om_at (List.mem_of_getElem? (i := 295) rfl) rfl, om_at (List.mem_of_getElem? (i := 294) (by decide +kernel)) rfl, om_at (List.mem_of_getElem? (i := 3) (by decide +kernel)) rfl, kz_TS, (by decide +kernel), (by decide +kernel), (by decide +kernel)⟩
set_option maxRecDepth 20000 in
theorem m_TS_nextCell : MV y_TS_nextCell b_TS_nextCell 3 (some .int) 0 := ⟨om_at (List.mem_of_getElem? (i := 299) rfl) rfl, om_at (List.mem_of_getElem? (i := 298) (by decide +kernel)) rfl, om_at (List.mem_of_getElem? (i := 4) (by decide +kernel)) rfl, kz_TS, (by decide +kernel), (by decide +kernel), (by decide +kernel)⟩
set_option maxRecDepth 20000 in
theorem m_TS_goBack : MV y_TS_goBack b_TS_goBack 1 none 0 := ⟨om_at (List.mem_of_getElem? (i := 303) rfl) rfl, om_at (List.mem_of_getElem? (i := 302) (by decide +kernel)) rfl, om_at (List.mem_of_getElem? (i := 5) (by decide +kernel)) rfl, kz_TS, (by decide +kernel), (by decide +kernel), (by decide +kernel)⟩
set_option maxRecDepth 20000 in
theorem m_TF_at : MV y_TF_at b_TF_at 2 (some .int) 1 := ⟨om_at (List.mem_of_getElem? (i := 307) rfl) rfl, om_at (List.mem_of_getElem? (i := 305) (by decide +kernel)) rfl, om_at (List.mem_of_getElem? (i := 306) (by decide +kernel)) rfl, kz_TF, (by decide +kernel), (by decide +kernel), (by decide +kernel)⟩
set_option maxRecDepth 20000 in
theorem m_TS_cellOfTour : MV y_TS_cellOfTour b_TS_cellOfTour 2 (some .int) 1 := ⟨om_at (List.mem_of_getElem? (i := 311) rfl) rfl, om_at (List.mem_of_getElem? (i := 309) (by decide +kernel)) rfl, om_at (List.mem_of_getElem? (i := 310) (by decide +kernel)) rfl, kz_TS, (by decide +kernel), (by decide +kernel), (by decide +kernel)⟩
set_option maxRecDepth 20000 in
theorem m_TF_steps : MV y_TF_steps b_TF_steps 1 (some .int) 0 := ⟨om_at (List.mem_of_getElem? (i := 315) rfl) rfl, om_at (List.mem_of_getElem? (i := 313) (by decide +kernel)) rfl, om_at (List.mem_of_getElem? (i := 314) (by decide +kernel)) rfl, kz_TF, (by decide +kernel), (by decide +kernel), (by decide +kernel)⟩
set_option maxRecDepth 20000 in
theorem m_TS_stepsMade : MV y_TS_stepsMade b_TS_stepsMade 1 (some .int) 0 := ⟨om_at (List.mem_of_getElem? (i := 319) rfl) rfl, om_at (List.mem_of_getElem? (i := 317) (by decide +kernel)) rfl, om_at (List.mem_of_getElem? (i := 318) (by decide +kernel)) rfl, kz_TS, (by decide +kernel), (by decide +kernel), (by decide +kernel)⟩
set_option maxRecDepth 20000 in
theorem m_TF_ways : MV y_TF_ways b_TF_ways 3 (some .int) 2 := ⟨om_at (List.mem_of_getElem? (i := 323) rfl) rfl, om_at (List.mem_of_getElem? (i := 321) (by decide +kernel)) rfl, om_at (List.mem_of_getElem? (i := 322) (by decide +kernel)) rfl, kz_TF, (by decide +kernel), (by decide +kernel), (by decide +kernel)⟩
set_option maxRecDepth 20000 in
theorem m_TF_queens : MV y_TF_queens b_TF_queens 1 (some .int) 0 := ⟨om_at (List.mem_of_getElem? (i := 330) rfl) rfl, om_at (List.mem_of_getElem? (i := 328) (by decide +kernel)) rfl, om_at (List.mem_of_getElem? (i := 329) (by decide +kernel)) rfl, kz_TF, (by decide +kernel), (by decide +kernel), (by decide +kernel)⟩
set_option maxRecDepth 20000 in
theorem m_QS_countWays : MV y_QS_countWays b_QS_countWays 3 (some .int) 1 := ⟨om_at (List.mem_of_getElem? (i := 334) rfl) rfl, om_at (List.mem_of_getElem? (i := 332) (by decide +kernel)) rfl, om_at (List.mem_of_getElem? (i := 333) (by decide +kernel)) rfl, kz_QS, (by decide +kernel), (by decide +kernel), (by decide +kernel)⟩
set_option maxRecDepth 20000 in
theorem m_QS_placeFrom : MV y_QS_placeFrom b_QS_placeFrom 3 (some .boolean) 2 := ⟨om_at (List.mem_of_getElem? (i := 338) rfl) rfl, om_at (List.mem_of_getElem? (i := 337) (by decide +kernel)) rfl, om_at (List.mem_of_getElem? (i := 6) (by decide +kernel)) rfl, kz_QS, (by decide +kernel), (by decide +kernel), (by decide +kernel)⟩
set_option maxRecDepth 20000 in
theorem m_QS_placeIn : MV y_QS_placeIn b_QS_placeIn 4 (some .boolean) 2 := ⟨om_at (List.mem_of_getElem? (i := 342) rfl) rfl, om_at (List.mem_of_getElem? (i := 341) (by decide +kernel)) rfl, om_at (List.mem_of_getElem? (i := 7) (by decide +kernel)) rfl, kz_QS, (by decide +kernel), (by decide +kernel), (by decide +kernel)⟩
set_option maxRecDepth 20000 in
theorem m_QS_canStand : MV y_QS_canStand b_QS_canStand 5 (some .boolean) 2 := ⟨om_at (List.mem_of_getElem? (i := 346) rfl) rfl, om_at (List.mem_of_getElem? (i := 345) (by decide +kernel)) rfl, om_at (List.mem_of_getElem? (i := 8) (by decide +kernel)) rfl, kz_QS, (by decide +kernel), (by decide +kernel), (by decide +kernel)⟩
set_option maxRecDepth 20000 in
theorem m_TF_queen : MV y_TF_queen b_TF_queen 3 (some .int) 2 := ⟨om_at (List.mem_of_getElem? (i := 353) rfl) rfl, om_at (List.mem_of_getElem? (i := 351) (by decide +kernel)) rfl, om_at (List.mem_of_getElem? (i := 352) (by decide +kernel)) rfl, kz_TF, (by decide +kernel), (by decide +kernel), (by decide +kernel)⟩
set_option maxRecDepth 20000 in
theorem m_QS_rowInWay : MV y_QS_rowInWay b_QS_rowInWay 5 (some .int) 3 := ⟨om_at (List.mem_of_getElem? (i := 357) rfl) rfl, om_at (List.mem_of_getElem? (i := 355) (by decide +kernel)) rfl, om_at (List.mem_of_getElem? (i := 356) (by decide +kernel)) rfl, kz_QS, (by decide +kernel), (by decide +kernel), (by decide +kernel)⟩
set_option maxRecDepth 20000 in
theorem m_TF_given : MV y_TF_given b_TF_given 5 (some .boolean) 3 := ⟨om_at (List.mem_of_getElem? (i := 361) rfl) rfl, om_at (List.mem_of_getElem? (i := 359) (by decide +kernel)) rfl, om_at (List.mem_of_getElem? (i := 360) (by decide +kernel)) rfl, kz_TF, (by decide +kernel), (by decide +kernel), (by decide +kernel)⟩
set_option maxRecDepth 20000 in
theorem m_RC_allows : MV y_RC_allows b_RC_allows 2 (some .boolean) 1 := ⟨om_at (List.mem_of_getElem? (i := 365) rfl) rfl, om_at (List.mem_of_getElem? (i := 363) (by decide +kernel)) rfl, om_at (List.mem_of_getElem? (i := 364) (by decide +kernel)) rfl, kz_RC, (by decide +kernel), (by decide +kernel), (by decide +kernel)⟩
set_option maxRecDepth 20000 in
theorem m_RC_give : MV y_RC_give b_RC_give 3 none 2 := ⟨om_at (List.mem_of_getElem? (i := 369) rfl) rfl, om_at (List.mem_of_getElem? (i := 367) (by decide +kernel)) rfl, om_at (List.mem_of_getElem? (i := 368) (by decide +kernel)) rfl, kz_RC, (by decide +kernel), (by decide +kernel), (by decide +kernel)⟩
set_option maxRecDepth 20000 in
theorem m_TF_fill : MV y_TF_fill b_TF_fill 1 (some .boolean) 0 := ⟨om_at (List.mem_of_getElem? (i := 373) rfl) rfl, om_at (List.mem_of_getElem? (i := 371) (by decide +kernel)) rfl, om_at (List.mem_of_getElem? (i := 372) (by decide +kernel)) rfl, kz_TF, (by decide +kernel), (by decide +kernel), (by decide +kernel)⟩
set_option maxRecDepth 20000 in
theorem m_RC_findLeast : MV y_RC_findLeast b_RC_findLeast 2 (some .boolean) 0 := ⟨om_at (List.mem_of_getElem? (i := 377) rfl) rfl, om_at (List.mem_of_getElem? (i := 375) (by decide +kernel)) rfl, om_at (List.mem_of_getElem? (i := 376) (by decide +kernel)) rfl, kz_RC, (by decide +kernel), (by decide +kernel), (by decide +kernel)⟩
set_option maxRecDepth 20000 in
theorem m_RC_layGiven : MV y_RC_layGiven b_RC_layGiven 3 (some .boolean) 0 := ⟨om_at (List.mem_of_getElem? (i := 381) rfl) rfl, om_at (List.mem_of_getElem? (i := 380) (by decide +kernel)) rfl, om_at (List.mem_of_getElem? (i := 9) (by decide +kernel)) rfl, kz_RC, (by decide +kernel), (by decide +kernel), (by decide +kernel)⟩
set_option maxRecDepth 20000 in
theorem m_RC_choicesAt : MV y_RC_choicesAt b_RC_choicesAt 2 (some .int) 1 := ⟨om_at (List.mem_of_getElem? (i := 385) rfl) rfl, om_at (List.mem_of_getElem? (i := 384) (by decide +kernel)) rfl, om_at (List.mem_of_getElem? (i := 10) (by decide +kernel)) rfl, kz_RC, (by decide +kernel), (by decide +kernel), (by decide +kernel)⟩
set_option maxRecDepth 20000 in
theorem m_RC_put : MV y_RC_put b_RC_put 3 none 2 := ⟨om_at (List.mem_of_getElem? (i := 389) rfl) rfl, om_at (List.mem_of_getElem? (i := 388) (by decide +kernel)) rfl, om_at (List.mem_of_getElem? (i := 11) (by decide +kernel)) rfl, kz_RC, (by decide +kernel), (by decide +kernel), (by decide +kernel)⟩
set_option maxRecDepth 20000 in
theorem m_RC_countFrom : MV y_RC_countFrom b_RC_countFrom 6 (some .int) 2 := ⟨om_at (List.mem_of_getElem? (i := 393) rfl) rfl, om_at (List.mem_of_getElem? (i := 392) (by decide +kernel)) rfl, om_at (List.mem_of_getElem? (i := 12) (by decide +kernel)) rfl, kz_RC, (by decide +kernel), (by decide +kernel), (by decide +kernel)⟩
set_option maxRecDepth 20000 in
theorem m_RC_narrowestOpenCell : MV y_RC_narrowestOpenCell b_RC_narrowestOpenCell 5 (some .int) 0 := ⟨om_at (List.mem_of_getElem? (i := 397) rfl) rfl, om_at (List.mem_of_getElem? (i := 396) (by decide +kernel)) rfl, om_at (List.mem_of_getElem? (i := 13) (by decide +kernel)) rfl, kz_RC, (by decide +kernel), (by decide +kernel), (by decide +kernel)⟩
set_option maxRecDepth 20000 in
theorem m_IN_bitCount : MS y_IN_bitCount b_IN_bitCount 1 (some .int) 1 := ⟨om_at (List.mem_of_getElem? (i := 400) rfl) rfl, om_at (List.mem_of_getElem? (i := 399) (by decide +kernel)) rfl, kz_IN, (by decide +kernel), (by decide +kernel), (by decide +kernel)⟩
set_option maxRecDepth 20000 in
theorem m_RC_someNumberLacksPlaces : MV y_RC_someNumberLacksPlaces b_RC_someNumberLacksPlaces 8 (some .boolean) 0 := ⟨om_at (List.mem_of_getElem? (i := 410) rfl) rfl, om_at (List.mem_of_getElem? (i := 409) (by decide +kernel)) rfl, om_at (List.mem_of_getElem? (i := 14) (by decide +kernel)) rfl, kz_RC, (by decide +kernel), (by decide +kernel), (by decide +kernel)⟩
set_option maxRecDepth 20000 in
theorem m_RC_linesWith : MS y_RC_linesWith b_RC_linesWith 3 (some .int) 2 := ⟨om_at (List.mem_of_getElem? (i := 413) rfl) rfl, om_at (List.mem_of_getElem? (i := 412) (by decide +kernel)) rfl, kz_RC, (by decide +kernel), (by decide +kernel), (by decide +kernel)⟩
set_option maxRecDepth 20000 in
theorem m_RC_countWith : MV y_RC_countWith b_RC_countWith 7 (some .int) 4 := ⟨om_at (List.mem_of_getElem? (i := 419) rfl) rfl, om_at (List.mem_of_getElem? (i := 418) (by decide +kernel)) rfl, om_at (List.mem_of_getElem? (i := 15) (by decide +kernel)) rfl, kz_RC, (by decide +kernel), (by decide +kernel), (by decide +kernel)⟩
set_option maxRecDepth 20000 in
theorem m_RC_take : MV y_RC_take b_RC_take 3 none 2 := ⟨om_at (List.mem_of_getElem? (i := 423) rfl) rfl, om_at (List.mem_of_getElem? (i := 422) (by decide +kernel)) rfl, om_at (List.mem_of_getElem? (i := 16) (by decide +kernel)) rfl, kz_RC, (by decide +kernel), (by decide +kernel), (by decide +kernel)⟩
set_option maxRecDepth 20000 in
theorem m_RC_settle : MV y_RC_settle b_RC_settle 5 none 1 := ⟨om_at (List.mem_of_getElem? (i := 428) rfl) rfl, om_at (List.mem_of_getElem? (i := 427) (by decide +kernel)) rfl, om_at (List.mem_of_getElem? (i := 17) (by decide +kernel)) rfl, kz_RC, (by decide +kernel), (by decide +kernel), (by decide +kernel)⟩
set_option maxRecDepth 20000 in
theorem m_TF_number : MV y_TF_number b_TF_number 4 (some .int) 2 := ⟨om_at (List.mem_of_getElem? (i := 432) rfl) rfl, om_at (List.mem_of_getElem? (i := 430) (by decide +kernel)) rfl, om_at (List.mem_of_getElem? (i := 431) (by decide +kernel)) rfl, kz_TF, (by decide +kernel), (by decide +kernel), (by decide +kernel)⟩
set_option maxRecDepth 20000 in
theorem m_RC_foundAt : MV y_RC_foundAt b_RC_foundAt 2 (some .int) 1 := ⟨om_at (List.mem_of_getElem? (i := 436) rfl) rfl, om_at (List.mem_of_getElem? (i := 434) (by decide +kernel)) rfl, om_at (List.mem_of_getElem? (i := 435) (by decide +kernel)) rfl, kz_RC, (by decide +kernel), (by decide +kernel), (by decide +kernel)⟩
set_option maxRecDepth 20000 in
theorem m_TF_fills : MV y_TF_fills b_TF_fills 2 (some .int) 1 := ⟨om_at (List.mem_of_getElem? (i := 440) rfl) rfl, om_at (List.mem_of_getElem? (i := 438) (by decide +kernel)) rfl, om_at (List.mem_of_getElem? (i := 439) (by decide +kernel)) rfl, kz_TF, (by decide +kernel), (by decide +kernel), (by decide +kernel)⟩
set_option maxRecDepth 20000 in
theorem m_RC_countUpTo : MV y_RC_countUpTo b_RC_countUpTo 2 (some .int) 1 := ⟨om_at (List.mem_of_getElem? (i := 444) rfl) rfl, om_at (List.mem_of_getElem? (i := 442) (by decide +kernel)) rfl, om_at (List.mem_of_getElem? (i := 443) (by decide +kernel)) rfl, kz_RC, (by decide +kernel), (by decide +kernel), (by decide +kernel)⟩
set_option maxRecDepth 20000 in
theorem m_TF_magic : MV y_TF_magic b_TF_magic 6 (some .int) 3 := ⟨om_at (List.mem_of_getElem? (i := 448) rfl) rfl, om_at (List.mem_of_getElem? (i := 446) (by decide +kernel)) rfl, om_at (List.mem_of_getElem? (i := 447) (by decide +kernel)) rfl, kz_TF, (by decide +kernel), (by decide +kernel), (by decide +kernel)⟩
set_option maxRecDepth 20000 in
theorem m_MT_floorMod : MS y_MT_floorMod b_MT_floorMod 3 (some .int) 2 := ⟨om_at (List.mem_of_getElem? (i := 451) rfl) rfl, om_at (List.mem_of_getElem? (i := 450) (by decide +kernel)) rfl, kz_MT, (by decide +kernel), (by decide +kernel), (by decide +kernel)⟩
set_option maxRecDepth 20000 in
theorem m_law_cell : MS y_law_cell b_law_cell 2 (some .int) 2 := ⟨om_at (List.mem_of_getElem? (i := 454) rfl) rfl, om_at (List.mem_of_getElem? (i := 453) (by decide +kernel)) rfl, kz_law, (by decide +kernel), (by decide +kernel), (by decide +kernel)⟩
set_option maxRecDepth 20000 in
theorem m_MD_init : MI y_MD_init b_MD_init 3 2 := ⟨om_at (List.mem_of_getElem? (i := 459) rfl) rfl, om_at (List.mem_of_getElem? (i := 458) (by decide +kernel)) rfl, rfl, kz_MD, (by decide +kernel), (by decide +kernel), (by decide +kernel)⟩
set_option maxRecDepth 20000 in
theorem m_MD_held : MS y_MD_held b_MD_held 1 (some .int) 1 := ⟨om_at (List.mem_of_getElem? (i := 463) rfl) rfl, om_at (List.mem_of_getElem? (i := 462) (by decide +kernel)) rfl, kz_MD, (by decide +kernel), (by decide +kernel), (by decide +kernel)⟩
set_option maxRecDepth 20000 in
theorem m_MD_bar : MV y_MD_bar b_MD_bar 4 (some .boolean) 3 := ⟨om_at (List.mem_of_getElem? (i := 523) rfl) rfl, om_at (List.mem_of_getElem? (i := 521) (by decide +kernel)) rfl, om_at (List.mem_of_getElem? (i := 522) (by decide +kernel)) rfl, kz_MD, (by decide +kernel), (by decide +kernel), (by decide +kernel)⟩
set_option maxRecDepth 20000 in
theorem m_MD_isCell : MV y_MD_isCell b_MD_isCell 3 (some .boolean) 2 := ⟨om_at (List.mem_of_getElem? (i := 527) rfl) rfl, om_at (List.mem_of_getElem? (i := 526) (by decide +kernel)) rfl, om_at (List.mem_of_getElem? (i := 18) (by decide +kernel)) rfl, kz_MD, (by decide +kernel), (by decide +kernel), (by decide +kernel)⟩
set_option maxRecDepth 20000 in
theorem m_MD_start : MV y_MD_start b_MD_start 3 (some .boolean) 2 := ⟨om_at (List.mem_of_getElem? (i := 531) rfl) rfl, om_at (List.mem_of_getElem? (i := 529) (by decide +kernel)) rfl, om_at (List.mem_of_getElem? (i := 530) (by decide +kernel)) rfl, kz_MD, (by decide +kernel), (by decide +kernel), (by decide +kernel)⟩
set_option maxRecDepth 20000 in
theorem m_MD_tour : MV y_MD_tour b_MD_tour 4 (some .int) 3 := ⟨om_at (List.mem_of_getElem? (i := 535) rfl) rfl, om_at (List.mem_of_getElem? (i := 533) (by decide +kernel)) rfl, om_at (List.mem_of_getElem? (i := 534) (by decide +kernel)) rfl, kz_MD, (by decide +kernel), (by decide +kernel), (by decide +kernel)⟩
set_option maxRecDepth 20000 in
theorem m_MD_search : MV y_MD_search b_MD_search 8 (some .int) 3 := ⟨om_at (List.mem_of_getElem? (i := 540) rfl) rfl, om_at (List.mem_of_getElem? (i := 539) (by decide +kernel)) rfl, om_at (List.mem_of_getElem? (i := 19) (by decide +kernel)) rfl, kz_MD, (by decide +kernel), (by decide +kernel), (by decide +kernel)⟩
set_option maxRecDepth 20000 in
theorem m_MD_open : MV y_MD_open b_MD_open 3 (some .int) 0 := ⟨om_at (List.mem_of_getElem? (i := 544) rfl) rfl, om_at (List.mem_of_getElem? (i := 543) (by decide +kernel)) rfl, om_at (List.mem_of_getElem? (i := 20) (by decide +kernel)) rfl, kz_MD, (by decide +kernel), (by decide +kernel), (by decide +kernel)⟩
set_option maxRecDepth 20000 in
theorem m_MD_goes : MV y_MD_goes b_MD_goes 6 (some .boolean) 3 := ⟨om_at (List.mem_of_getElem? (i := 548) rfl) rfl, om_at (List.mem_of_getElem? (i := 547) (by decide +kernel)) rfl, om_at (List.mem_of_getElem? (i := 21) (by decide +kernel)) rfl, kz_MD, (by decide +kernel), (by decide +kernel), (by decide +kernel)⟩
set_option maxRecDepth 20000 in
theorem m_MD_apart : MS y_MD_apart b_MD_apart 2 (some .int) 2 := ⟨om_at (List.mem_of_getElem? (i := 551) rfl) rfl, om_at (List.mem_of_getElem? (i := 550) (by decide +kernel)) rfl, kz_MD, (by decide +kernel), (by decide +kernel), (by decide +kernel)⟩
set_option maxRecDepth 20000 in
theorem m_MD_nextCell : MV y_MD_nextCell b_MD_nextCell 10 (some .int) 3 := ⟨om_at (List.mem_of_getElem? (i := 555) rfl) rfl, om_at (List.mem_of_getElem? (i := 554) (by decide +kernel)) rfl, om_at (List.mem_of_getElem? (i := 22) (by decide +kernel)) rfl, kz_MD, (by decide +kernel), (by decide +kernel), (by decide +kernel)⟩
set_option maxRecDepth 20000 in
theorem m_MD_waysOn : MV y_MD_waysOn b_MD_waysOn 5 (some .int) 2 := ⟨om_at (List.mem_of_getElem? (i := 559) rfl) rfl, om_at (List.mem_of_getElem? (i := 558) (by decide +kernel)) rfl, om_at (List.mem_of_getElem? (i := 23) (by decide +kernel)) rfl, kz_MD, (by decide +kernel), (by decide +kernel), (by decide +kernel)⟩
set_option maxRecDepth 20000 in
theorem m_MD_at : MV y_MD_at b_MD_at 2 (some .int) 1 := ⟨om_at (List.mem_of_getElem? (i := 563) rfl) rfl, om_at (List.mem_of_getElem? (i := 561) (by decide +kernel)) rfl, om_at (List.mem_of_getElem? (i := 562) (by decide +kernel)) rfl, kz_MD, (by decide +kernel), (by decide +kernel), (by decide +kernel)⟩
set_option maxRecDepth 20000 in
theorem m_MD_steps : MV y_MD_steps b_MD_steps 1 (some .int) 0 := ⟨om_at (List.mem_of_getElem? (i := 567) rfl) rfl, om_at (List.mem_of_getElem? (i := 565) (by decide +kernel)) rfl, om_at (List.mem_of_getElem? (i := 566) (by decide +kernel)) rfl, kz_MD, (by decide +kernel), (by decide +kernel), (by decide +kernel)⟩
set_option maxRecDepth 20000 in
theorem m_MD_ways : MV y_MD_ways b_MD_ways 5 (some .int) 2 := ⟨om_at (List.mem_of_getElem? (i := 571) rfl) rfl, om_at (List.mem_of_getElem? (i := 569) (by decide +kernel)) rfl, om_at (List.mem_of_getElem? (i := 570) (by decide +kernel)) rfl, kz_MD, (by decide +kernel), (by decide +kernel), (by decide +kernel)⟩
set_option maxRecDepth 20000 in
theorem m_MD_queens : MV y_MD_queens b_MD_queens 1 (some .int) 0 := ⟨om_at (List.mem_of_getElem? (i := 575) rfl) rfl, om_at (List.mem_of_getElem? (i := 573) (by decide +kernel)) rfl, om_at (List.mem_of_getElem? (i := 574) (by decide +kernel)) rfl, kz_MD, (by decide +kernel), (by decide +kernel), (by decide +kernel)⟩
set_option maxRecDepth 20000 in
theorem m_MD_goThrough : MV y_MD_goThrough b_MD_goThrough 5 (some .int) 1 := ⟨om_at (List.mem_of_getElem? (i := 579) rfl) rfl, om_at (List.mem_of_getElem? (i := 578) (by decide +kernel)) rfl, om_at (List.mem_of_getElem? (i := 24) (by decide +kernel)) rfl, kz_MD, (by decide +kernel), (by decide +kernel), (by decide +kernel)⟩
set_option maxRecDepth 20000 in
theorem m_MD_stands : MV y_MD_stands b_MD_stands 4 (some .boolean) 1 := ⟨om_at (List.mem_of_getElem? (i := 583) rfl) rfl, om_at (List.mem_of_getElem? (i := 582) (by decide +kernel)) rfl, om_at (List.mem_of_getElem? (i := 25) (by decide +kernel)) rfl, kz_MD, (by decide +kernel), (by decide +kernel), (by decide +kernel)⟩
set_option maxRecDepth 20000 in
theorem m_MD_queen : MV y_MD_queen b_MD_queen 3 (some .int) 2 := ⟨om_at (List.mem_of_getElem? (i := 587) rfl) rfl, om_at (List.mem_of_getElem? (i := 585) (by decide +kernel)) rfl, om_at (List.mem_of_getElem? (i := 586) (by decide +kernel)) rfl, kz_MD, (by decide +kernel), (by decide +kernel), (by decide +kernel)⟩
set_option maxRecDepth 20000 in
theorem m_MD_given : MV y_MD_given b_MD_given 4 (some .boolean) 3 := ⟨om_at (List.mem_of_getElem? (i := 591) rfl) rfl, om_at (List.mem_of_getElem? (i := 589) (by decide +kernel)) rfl, om_at (List.mem_of_getElem? (i := 590) (by decide +kernel)) rfl, kz_MD, (by decide +kernel), (by decide +kernel), (by decide +kernel)⟩
set_option maxRecDepth 20000 in
theorem m_MD_fill : MV y_MD_fill b_MD_fill 1 (some .boolean) 0 := ⟨om_at (List.mem_of_getElem? (i := 595) rfl) rfl, om_at (List.mem_of_getElem? (i := 593) (by decide +kernel)) rfl, om_at (List.mem_of_getElem? (i := 594) (by decide +kernel)) rfl, kz_MD, (by decide +kernel), (by decide +kernel), (by decide +kernel)⟩
set_option maxRecDepth 20000 in
theorem m_MD_fillThrough : MV y_MD_fillThrough b_MD_fillThrough 6 (some .int) 2 := ⟨om_at (List.mem_of_getElem? (i := 599) rfl) rfl, om_at (List.mem_of_getElem? (i := 598) (by decide +kernel)) rfl, om_at (List.mem_of_getElem? (i := 26) (by decide +kernel)) rfl, kz_MD, (by decide +kernel), (by decide +kernel), (by decide +kernel)⟩
set_option maxRecDepth 20000 in
theorem m_MD_goesOn : MV y_MD_goesOn b_MD_goesOn 3 (some .boolean) 1 := ⟨om_at (List.mem_of_getElem? (i := 603) rfl) rfl, om_at (List.mem_of_getElem? (i := 602) (by decide +kernel)) rfl, om_at (List.mem_of_getElem? (i := 27) (by decide +kernel)) rfl, kz_MD, (by decide +kernel), (by decide +kernel), (by decide +kernel)⟩
set_option maxRecDepth 20000 in
theorem m_MD_free : MV y_MD_free b_MD_free 6 (some .int) 2 := ⟨om_at (List.mem_of_getElem? (i := 607) rfl) rfl, om_at (List.mem_of_getElem? (i := 606) (by decide +kernel)) rfl, om_at (List.mem_of_getElem? (i := 28) (by decide +kernel)) rfl, kz_MD, (by decide +kernel), (by decide +kernel), (by decide +kernel)⟩
set_option maxRecDepth 20000 in
theorem m_MD_enough : MV y_MD_enough b_MD_enough 9 (some .boolean) 4 := ⟨om_at (List.mem_of_getElem? (i := 611) rfl) rfl, om_at (List.mem_of_getElem? (i := 610) (by decide +kernel)) rfl, om_at (List.mem_of_getElem? (i := 29) (by decide +kernel)) rfl, kz_MD, (by decide +kernel), (by decide +kernel), (by decide +kernel)⟩
set_option maxRecDepth 20000 in
theorem m_MD_bits : MS y_MD_bits b_MD_bits 3 (some .int) 1 := ⟨om_at (List.mem_of_getElem? (i := 614) rfl) rfl, om_at (List.mem_of_getElem? (i := 613) (by decide +kernel)) rfl, kz_MD, (by decide +kernel), (by decide +kernel), (by decide +kernel)⟩
set_option maxRecDepth 20000 in
theorem m_MD_fits : MV y_MD_fits b_MD_fits 7 (some .boolean) 2 := ⟨om_at (List.mem_of_getElem? (i := 618) rfl) rfl, om_at (List.mem_of_getElem? (i := 617) (by decide +kernel)) rfl, om_at (List.mem_of_getElem? (i := 30) (by decide +kernel)) rfl, kz_MD, (by decide +kernel), (by decide +kernel), (by decide +kernel)⟩
set_option maxRecDepth 20000 in
theorem m_MD_number : MV y_MD_number b_MD_number 3 (some .int) 2 := ⟨om_at (List.mem_of_getElem? (i := 622) rfl) rfl, om_at (List.mem_of_getElem? (i := 620) (by decide +kernel)) rfl, om_at (List.mem_of_getElem? (i := 621) (by decide +kernel)) rfl, kz_MD, (by decide +kernel), (by decide +kernel), (by decide +kernel)⟩
set_option maxRecDepth 20000 in
theorem m_MD_fills : MV y_MD_fills b_MD_fills 2 (some .int) 1 := ⟨om_at (List.mem_of_getElem? (i := 626) rfl) rfl, om_at (List.mem_of_getElem? (i := 624) (by decide +kernel)) rfl, om_at (List.mem_of_getElem? (i := 625) (by decide +kernel)) rfl, kz_MD, (by decide +kernel), (by decide +kernel), (by decide +kernel)⟩
set_option maxRecDepth 20000 in
theorem m_MD_magic : MV y_MD_magic b_MD_magic 7 (some .int) 3 := ⟨om_at (List.mem_of_getElem? (i := 630) rfl) rfl, om_at (List.mem_of_getElem? (i := 628) (by decide +kernel)) rfl, om_at (List.mem_of_getElem? (i := 629) (by decide +kernel)) rfl, kz_MD, (by decide +kernel), (by decide +kernel), (by decide +kernel)⟩
theorem kq_max : Cond.static Lib.Math.max.name ∈ Om ∧ Cond.code Lib.Math.max.name Lib.Math.max.code 2 (some .int) ∈ Om := ⟨om_at (List.mem_of_getElem? (i := 57) (by decide +kernel)) rfl, om_at (List.mem_of_getElem? (i := 58) (by decide +kernel)) rfl⟩
theorem kq_min : Cond.static Lib.Math.min.name ∈ Om ∧ Cond.code Lib.Math.min.name Lib.Math.min.code 2 (some .int) ∈ Om := ⟨om_at (List.mem_of_getElem? (i := 54) (by decide +kernel)) rfl, om_at (List.mem_of_getElem? (i := 55) (by decide +kernel)) rfl⟩
theorem kq_abs : Cond.static Lib.Math.abs.name ∈ Om ∧ Cond.code Lib.Math.abs.name Lib.Math.abs.code 1 (some .int) ∈ Om := ⟨om_at (List.mem_of_getElem? (i := 348) (by decide +kernel)) rfl, om_at (List.mem_of_getElem? (i := 349) (by decide +kernel)) rfl⟩
theorem kq_obj : Cond.instanceMethod objectInit ∈ Om ∧ Cond.code objectInit ⟨#[0xb1]⟩ 1 none ∈ Om := ⟨om_at (List.mem_of_getElem? (i := 48) (by decide +kernel)) rfl, om_at (List.mem_of_getElem? (i := 49) rfl) rfl⟩
theorem kq_copy : Cond.native arraycopyName ∈ Om ∧ Cond.static arraycopyName ∈ Om := ⟨om_at (List.mem_of_getElem? (i := 406) (by decide +kernel)) rfl, om_at (List.mem_of_getElem? (i := 405) (by decide +kernel)) rfl⟩
