def lw_good : List Cond := lw_tbl.filter goodWord
theorem lw_mem {w : Cond} (h : w ∈ lw_tbl) (hg : goodWord w = true) : w ∈ lw_good := List.mem_filter.mpr ⟨h, hg⟩
theorem mt1 {w : Cond} (h : w ∈ tables_1_1) : w ∈ lw_tbl := List.mem_append_right _ (List.mem_append_left _ h)
theorem mt2 {w : Cond} (h : w ∈ tables_1_2) : w ∈ lw_tbl := List.mem_append_right _ (List.mem_append_right _ (List.mem_append_left _ h))
theorem mt3 {w : Cond} (h : w ∈ tables_1_3) : w ∈ lw_tbl := List.mem_append_right _ (List.mem_append_right _ (List.mem_append_right _ (List.mem_append_left _ h)))
theorem mt4 {w : Cond} (h : w ∈ tables_1_4) : w ∈ lw_tbl := List.mem_append_right _ (List.mem_append_right _ (List.mem_append_right _ (List.mem_append_right _ h)))
theorem mtp {w : Cond} (h : w ∈ k2_sels lw_privs) : w ∈ lw_tbl := List.mem_append_left _ h
theorem qp_0 : Cond.selects RX10 yX10_takesReadings yX10_takesReadings ∈ lw_good := lw_mem (mtp (List.mem_of_getElem? (i := 0) rfl)) rfl
theorem qp_1 : Cond.selects RX10 yX10_hasRoom yX10_hasRoom ∈ lw_good := lw_mem (mtp (List.mem_of_getElem? (i := 1) rfl)) rfl
theorem qp_2 : Cond.selects RX10 yX10_remember yX10_remember ∈ lw_good := lw_mem (mtp (List.mem_of_getElem? (i := 2) rfl)) rfl
theorem qp_3 : Cond.selects RX10 yX10_refresh yX10_refresh ∈ lw_good := lw_mem (mtp (List.mem_of_getElem? (i := 3) rfl)) rfl
theorem qp_4 : Cond.selects RX10 yX10_load yX10_load ∈ lw_good := lw_mem (mtp (List.mem_of_getElem? (i := 4) rfl)) rfl
theorem qp_5 : Cond.selects RX10 yX10_sourceOf yX10_sourceOf ∈ lw_good := lw_mem (mtp (List.mem_of_getElem? (i := 5) rfl)) rfl
theorem qp_6 : Cond.selects RX9 yX9_fromX yX9_fromX ∈ lw_good := lw_mem (mtp (List.mem_of_getElem? (i := 6) rfl)) rfl
theorem qp_7 : Cond.selects RX9 yX9_fromBoth yX9_fromBoth ∈ lw_good := lw_mem (mtp (List.mem_of_getElem? (i := 7) rfl)) rfl
theorem qp_8 : Cond.selects RX9 yX9_fromRow yX9_fromRow ∈ lw_good := lw_mem (mtp (List.mem_of_getElem? (i := 8) rfl)) rfl
theorem qp_9 : Cond.selects RX9 yX9_keep yX9_keep ∈ lw_good := lw_mem (mtp (List.mem_of_getElem? (i := 9) rfl)) rfl
theorem qp_10 : Cond.selects RX9 yX9_middle yX9_middle ∈ lw_good := lw_mem (mtp (List.mem_of_getElem? (i := 10) rfl)) rfl
theorem qp_11 : Cond.selects RX9 yX9_extreme yX9_extreme ∈ lw_good := lw_mem (mtp (List.mem_of_getElem? (i := 11) rfl)) rfl
theorem qp_12 : Cond.selects RX9 yX9_insert yX9_insert ∈ lw_good := lw_mem (mtp (List.mem_of_getElem? (i := 12) rfl)) rfl
theorem qp_13 : Cond.selects RX9 yX9_countLess yX9_countLess ∈ lw_good := lw_mem (mtp (List.mem_of_getElem? (i := 13) rfl)) rfl
theorem qp_14 : Cond.selects RX9 yX9_step yX9_step ∈ lw_good := lw_mem (mtp (List.mem_of_getElem? (i := 14) rfl)) rfl
theorem qp_15 : Cond.selects RX9 yX9_countSo yX9_countSo ∈ lw_good := lw_mem (mtp (List.mem_of_getElem? (i := 15) rfl)) rfl
theorem qp_16 : Cond.selects RX10 yX10_placesWhere yX10_placesWhere ∈ lw_good := lw_mem (mtp (List.mem_of_getElem? (i := 16) rfl)) rfl
theorem qp_17 : Cond.selects RX0 yX0_firstRang yX0_firstRang ∈ lw_good := lw_mem (mtp (List.mem_of_getElem? (i := 17) rfl)) rfl
theorem qp_18 : Cond.selects RX10 yX10_toldOfBook yX10_toldOfBook ∈ lw_good := lw_mem (mtp (List.mem_of_getElem? (i := 18) rfl)) rfl
theorem qp_19 : Cond.selects RX11 yX11_canSet yX11_canSet ∈ lw_good := lw_mem (mtp (List.mem_of_getElem? (i := 19) rfl)) rfl
theorem qp_20 : Cond.selects RX11 yX11_picture yX11_picture ∈ lw_good := lw_mem (mtp (List.mem_of_getElem? (i := 20) rfl)) rfl
theorem qp_21 : Cond.selects RX11 yX11_put yX11_put ∈ lw_good := lw_mem (mtp (List.mem_of_getElem? (i := 21) rfl)) rfl
theorem qp_22 : Cond.selects RX11 yX11_changed yX11_changed ∈ lw_good := lw_mem (mtp (List.mem_of_getElem? (i := 22) rfl)) rfl
theorem qp_23 : Cond.selects RX11 yX11_putSpecial yX11_putSpecial ∈ lw_good := lw_mem (mtp (List.mem_of_getElem? (i := 23) rfl)) rfl
theorem qp_24 : Cond.selects RX11 yX11_reckonAll yX11_reckonAll ∈ lw_good := lw_mem (mtp (List.mem_of_getElem? (i := 24) rfl)) rfl
theorem qp_25 : Cond.selects RX11 yX11_reckon yX11_reckon ∈ lw_good := lw_mem (mtp (List.mem_of_getElem? (i := 25) rfl)) rfl
theorem qp_26 : Cond.selects RX11 yX11_noX yX11_noX ∈ lw_good := lw_mem (mtp (List.mem_of_getElem? (i := 26) rfl)) rfl
theorem qp_27 : Cond.selects RX11 yX11_noY yX11_noY ∈ lw_good := lw_mem (mtp (List.mem_of_getElem? (i := 27) rfl)) rfl
theorem qp_28 : Cond.selects RX11 yX11_givesNothing yX11_givesNothing ∈ lw_good := lw_mem (mtp (List.mem_of_getElem? (i := 28) rfl)) rfl
theorem qp_29 : Cond.selects RX11 yX11_x yX11_x ∈ lw_good := lw_mem (mtp (List.mem_of_getElem? (i := 29) rfl)) rfl
theorem qp_30 : Cond.selects RX11 yX11_single yX11_single ∈ lw_good := lw_mem (mtp (List.mem_of_getElem? (i := 30) rfl)) rfl
theorem qp_31 : Cond.selects RX11 yX11_gives yX11_gives ∈ lw_good := lw_mem (mtp (List.mem_of_getElem? (i := 31) rfl)) rfl
theorem qp_32 : Cond.selects RX11 yX11_y yX11_y ∈ lw_good := lw_mem (mtp (List.mem_of_getElem? (i := 32) rfl)) rfl
theorem qp_33 : Cond.selects RX11 yX11_both yX11_both ∈ lw_good := lw_mem (mtp (List.mem_of_getElem? (i := 33) rfl)) rfl
theorem qp_34 : Cond.selects RX11 yX11_difference yX11_difference ∈ lw_good := lw_mem (mtp (List.mem_of_getElem? (i := 34) rfl)) rfl
theorem qp_35 : Cond.selects RX11 yX11_compares yX11_compares ∈ lw_good := lw_mem (mtp (List.mem_of_getElem? (i := 35) rfl)) rfl
theorem qp_36 : Cond.selects RX11 yX11_manyX yX11_manyX ∈ lw_good := lw_mem (mtp (List.mem_of_getElem? (i := 36) rfl)) rfl
theorem qp_37 : Cond.selects RX11 yX11_ranked yX11_ranked ∈ lw_good := lw_mem (mtp (List.mem_of_getElem? (i := 37) rfl)) rfl
theorem qp_38 : Cond.selects RX11 yX11_rank yX11_rank ∈ lw_good := lw_mem (mtp (List.mem_of_getElem? (i := 38) rfl)) rfl
theorem qp_39 : Cond.selects RX11 yX11_lessThan yX11_lessThan ∈ lw_good := lw_mem (mtp (List.mem_of_getElem? (i := 39) rfl)) rfl
theorem qp_40 : Cond.selects RX11 yX11_manySo yX11_manySo ∈ lw_good := lw_mem (mtp (List.mem_of_getElem? (i := 40) rfl)) rfl
theorem qp_41 : Cond.selects RX11 yX11_holds yX11_holds ∈ lw_good := lw_mem (mtp (List.mem_of_getElem? (i := 41) rfl)) rfl
theorem qp_42 : Cond.selects RX11 yX11_isThere yX11_isThere ∈ lw_good := lw_mem (mtp (List.mem_of_getElem? (i := 42) rfl)) rfl
theorem q1_0 : Cond.initialized RL ∈ lw_good := lw_mem (mt1 (List.mem_of_getElem? (i := 0) rfl)) rfl
theorem q1_1 : Cond.initialized RX10 ∈ lw_good := lw_mem (mt1 (List.mem_of_getElem? (i := 1) rfl)) rfl
theorem q1_2 : Cond.initialized RX8 ∈ lw_good := lw_mem (mt1 (List.mem_of_getElem? (i := 2) rfl)) rfl
theorem q1_3 : Cond.initialized RX9 ∈ lw_good := lw_mem (mt1 (List.mem_of_getElem? (i := 3) rfl)) rfl
theorem q1_4 : Cond.initialized RX3 ∈ lw_good := lw_mem (mt1 (List.mem_of_getElem? (i := 4) rfl)) rfl
theorem q1_5 : Cond.initialized RX0 ∈ lw_good := lw_mem (mt1 (List.mem_of_getElem? (i := 5) rfl)) rfl
theorem q1_6 : Cond.initialized RX11 ∈ lw_good := lw_mem (mt1 (List.mem_of_getElem? (i := 6) rfl)) rfl
theorem q1_7 : Cond.initialized RX2 ∈ lw_good := lw_mem (mt1 (List.mem_of_getElem? (i := 7) rfl)) rfl
theorem q1_8 : Cond.initialized RX7 ∈ lw_good := lw_mem (mt1 (List.mem_of_getElem? (i := 8) rfl)) rfl
theorem q1_9 : Cond.initialized RJ9 ∈ lw_good := lw_mem (mt1 (List.mem_of_getElem? (i := 9) rfl)) rfl
theorem q1_10 : Cond.initialized RX6 ∈ lw_good := lw_mem (mt1 (List.mem_of_getElem? (i := 10) rfl)) rfl
theorem q1_11 : Cond.initialized RX4 ∈ lw_good := lw_mem (mt1 (List.mem_of_getElem? (i := 11) rfl)) rfl
theorem q1_12 : Cond.initialized RX1 ∈ lw_good := lw_mem (mt1 (List.mem_of_getElem? (i := 12) rfl)) rfl
theorem q1_13 : Cond.initialized RX5 ∈ lw_good := lw_mem (mt1 (List.mem_of_getElem? (i := 13) rfl)) rfl
theorem q1_14 : Cond.initialized RJ6 ∈ lw_good := lw_mem (mt1 (List.mem_of_getElem? (i := 14) rfl)) rfl
theorem q1_15 : Cond.classLink RL 7 RX10 ∈ lw_good := lw_mem (mt1 (List.mem_of_getElem? (i := 15) rfl)) rfl
theorem q1_16 : Cond.instantiable RX10 9 ∈ lw_good := lw_mem (mt1 (List.mem_of_getElem? (i := 16) rfl)) rfl
theorem q1_17 : Cond.methodLink RL 9 yX10_init ∈ lw_good := lw_mem (mt1 (List.mem_of_getElem? (i := 17) rfl)) rfl
theorem q1_18 : Cond.instanceMethod yX10_init ∈ lw_good := lw_mem (mt1 (List.mem_of_getElem? (i := 18) rfl)) rfl
theorem q1_19 : Cond.code yX10_init cX10_init 2 none ∈ lw_good := lw_mem (mt1 (List.mem_of_getElem? (i := 19) rfl)) rfl
theorem q1_20 : Cond.methodLink RX10 1 objectInit ∈ lw_good := lw_mem (mt1 (List.mem_of_getElem? (i := 20) rfl)) rfl
theorem q1_21 : Cond.instanceMethod objectInit ∈ lw_good := lw_mem (mt1 (List.mem_of_getElem? (i := 21) rfl)) rfl
theorem q1_22 : Cond.code objectInit object_method_1_code 1 none ∈ lw_good := lw_mem (mt1 (List.mem_of_getElem? (i := 22) rfl)) rfl
theorem q1_23 : Cond.classLink RX10 9 RX3 ∈ lw_good := lw_mem (mt1 (List.mem_of_getElem? (i := 23) rfl)) rfl
theorem q1_25 : Cond.classLink RX10 15 RX8 ∈ lw_good := lw_mem (mt1 (List.mem_of_getElem? (i := 25) rfl)) rfl
theorem q1_26 : Cond.instantiable RX8 2 ∈ lw_good := lw_mem (mt1 (List.mem_of_getElem? (i := 26) rfl)) rfl
theorem q1_27 : Cond.methodLink RX10 17 yX8_init ∈ lw_good := lw_mem (mt1 (List.mem_of_getElem? (i := 27) rfl)) rfl
theorem q1_28 : Cond.instanceMethod yX8_init ∈ lw_good := lw_mem (mt1 (List.mem_of_getElem? (i := 28) rfl)) rfl
theorem q1_29 : Cond.code yX8_init cX8_init 3 none ∈ lw_good := lw_mem (mt1 (List.mem_of_getElem? (i := 29) rfl)) rfl
theorem q1_30 : Cond.methodLink RX8 1 objectInit ∈ lw_good := lw_mem (mt1 (List.mem_of_getElem? (i := 30) rfl)) rfl
theorem q1_31 : Cond.fieldLink RX8 7 "TideBook$Readings" "numbers" "[D" ∈ lw_good := lw_mem (mt1 (List.mem_of_getElem? (i := 31) rfl)) rfl
theorem q1_32 : Cond.fieldLink RX8 13 "TideBook$Readings" "blanks" "[Z" ∈ lw_good := lw_mem (mt1 (List.mem_of_getElem? (i := 32) rfl)) rfl
theorem q1_33 : Cond.laysFinal RX8 "TideBook$Readings" "numbers" "[D" ∈ lw_good := lw_mem (mt1 (List.mem_of_getElem? (i := 33) rfl)) rfl
theorem q1_35 : Cond.laysFinal RX8 "TideBook$Readings" "blanks" "[Z" ∈ lw_good := lw_mem (mt1 (List.mem_of_getElem? (i := 35) rfl)) rfl
theorem q1_37 : Cond.superclass RX8 "java/lang/Object" ∈ lw_good := lw_mem (mt1 (List.mem_of_getElem? (i := 37) rfl)) rfl
theorem q1_38 : Cond.arrayClass .double ∈ lw_good := lw_mem (mt1 (List.mem_of_getElem? (i := 38) rfl)) rfl
theorem q1_39 : Cond.arrayClass .boolean ∈ lw_good := lw_mem (mt1 (List.mem_of_getElem? (i := 39) rfl)) rfl
theorem q1_40 : Cond.classLink RX10 24 RX9 ∈ lw_good := lw_mem (mt1 (List.mem_of_getElem? (i := 40) rfl)) rfl
theorem q1_41 : Cond.instantiable RX9 2 ∈ lw_good := lw_mem (mt1 (List.mem_of_getElem? (i := 41) rfl)) rfl
theorem q1_43 : Cond.instanceMethod yX9_init ∈ lw_good := lw_mem (mt1 (List.mem_of_getElem? (i := 43) rfl)) rfl
theorem q1_44 : Cond.code yX9_init cX9_init 1 none ∈ lw_good := lw_mem (mt1 (List.mem_of_getElem? (i := 44) rfl)) rfl
theorem q1_45 : Cond.methodLink RX9 3 objectInit ∈ lw_good := lw_mem (mt1 (List.mem_of_getElem? (i := 45) rfl)) rfl
theorem q1_46 : Cond.classLink RX9 9 RX8 ∈ lw_good := lw_mem (mt1 (List.mem_of_getElem? (i := 46) rfl)) rfl
theorem q1_47 : Cond.methodLink RX9 11 yX8_init ∈ lw_good := lw_mem (mt1 (List.mem_of_getElem? (i := 47) rfl)) rfl
theorem q1_48 : Cond.fieldLink RX9 14 "TideBook$Reckoner" "x" "LTideBook$Readings;" ∈ lw_good := lw_mem (mt1 (List.mem_of_getElem? (i := 48) rfl)) rfl
theorem q1_49 : Cond.fieldLink RX10 228 "TideBook$Reckoner" "x" "LTideBook$Readings;" ∈ lw_good := lw_mem (mt1 (List.mem_of_getElem? (i := 49) rfl)) rfl
theorem q1_50 : Cond.fieldLink RX9 20 "TideBook$Reckoner" "y" "LTideBook$Readings;" ∈ lw_good := lw_mem (mt1 (List.mem_of_getElem? (i := 50) rfl)) rfl
theorem q1_51 : Cond.fieldLink RX10 231 "TideBook$Reckoner" "y" "LTideBook$Readings;" ∈ lw_good := lw_mem (mt1 (List.mem_of_getElem? (i := 51) rfl)) rfl
theorem q1_52 : Cond.laysFinal RX9 "TideBook$Reckoner" "x" "LTideBook$Readings;" ∈ lw_good := lw_mem (mt1 (List.mem_of_getElem? (i := 52) rfl)) rfl
theorem q1_54 : Cond.laysFinal RX9 "TideBook$Reckoner" "y" "LTideBook$Readings;" ∈ lw_good := lw_mem (mt1 (List.mem_of_getElem? (i := 54) rfl)) rfl
theorem q1_56 : Cond.superclass RX9 "java/lang/Object" ∈ lw_good := lw_mem (mt1 (List.mem_of_getElem? (i := 56) rfl)) rfl
theorem q1_57 : Cond.classLink RX10 31 RX0 ∈ lw_good := lw_mem (mt1 (List.mem_of_getElem? (i := 57) rfl)) rfl
theorem q1_59 : Cond.instantiable RX3 6 ∈ lw_good := lw_mem (mt1 (List.mem_of_getElem? (i := 59) rfl)) rfl
theorem q1_61 : Cond.instanceMethod yX3_init ∈ lw_good := lw_mem (mt1 (List.mem_of_getElem? (i := 61) rfl)) rfl
theorem q1_62 : Cond.code yX3_init cX3_init 1 none ∈ lw_good := lw_mem (mt1 (List.mem_of_getElem? (i := 62) rfl)) rfl
theorem q1_63 : Cond.methodLink RX3 3 objectInit ∈ lw_good := lw_mem (mt1 (List.mem_of_getElem? (i := 63) rfl)) rfl
theorem q1_64 : Cond.classLink RX3 9 RX8 ∈ lw_good := lw_mem (mt1 (List.mem_of_getElem? (i := 64) rfl)) rfl
theorem q1_65 : Cond.methodLink RX3 11 yX8_init ∈ lw_good := lw_mem (mt1 (List.mem_of_getElem? (i := 65) rfl)) rfl
theorem q1_66 : Cond.fieldLink RX3 14 "TideBook$Column" "readings" "LTideBook$Readings;" ∈ lw_good := lw_mem (mt1 (List.mem_of_getElem? (i := 66) rfl)) rfl
theorem q1_67 : Cond.fieldLink RX9 23 "TideBook$Column" "readings" "LTideBook$Readings;" ∈ lw_good := lw_mem (mt1 (List.mem_of_getElem? (i := 67) rfl)) rfl
theorem q1_68 : Cond.fieldLink RX10 68 "TideBook$Column" "readings" "LTideBook$Readings;" ∈ lw_good := lw_mem (mt1 (List.mem_of_getElem? (i := 68) rfl)) rfl
theorem q1_69 : Cond.fieldLink RX3 20 "TideBook$Column" "narrow" "Z" ∈ lw_good := lw_mem (mt1 (List.mem_of_getElem? (i := 69) rfl)) rfl
theorem q1_70 : Cond.fieldLink RX10 84 "TideBook$Column" "narrow" "Z" ∈ lw_good := lw_mem (mt1 (List.mem_of_getElem? (i := 70) rfl)) rfl
theorem q1_71 : Cond.fieldLink RX9 53 "TideBook$Column" "narrow" "Z" ∈ lw_good := lw_mem (mt1 (List.mem_of_getElem? (i := 71) rfl)) rfl
theorem q1_72 : Cond.fieldLink RX3 24 "TideBook$Column" "f" "I" ∈ lw_good := lw_mem (mt1 (List.mem_of_getElem? (i := 72) rfl)) rfl
theorem q1_73 : Cond.fieldLink RX9 31 "TideBook$Column" "f" "I" ∈ lw_good := lw_mem (mt1 (List.mem_of_getElem? (i := 73) rfl)) rfl
theorem q1_74 : Cond.fieldLink RX10 124 "TideBook$Column" "f" "I" ∈ lw_good := lw_mem (mt1 (List.mem_of_getElem? (i := 74) rfl)) rfl
theorem q1_75 : Cond.fieldLink RX3 28 "TideBook$Column" "a" "I" ∈ lw_good := lw_mem (mt1 (List.mem_of_getElem? (i := 75) rfl)) rfl
theorem q1_76 : Cond.fieldLink RX10 127 "TideBook$Column" "a" "I" ∈ lw_good := lw_mem (mt1 (List.mem_of_getElem? (i := 76) rfl)) rfl
theorem q1_77 : Cond.fieldLink RX3 31 "TideBook$Column" "b" "I" ∈ lw_good := lw_mem (mt1 (List.mem_of_getElem? (i := 77) rfl)) rfl
theorem q1_78 : Cond.fieldLink RX10 130 "TideBook$Column" "b" "I" ∈ lw_good := lw_mem (mt1 (List.mem_of_getElem? (i := 78) rfl)) rfl
theorem q1_79 : Cond.fieldLink RX3 34 "TideBook$Column" "c" "I" ∈ lw_good := lw_mem (mt1 (List.mem_of_getElem? (i := 79) rfl)) rfl
theorem q1_80 : Cond.fieldLink RX9 75 "TideBook$Column" "c" "I" ∈ lw_good := lw_mem (mt1 (List.mem_of_getElem? (i := 80) rfl)) rfl
theorem q1_81 : Cond.fieldLink RX10 133 "TideBook$Column" "c" "I" ∈ lw_good := lw_mem (mt1 (List.mem_of_getElem? (i := 81) rfl)) rfl
theorem q1_82 : Cond.laysFinal RX3 "TideBook$Column" "readings" "LTideBook$Readings;" ∈ lw_good := lw_mem (mt1 (List.mem_of_getElem? (i := 82) rfl)) rfl
theorem q1_84 : Cond.lays RX3 "TideBook$Column" "narrow" "Z" ∈ lw_good := lw_mem (mt1 (List.mem_of_getElem? (i := 84) rfl)) rfl
theorem q1_86 : Cond.lays RX3 "TideBook$Column" "f" "I" ∈ lw_good := lw_mem (mt1 (List.mem_of_getElem? (i := 86) rfl)) rfl
theorem q1_88 : Cond.lays RX3 "TideBook$Column" "a" "I" ∈ lw_good := lw_mem (mt1 (List.mem_of_getElem? (i := 88) rfl)) rfl
theorem q1_90 : Cond.lays RX3 "TideBook$Column" "b" "I" ∈ lw_good := lw_mem (mt1 (List.mem_of_getElem? (i := 90) rfl)) rfl
theorem q1_92 : Cond.lays RX3 "TideBook$Column" "c" "I" ∈ lw_good := lw_mem (mt1 (List.mem_of_getElem? (i := 92) rfl)) rfl
theorem q1_94 : Cond.superclass RX3 "java/lang/Object" ∈ lw_good := lw_mem (mt1 (List.mem_of_getElem? (i := 94) rfl)) rfl
theorem q1_95 : Cond.instantiable RX0 6 ∈ lw_good := lw_mem (mt1 (List.mem_of_getElem? (i := 95) rfl)) rfl
theorem q1_97 : Cond.instanceMethod yX0_init ∈ lw_good := lw_mem (mt1 (List.mem_of_getElem? (i := 97) rfl)) rfl
theorem q1_98 : Cond.code yX0_init cX0_init 1 none ∈ lw_good := lw_mem (mt1 (List.mem_of_getElem? (i := 98) rfl)) rfl
theorem q1_99 : Cond.methodLink RX0 3 objectInit ∈ lw_good := lw_mem (mt1 (List.mem_of_getElem? (i := 99) rfl)) rfl
theorem q1_100 : Cond.fieldLink RX0 9 "TideBook$Alarm" "column" "I" ∈ lw_good := lw_mem (mt1 (List.mem_of_getElem? (i := 100) rfl)) rfl
theorem q1_101 : Cond.fieldLink RX10 163 "TideBook$Alarm" "column" "I" ∈ lw_good := lw_mem (mt1 (List.mem_of_getElem? (i := 101) rfl)) rfl
theorem q1_102 : Cond.fieldLink RX0 15 "TideBook$Alarm" "c" "I" ∈ lw_good := lw_mem (mt1 (List.mem_of_getElem? (i := 102) rfl)) rfl
theorem q1_103 : Cond.fieldLink RX10 164 "TideBook$Alarm" "c" "I" ∈ lw_good := lw_mem (mt1 (List.mem_of_getElem? (i := 103) rfl)) rfl
theorem q1_104 : Cond.fieldLink RX0 18 "TideBook$Alarm" "b" "I" ∈ lw_good := lw_mem (mt1 (List.mem_of_getElem? (i := 104) rfl)) rfl
theorem q1_105 : Cond.fieldLink RX10 165 "TideBook$Alarm" "b" "I" ∈ lw_good := lw_mem (mt1 (List.mem_of_getElem? (i := 105) rfl)) rfl
theorem q1_106 : Cond.fieldLink RX0 21 "TideBook$Alarm" "looked" "Z" ∈ lw_good := lw_mem (mt1 (List.mem_of_getElem? (i := 106) rfl)) rfl
theorem q1_107 : Cond.fieldLink RX10 207 "TideBook$Alarm" "looked" "Z" ∈ lw_good := lw_mem (mt1 (List.mem_of_getElem? (i := 107) rfl)) rfl
theorem q1_108 : Cond.fieldLink RX0 25 "TideBook$Alarm" "held" "I" ∈ lw_good := lw_mem (mt1 (List.mem_of_getElem? (i := 108) rfl)) rfl
theorem q1_109 : Cond.fieldLink RX0 28 "TideBook$Alarm" "rang" "I" ∈ lw_good := lw_mem (mt1 (List.mem_of_getElem? (i := 109) rfl)) rfl
theorem q1_110 : Cond.fieldLink RX10 173 "TideBook$Alarm" "rang" "I" ∈ lw_good := lw_mem (mt1 (List.mem_of_getElem? (i := 110) rfl)) rfl
theorem q1_111 : Cond.lays RX0 "TideBook$Alarm" "column" "I" ∈ lw_good := lw_mem (mt1 (List.mem_of_getElem? (i := 111) rfl)) rfl
theorem q1_113 : Cond.lays RX0 "TideBook$Alarm" "c" "I" ∈ lw_good := lw_mem (mt1 (List.mem_of_getElem? (i := 113) rfl)) rfl
theorem q1_115 : Cond.lays RX0 "TideBook$Alarm" "b" "I" ∈ lw_good := lw_mem (mt1 (List.mem_of_getElem? (i := 115) rfl)) rfl
theorem q1_117 : Cond.lays RX0 "TideBook$Alarm" "looked" "Z" ∈ lw_good := lw_mem (mt1 (List.mem_of_getElem? (i := 117) rfl)) rfl
theorem q1_119 : Cond.lays RX0 "TideBook$Alarm" "held" "I" ∈ lw_good := lw_mem (mt1 (List.mem_of_getElem? (i := 119) rfl)) rfl
theorem q1_121 : Cond.lays RX0 "TideBook$Alarm" "rang" "I" ∈ lw_good := lw_mem (mt1 (List.mem_of_getElem? (i := 121) rfl)) rfl
theorem q1_123 : Cond.superclass RX0 "java/lang/Object" ∈ lw_good := lw_mem (mt1 (List.mem_of_getElem? (i := 123) rfl)) rfl
theorem q1_124 : Cond.fieldLink RX10 11 "TideBook" "columns" "[LTideBook$Column;" ∈ lw_good := lw_mem (mt1 (List.mem_of_getElem? (i := 124) rfl)) rfl
theorem q1_125 : Cond.fieldLink RX10 20 "TideBook" "constants" "LTideBook$Readings;" ∈ lw_good := lw_mem (mt1 (List.mem_of_getElem? (i := 125) rfl)) rfl
theorem q1_126 : Cond.fieldLink RX10 27 "TideBook" "reckoner" "LTideBook$Reckoner;" ∈ lw_good := lw_mem (mt1 (List.mem_of_getElem? (i := 126) rfl)) rfl
theorem q1_127 : Cond.fieldLink RX10 33 "TideBook" "alarms" "[LTideBook$Alarm;" ∈ lw_good := lw_mem (mt1 (List.mem_of_getElem? (i := 127) rfl)) rfl
theorem q1_128 : Cond.fieldLink RX10 37 "TideBook" "alarmCount" "I" ∈ lw_good := lw_mem (mt1 (List.mem_of_getElem? (i := 128) rfl)) rfl
theorem q1_129 : Cond.fieldLink RX10 41 "TideBook" "rings" "I" ∈ lw_good := lw_mem (mt1 (List.mem_of_getElem? (i := 129) rfl)) rfl
theorem q1_130 : Cond.fieldLink RX10 44 "TideBook" "latest" "LTideBook$Change;" ∈ lw_good := lw_mem (mt1 (List.mem_of_getElem? (i := 130) rfl)) rfl
theorem q1_131 : Cond.fieldLink RX10 48 "TideBook" "changes" "I" ∈ lw_good := lw_mem (mt1 (List.mem_of_getElem? (i := 131) rfl)) rfl
theorem q1_132 : Cond.fieldLink RX10 51 "TideBook" "fresh" "I" ∈ lw_good := lw_mem (mt1 (List.mem_of_getElem? (i := 132) rfl)) rfl
theorem q1_133 : Cond.laysFinal RX10 "TideBook" "columns" "[LTideBook$Column;" ∈ lw_good := lw_mem (mt1 (List.mem_of_getElem? (i := 133) rfl)) rfl
theorem q1_135 : Cond.laysFinal RX10 "TideBook" "constants" "LTideBook$Readings;" ∈ lw_good := lw_mem (mt1 (List.mem_of_getElem? (i := 135) rfl)) rfl
theorem q1_137 : Cond.laysFinal RX10 "TideBook" "reckoner" "LTideBook$Reckoner;" ∈ lw_good := lw_mem (mt1 (List.mem_of_getElem? (i := 137) rfl)) rfl
theorem q1_139 : Cond.laysFinal RX10 "TideBook" "alarms" "[LTideBook$Alarm;" ∈ lw_good := lw_mem (mt1 (List.mem_of_getElem? (i := 139) rfl)) rfl
theorem q1_141 : Cond.lays RX10 "TideBook" "alarmCount" "I" ∈ lw_good := lw_mem (mt1 (List.mem_of_getElem? (i := 141) rfl)) rfl
theorem q1_143 : Cond.lays RX10 "TideBook" "rings" "I" ∈ lw_good := lw_mem (mt1 (List.mem_of_getElem? (i := 143) rfl)) rfl
theorem q1_145 : Cond.lays RX10 "TideBook" "latest" "LTideBook$Change;" ∈ lw_good := lw_mem (mt1 (List.mem_of_getElem? (i := 145) rfl)) rfl
theorem q1_147 : Cond.lays RX10 "TideBook" "changes" "I" ∈ lw_good := lw_mem (mt1 (List.mem_of_getElem? (i := 147) rfl)) rfl
theorem q1_149 : Cond.lays RX10 "TideBook" "fresh" "I" ∈ lw_good := lw_mem (mt1 (List.mem_of_getElem? (i := 149) rfl)) rfl
theorem q1_151 : Cond.superclass RX10 "java/lang/Object" ∈ lw_good := lw_mem (mt1 (List.mem_of_getElem? (i := 151) rfl)) rfl
theorem q1_152 : Cond.methodLink RL 13 yX10_set ∈ lw_good := lw_mem (mt1 (List.mem_of_getElem? (i := 152) rfl)) rfl
theorem q1_153 : Cond.instanceMethod yX10_set ∈ lw_good := lw_mem (mt1 (List.mem_of_getElem? (i := 153) rfl)) rfl
theorem q1_154 : Cond.selects RX10 yX10_set yX10_set ∈ lw_good := lw_mem (mt1 (List.mem_of_getElem? (i := 154) rfl)) rfl
theorem q1_155 : Cond.code yX10_set cX10_set 6 (some .int) ∈ lw_good := lw_mem (mt1 (List.mem_of_getElem? (i := 155) rfl)) rfl
theorem q1_156 : Cond.methodLink RX10 56 yX10_takesReadings ∈ lw_good := lw_mem (mt1 (List.mem_of_getElem? (i := 156) rfl)) rfl
theorem q1_158 : Cond.instanceMethod yX10_takesReadings ∈ lw_good := lw_mem (mt1 (List.mem_of_getElem? (i := 158) rfl)) rfl
theorem q1_159 : Cond.code yX10_takesReadings cX10_takesReadings 2 (some .boolean) ∈ lw_good := lw_mem (mt1 (List.mem_of_getElem? (i := 159) rfl)) rfl
theorem q1_160 : Cond.methodLink RX10 110 yX10_isColumn ∈ lw_good := lw_mem (mt1 (List.mem_of_getElem? (i := 160) rfl)) rfl
theorem q1_161 : Cond.static yX10_isColumn ∈ lw_good := lw_mem (mt1 (List.mem_of_getElem? (i := 161) rfl)) rfl
theorem q1_162 : Cond.code yX10_isColumn cX10_isColumn 1 (some .boolean) ∈ lw_good := lw_mem (mt1 (List.mem_of_getElem? (i := 162) rfl)) rfl
theorem q1_163 : Cond.methodLink RX10 136 yX3_hasFormula ∈ lw_good := lw_mem (mt1 (List.mem_of_getElem? (i := 163) rfl)) rfl
theorem q1_164 : Cond.instanceMethod yX3_hasFormula ∈ lw_good := lw_mem (mt1 (List.mem_of_getElem? (i := 164) rfl)) rfl
theorem q1_165 : Cond.selects RX3 yX3_hasFormula yX3_hasFormula ∈ lw_good := lw_mem (mt1 (List.mem_of_getElem? (i := 165) rfl)) rfl
theorem q1_166 : Cond.code yX3_hasFormula cX3_hasFormula 1 (some .boolean) ∈ lw_good := lw_mem (mt1 (List.mem_of_getElem? (i := 166) rfl)) rfl
theorem q1_167 : Cond.methodLink RX10 106 yX10_hasRoom ∈ lw_good := lw_mem (mt1 (List.mem_of_getElem? (i := 167) rfl)) rfl
theorem q1_169 : Cond.instanceMethod yX10_hasRoom ∈ lw_good := lw_mem (mt1 (List.mem_of_getElem? (i := 169) rfl)) rfl
theorem q1_170 : Cond.code yX10_hasRoom cX10_hasRoom 1 (some .boolean) ∈ lw_good := lw_mem (mt1 (List.mem_of_getElem? (i := 170) rfl)) rfl
theorem q1_171 : Cond.methodLink RX10 60 yX10_isPlace ∈ lw_good := lw_mem (mt1 (List.mem_of_getElem? (i := 171) rfl)) rfl
theorem q1_172 : Cond.static yX10_isPlace ∈ lw_good := lw_mem (mt1 (List.mem_of_getElem? (i := 172) rfl)) rfl
theorem q1_173 : Cond.code yX10_isPlace cX10_isPlace 1 (some .boolean) ∈ lw_good := lw_mem (mt1 (List.mem_of_getElem? (i := 173) rfl)) rfl
theorem q1_174 : Cond.methodLink RX10 63 yX10_isPower ∈ lw_good := lw_mem (mt1 (List.mem_of_getElem? (i := 174) rfl)) rfl
theorem q1_175 : Cond.static yX10_isPower ∈ lw_good := lw_mem (mt1 (List.mem_of_getElem? (i := 175) rfl)) rfl
theorem q1_176 : Cond.code yX10_isPower cX10_isPower 1 (some .boolean) ∈ lw_good := lw_mem (mt1 (List.mem_of_getElem? (i := 176) rfl)) rfl
theorem q1_177 : Cond.classLink RX10 66 RX7 ∈ lw_good := lw_mem (mt1 (List.mem_of_getElem? (i := 177) rfl)) rfl
theorem q1_178 : Cond.instantiable RX7 6 ∈ lw_good := lw_mem (mt1 (List.mem_of_getElem? (i := 178) rfl)) rfl
theorem q1_179 : Cond.methodLink RX10 71 yX7_init ∈ lw_good := lw_mem (mt1 (List.mem_of_getElem? (i := 179) rfl)) rfl
theorem q1_180 : Cond.instanceMethod yX7_init ∈ lw_good := lw_mem (mt1 (List.mem_of_getElem? (i := 180) rfl)) rfl
theorem q1_181 : Cond.code yX7_init cX7_init 5 none ∈ lw_good := lw_mem (mt1 (List.mem_of_getElem? (i := 181) rfl)) rfl
theorem q1_182 : Cond.methodLink RX7 1 yX2_init ∈ lw_good := lw_mem (mt1 (List.mem_of_getElem? (i := 182) rfl)) rfl
theorem q1_183 : Cond.instanceMethod yX2_init ∈ lw_good := lw_mem (mt1 (List.mem_of_getElem? (i := 183) rfl)) rfl
theorem q1_184 : Cond.code yX2_init cX2_init 3 none ∈ lw_good := lw_mem (mt1 (List.mem_of_getElem? (i := 184) rfl)) rfl
theorem q1_185 : Cond.methodLink RX2 1 objectInit ∈ lw_good := lw_mem (mt1 (List.mem_of_getElem? (i := 185) rfl)) rfl
theorem q1_186 : Cond.methodLink RX7 17 yX8_at ∈ lw_good := lw_mem (mt1 (List.mem_of_getElem? (i := 186) rfl)) rfl
theorem q1_187 : Cond.instanceMethod yX8_at ∈ lw_good := lw_mem (mt1 (List.mem_of_getElem? (i := 187) rfl)) rfl
theorem q1_188 : Cond.selects RX8 yX8_at yX8_at ∈ lw_good := lw_mem (mt1 (List.mem_of_getElem? (i := 188) rfl)) rfl
theorem q1_189 : Cond.code yX8_at cX8_at 2 (some .double) ∈ lw_good := lw_mem (mt1 (List.mem_of_getElem? (i := 189) rfl)) rfl
theorem q1_190 : Cond.methodLink RX7 27 yX8_blankAt ∈ lw_good := lw_mem (mt1 (List.mem_of_getElem? (i := 190) rfl)) rfl
theorem q1_191 : Cond.instanceMethod yX8_blankAt ∈ lw_good := lw_mem (mt1 (List.mem_of_getElem? (i := 191) rfl)) rfl
theorem q1_192 : Cond.selects RX8 yX8_blankAt yX8_blankAt ∈ lw_good := lw_mem (mt1 (List.mem_of_getElem? (i := 192) rfl)) rfl
theorem q1_193 : Cond.code yX8_blankAt cX8_blankAt 2 (some .boolean) ∈ lw_good := lw_mem (mt1 (List.mem_of_getElem? (i := 193) rfl)) rfl
theorem q1_194 : Cond.fieldLink RX7 7 "TideBook$ReadingChange" "readings" "LTideBook$Readings;" ∈ lw_good := lw_mem (mt1 (List.mem_of_getElem? (i := 194) rfl)) rfl
theorem q1_195 : Cond.fieldLink RX7 13 "TideBook$ReadingChange" "place" "I" ∈ lw_good := lw_mem (mt1 (List.mem_of_getElem? (i := 195) rfl)) rfl
theorem q1_196 : Cond.fieldLink RX7 23 "TideBook$ReadingChange" "number" "D" ∈ lw_good := lw_mem (mt1 (List.mem_of_getElem? (i := 196) rfl)) rfl
theorem q1_197 : Cond.fieldLink RX7 31 "TideBook$ReadingChange" "blank" "Z" ∈ lw_good := lw_mem (mt1 (List.mem_of_getElem? (i := 197) rfl)) rfl
theorem q1_198 : Cond.fieldLink RX2 7 "TideBook$Change" "before" "LTideBook$Change;" ∈ lw_good := lw_mem (mt1 (List.mem_of_getElem? (i := 198) rfl)) rfl
theorem q1_199 : Cond.fieldLink RX10 160 "TideBook$Change" "before" "LTideBook$Change;" ∈ lw_good := lw_mem (mt1 (List.mem_of_getElem? (i := 199) rfl)) rfl
theorem q1_200 : Cond.fieldLink RX2 13 "TideBook$Change" "column" "I" ∈ lw_good := lw_mem (mt1 (List.mem_of_getElem? (i := 200) rfl)) rfl
theorem q1_201 : Cond.fieldLink RX10 151 "TideBook$Change" "column" "I" ∈ lw_good := lw_mem (mt1 (List.mem_of_getElem? (i := 201) rfl)) rfl
theorem q1_202 : Cond.laysFinal RX7 "TideBook$ReadingChange" "readings" "LTideBook$Readings;" ∈ lw_good := lw_mem (mt1 (List.mem_of_getElem? (i := 202) rfl)) rfl
theorem q1_204 : Cond.laysFinal RX7 "TideBook$ReadingChange" "place" "I" ∈ lw_good := lw_mem (mt1 (List.mem_of_getElem? (i := 204) rfl)) rfl
theorem q1_206 : Cond.laysFinal RX7 "TideBook$ReadingChange" "number" "D" ∈ lw_good := lw_mem (mt1 (List.mem_of_getElem? (i := 206) rfl)) rfl
theorem q1_208 : Cond.laysFinal RX7 "TideBook$ReadingChange" "blank" "Z" ∈ lw_good := lw_mem (mt1 (List.mem_of_getElem? (i := 208) rfl)) rfl
theorem q1_210 : Cond.laysFinal RX7 "TideBook$Change" "before" "LTideBook$Change;" ∈ lw_good := lw_mem (mt1 (List.mem_of_getElem? (i := 210) rfl)) rfl
theorem q1_212 : Cond.laysFinal RX7 "TideBook$Change" "column" "I" ∈ lw_good := lw_mem (mt1 (List.mem_of_getElem? (i := 212) rfl)) rfl
theorem q1_214 : Cond.superclass RX7 "TideBook$Change" ∈ lw_good := lw_mem (mt1 (List.mem_of_getElem? (i := 214) rfl)) rfl
theorem q1_215 : Cond.methodLink RX10 74 yX10_remember ∈ lw_good := lw_mem (mt1 (List.mem_of_getElem? (i := 215) rfl)) rfl
theorem q1_217 : Cond.instanceMethod yX10_remember ∈ lw_good := lw_mem (mt1 (List.mem_of_getElem? (i := 217) rfl)) rfl
theorem q1_218 : Cond.code yX10_remember cX10_remember 2 none ∈ lw_good := lw_mem (mt1 (List.mem_of_getElem? (i := 218) rfl)) rfl
theorem q1_219 : Cond.methodLink RX10 154 yJ9_min_7cf53 ∈ lw_good := lw_mem (mt1 (List.mem_of_getElem? (i := 219) rfl)) rfl
theorem q1_220 : Cond.static yJ9_min_7cf53 ∈ lw_good := lw_mem (mt1 (List.mem_of_getElem? (i := 220) rfl)) rfl
theorem q1_221 : Cond.code yJ9_min_7cf53 cJ9_min_7cf53 2 (some .int) ∈ lw_good := lw_mem (mt1 (List.mem_of_getElem? (i := 221) rfl)) rfl
theorem q1_222 : Cond.methodLink RX10 78 yX6_twoTo ∈ lw_good := lw_mem (mt1 (List.mem_of_getElem? (i := 222) rfl)) rfl
theorem q1_223 : Cond.static yX6_twoTo ∈ lw_good := lw_mem (mt1 (List.mem_of_getElem? (i := 223) rfl)) rfl
theorem q1_224 : Cond.code yX6_twoTo cX6_twoTo 7 (some .double) ∈ lw_good := lw_mem (mt1 (List.mem_of_getElem? (i := 224) rfl)) rfl
theorem q1_225 : Cond.constantDouble RX6 7 (4602678819172646912 : UInt64) ∈ lw_good := lw_mem (mt1 (List.mem_of_getElem? (i := 225) rfl)) rfl
theorem q1_226 : Cond.constantDouble RX6 9 (4611686018427387904 : UInt64) ∈ lw_good := lw_mem (mt1 (List.mem_of_getElem? (i := 226) rfl)) rfl
theorem q1_227 : Cond.methodLink RX10 88 yX6_brought ∈ lw_good := lw_mem (mt1 (List.mem_of_getElem? (i := 227) rfl)) rfl
theorem q1_228 : Cond.static yX6_brought ∈ lw_good := lw_mem (mt1 (List.mem_of_getElem? (i := 228) rfl)) rfl
theorem q1_229 : Cond.code yX6_brought cX6_brought 3 (some .double) ∈ lw_good := lw_mem (mt1 (List.mem_of_getElem? (i := 229) rfl)) rfl
theorem q1_230 : Cond.methodLink RX10 92 yX8_put ∈ lw_good := lw_mem (mt1 (List.mem_of_getElem? (i := 230) rfl)) rfl
theorem q1_231 : Cond.instanceMethod yX8_put ∈ lw_good := lw_mem (mt1 (List.mem_of_getElem? (i := 231) rfl)) rfl
theorem q1_232 : Cond.selects RX8 yX8_put yX8_put ∈ lw_good := lw_mem (mt1 (List.mem_of_getElem? (i := 232) rfl)) rfl
theorem q1_233 : Cond.code yX8_put cX8_put 4 none ∈ lw_good := lw_mem (mt1 (List.mem_of_getElem? (i := 233) rfl)) rfl
theorem q1_234 : Cond.methodLink RL 18 yX10_special ∈ lw_good := lw_mem (mt1 (List.mem_of_getElem? (i := 234) rfl)) rfl
theorem q1_235 : Cond.instanceMethod yX10_special ∈ lw_good := lw_mem (mt1 (List.mem_of_getElem? (i := 235) rfl)) rfl
theorem q1_236 : Cond.selects RX10 yX10_special yX10_special ∈ lw_good := lw_mem (mt1 (List.mem_of_getElem? (i := 236) rfl)) rfl
theorem q1_237 : Cond.code yX10_special cX10_special 5 (some .int) ∈ lw_good := lw_mem (mt1 (List.mem_of_getElem? (i := 237) rfl)) rfl
theorem q1_238 : Cond.methodLink RX10 96 yX10_isSpecial ∈ lw_good := lw_mem (mt1 (List.mem_of_getElem? (i := 238) rfl)) rfl
theorem q1_239 : Cond.static yX10_isSpecial ∈ lw_good := lw_mem (mt1 (List.mem_of_getElem? (i := 239) rfl)) rfl
theorem q2_0 : Cond.code yX10_isSpecial cX10_isSpecial 1 (some .boolean) ∈ lw_good := lw_mem (mt2 (List.mem_of_getElem? (i := 0) rfl)) rfl
theorem q2_1 : Cond.methodLink RX10 99 yX8_putSpecial ∈ lw_good := lw_mem (mt2 (List.mem_of_getElem? (i := 1) rfl)) rfl
theorem q2_2 : Cond.instanceMethod yX8_putSpecial ∈ lw_good := lw_mem (mt2 (List.mem_of_getElem? (i := 2) rfl)) rfl
theorem q2_3 : Cond.selects RX8 yX8_putSpecial yX8_putSpecial ∈ lw_good := lw_mem (mt2 (List.mem_of_getElem? (i := 3) rfl)) rfl
theorem q2_4 : Cond.code yX8_putSpecial cX8_putSpecial 4 none ∈ lw_good := lw_mem (mt2 (List.mem_of_getElem? (i := 4) rfl)) rfl
theorem q2_5 : Cond.methodLink RX8 17 yX8_clear ∈ lw_good := lw_mem (mt2 (List.mem_of_getElem? (i := 5) rfl)) rfl
theorem q2_6 : Cond.instanceMethod yX8_clear ∈ lw_good := lw_mem (mt2 (List.mem_of_getElem? (i := 6) rfl)) rfl
theorem q2_7 : Cond.selects RX8 yX8_clear yX8_clear ∈ lw_good := lw_mem (mt2 (List.mem_of_getElem? (i := 7) rfl)) rfl
theorem q2_8 : Cond.code yX8_clear cX8_clear 2 none ∈ lw_good := lw_mem (mt2 (List.mem_of_getElem? (i := 8) rfl)) rfl
theorem q2_9 : Cond.methodLink RX8 21 yX6_named ∈ lw_good := lw_mem (mt2 (List.mem_of_getElem? (i := 9) rfl)) rfl
theorem q2_10 : Cond.static yX6_named ∈ lw_good := lw_mem (mt2 (List.mem_of_getElem? (i := 10) rfl)) rfl
theorem q2_11 : Cond.code yX6_named cX6_named 2 (some .double) ∈ lw_good := lw_mem (mt2 (List.mem_of_getElem? (i := 11) rfl)) rfl
theorem q2_12 : Cond.constantDouble RX6 11 (9218868437227405312 : UInt64) ∈ lw_good := lw_mem (mt2 (List.mem_of_getElem? (i := 12) rfl)) rfl
theorem q2_13 : Cond.constantDouble RX6 13 (18442240474082181120 : UInt64) ∈ lw_good := lw_mem (mt2 (List.mem_of_getElem? (i := 13) rfl)) rfl
theorem q2_14 : Cond.constantDouble RX6 15 (9223372036854775808 : UInt64) ∈ lw_good := lw_mem (mt2 (List.mem_of_getElem? (i := 14) rfl)) rfl
theorem q2_15 : Cond.constantDouble RX6 17 (5183643170566569984 : UInt64) ∈ lw_good := lw_mem (mt2 (List.mem_of_getElem? (i := 15) rfl)) rfl
theorem q2_16 : Cond.constantDouble RX6 19 (9218868437227405311 : UInt64) ∈ lw_good := lw_mem (mt2 (List.mem_of_getElem? (i := 16) rfl)) rfl
theorem q2_17 : Cond.constantDouble RX6 21 (3936146074321813504 : UInt64) ∈ lw_good := lw_mem (mt2 (List.mem_of_getElem? (i := 17) rfl)) rfl
theorem q2_18 : Cond.constantDouble RX6 23 (1 : UInt64) ∈ lw_good := lw_mem (mt2 (List.mem_of_getElem? (i := 18) rfl)) rfl
theorem q2_19 : Cond.methodLink RX8 27 yX8_put ∈ lw_good := lw_mem (mt2 (List.mem_of_getElem? (i := 19) rfl)) rfl
theorem q2_20 : Cond.methodLink RL 23 yX10_constant ∈ lw_good := lw_mem (mt2 (List.mem_of_getElem? (i := 20) rfl)) rfl
theorem q2_21 : Cond.instanceMethod yX10_constant ∈ lw_good := lw_mem (mt2 (List.mem_of_getElem? (i := 21) rfl)) rfl
theorem q2_22 : Cond.selects RX10 yX10_constant yX10_constant ∈ lw_good := lw_mem (mt2 (List.mem_of_getElem? (i := 22) rfl)) rfl
theorem q2_23 : Cond.code yX10_constant cX10_constant 4 (some .int) ∈ lw_good := lw_mem (mt2 (List.mem_of_getElem? (i := 23) rfl)) rfl
theorem q2_24 : Cond.methodLink RX10 103 yX10_isConstant ∈ lw_good := lw_mem (mt2 (List.mem_of_getElem? (i := 24) rfl)) rfl
theorem q2_25 : Cond.static yX10_isConstant ∈ lw_good := lw_mem (mt2 (List.mem_of_getElem? (i := 25) rfl)) rfl
theorem q2_26 : Cond.code yX10_isConstant cX10_isConstant 1 (some .boolean) ∈ lw_good := lw_mem (mt2 (List.mem_of_getElem? (i := 26) rfl)) rfl
theorem q2_27 : Cond.methodLink RL 27 yX10_constantSpecial ∈ lw_good := lw_mem (mt2 (List.mem_of_getElem? (i := 27) rfl)) rfl
theorem q2_28 : Cond.instanceMethod yX10_constantSpecial ∈ lw_good := lw_mem (mt2 (List.mem_of_getElem? (i := 28) rfl)) rfl
theorem q2_29 : Cond.selects RX10 yX10_constantSpecial yX10_constantSpecial ∈ lw_good := lw_mem (mt2 (List.mem_of_getElem? (i := 29) rfl)) rfl
theorem q2_30 : Cond.code yX10_constantSpecial cX10_constantSpecial 3 (some .int) ∈ lw_good := lw_mem (mt2 (List.mem_of_getElem? (i := 30) rfl)) rfl
theorem q2_31 : Cond.methodLink RL 32 yX10_formula ∈ lw_good := lw_mem (mt2 (List.mem_of_getElem? (i := 31) rfl)) rfl
theorem q2_32 : Cond.instanceMethod yX10_formula ∈ lw_good := lw_mem (mt2 (List.mem_of_getElem? (i := 32) rfl)) rfl
theorem q2_33 : Cond.selects RX10 yX10_formula yX10_formula ∈ lw_good := lw_mem (mt2 (List.mem_of_getElem? (i := 33) rfl)) rfl
theorem q2_34 : Cond.code yX10_formula cX10_formula 7 (some .int) ∈ lw_good := lw_mem (mt2 (List.mem_of_getElem? (i := 34) rfl)) rfl
theorem q2_35 : Cond.methodLink RX10 113 yX10_isComparison ∈ lw_good := lw_mem (mt2 (List.mem_of_getElem? (i := 35) rfl)) rfl
theorem q2_36 : Cond.static yX10_isComparison ∈ lw_good := lw_mem (mt2 (List.mem_of_getElem? (i := 36) rfl)) rfl
theorem q2_37 : Cond.code yX10_isComparison cX10_isComparison 1 (some .boolean) ∈ lw_good := lw_mem (mt2 (List.mem_of_getElem? (i := 37) rfl)) rfl
theorem q2_38 : Cond.methodLink RX10 116 yX10_isConstantSource ∈ lw_good := lw_mem (mt2 (List.mem_of_getElem? (i := 38) rfl)) rfl
theorem q2_39 : Cond.static yX10_isConstantSource ∈ lw_good := lw_mem (mt2 (List.mem_of_getElem? (i := 39) rfl)) rfl
theorem q2_40 : Cond.code yX10_isConstantSource cX10_isConstantSource 1 (some .boolean) ∈ lw_good := lw_mem (mt2 (List.mem_of_getElem? (i := 40) rfl)) rfl
theorem q2_41 : Cond.classLink RX10 119 RX4 ∈ lw_good := lw_mem (mt2 (List.mem_of_getElem? (i := 41) rfl)) rfl
theorem q2_42 : Cond.instantiable RX4 4 ∈ lw_good := lw_mem (mt2 (List.mem_of_getElem? (i := 42) rfl)) rfl
theorem q2_43 : Cond.methodLink RX10 121 yX4_init ∈ lw_good := lw_mem (mt2 (List.mem_of_getElem? (i := 43) rfl)) rfl
theorem q2_44 : Cond.instanceMethod yX4_init ∈ lw_good := lw_mem (mt2 (List.mem_of_getElem? (i := 44) rfl)) rfl
theorem q2_45 : Cond.code yX4_init cX4_init 4 none ∈ lw_good := lw_mem (mt2 (List.mem_of_getElem? (i := 45) rfl)) rfl
theorem q2_46 : Cond.methodLink RX4 1 yX2_init ∈ lw_good := lw_mem (mt2 (List.mem_of_getElem? (i := 46) rfl)) rfl
theorem q2_47 : Cond.classLink RX4 7 RX3 ∈ lw_good := lw_mem (mt2 (List.mem_of_getElem? (i := 47) rfl)) rfl
theorem q2_49 : Cond.methodLink RX4 21 yX3_become ∈ lw_good := lw_mem (mt2 (List.mem_of_getElem? (i := 49) rfl)) rfl
theorem q2_50 : Cond.instanceMethod yX3_become ∈ lw_good := lw_mem (mt2 (List.mem_of_getElem? (i := 50) rfl)) rfl
theorem q2_51 : Cond.selects RX3 yX3_become yX3_become ∈ lw_good := lw_mem (mt2 (List.mem_of_getElem? (i := 51) rfl)) rfl
theorem q2_52 : Cond.code yX3_become cX3_become 3 none ∈ lw_good := lw_mem (mt2 (List.mem_of_getElem? (i := 52) rfl)) rfl
theorem q2_53 : Cond.methodLink RX3 37 yX8_putBrought ∈ lw_good := lw_mem (mt2 (List.mem_of_getElem? (i := 53) rfl)) rfl
theorem q2_54 : Cond.instanceMethod yX8_putBrought ∈ lw_good := lw_mem (mt2 (List.mem_of_getElem? (i := 54) rfl)) rfl
theorem q2_55 : Cond.selects RX8 yX8_putBrought yX8_putBrought ∈ lw_good := lw_mem (mt2 (List.mem_of_getElem? (i := 55) rfl)) rfl
theorem q2_56 : Cond.code yX8_putBrought cX8_putBrought 5 none ∈ lw_good := lw_mem (mt2 (List.mem_of_getElem? (i := 56) rfl)) rfl
theorem q2_57 : Cond.methodLink RX8 31 yX6_brought ∈ lw_good := lw_mem (mt2 (List.mem_of_getElem? (i := 57) rfl)) rfl
theorem q2_58 : Cond.fieldLink RX4 18 "TideBook$ColumnChange" "target" "LTideBook$Column;" ∈ lw_good := lw_mem (mt2 (List.mem_of_getElem? (i := 58) rfl)) rfl
theorem q2_59 : Cond.fieldLink RX4 12 "TideBook$ColumnChange" "saved" "LTideBook$Column;" ∈ lw_good := lw_mem (mt2 (List.mem_of_getElem? (i := 59) rfl)) rfl
theorem q2_60 : Cond.laysFinal RX4 "TideBook$ColumnChange" "target" "LTideBook$Column;" ∈ lw_good := lw_mem (mt2 (List.mem_of_getElem? (i := 60) rfl)) rfl
theorem q2_62 : Cond.laysFinal RX4 "TideBook$ColumnChange" "saved" "LTideBook$Column;" ∈ lw_good := lw_mem (mt2 (List.mem_of_getElem? (i := 62) rfl)) rfl
theorem q2_64 : Cond.laysFinal RX4 "TideBook$Change" "before" "LTideBook$Change;" ∈ lw_good := lw_mem (mt2 (List.mem_of_getElem? (i := 64) rfl)) rfl
theorem q2_65 : Cond.laysFinal RX4 "TideBook$Change" "column" "I" ∈ lw_good := lw_mem (mt2 (List.mem_of_getElem? (i := 65) rfl)) rfl
theorem q2_66 : Cond.superclass RX4 "TideBook$Change" ∈ lw_good := lw_mem (mt2 (List.mem_of_getElem? (i := 66) rfl)) rfl
theorem q2_67 : Cond.methodLink RL 37 yX10_input ∈ lw_good := lw_mem (mt2 (List.mem_of_getElem? (i := 67) rfl)) rfl
theorem q2_68 : Cond.instanceMethod yX10_input ∈ lw_good := lw_mem (mt2 (List.mem_of_getElem? (i := 68) rfl)) rfl
theorem q2_69 : Cond.selects RX10 yX10_input yX10_input ∈ lw_good := lw_mem (mt2 (List.mem_of_getElem? (i := 69) rfl)) rfl
theorem q2_70 : Cond.code yX10_input cX10_input 3 (some .int) ∈ lw_good := lw_mem (mt2 (List.mem_of_getElem? (i := 70) rfl)) rfl
theorem q2_71 : Cond.methodLink RX10 139 yX10_refresh ∈ lw_good := lw_mem (mt2 (List.mem_of_getElem? (i := 71) rfl)) rfl
theorem q2_73 : Cond.instanceMethod yX10_refresh ∈ lw_good := lw_mem (mt2 (List.mem_of_getElem? (i := 73) rfl)) rfl
theorem q2_74 : Cond.code yX10_refresh cX10_refresh 3 none ∈ lw_good := lw_mem (mt2 (List.mem_of_getElem? (i := 74) rfl)) rfl
theorem q2_75 : Cond.methodLink RX10 198 yJ9_max_7cf53 ∈ lw_good := lw_mem (mt2 (List.mem_of_getElem? (i := 75) rfl)) rfl
theorem q2_76 : Cond.static yJ9_max_7cf53 ∈ lw_good := lw_mem (mt2 (List.mem_of_getElem? (i := 76) rfl)) rfl
theorem q2_77 : Cond.code yJ9_max_7cf53 cJ9_max_7cf53 2 (some .int) ∈ lw_good := lw_mem (mt2 (List.mem_of_getElem? (i := 77) rfl)) rfl
theorem q2_78 : Cond.methodLink RX10 217 yX10_load ∈ lw_good := lw_mem (mt2 (List.mem_of_getElem? (i := 78) rfl)) rfl
theorem q2_80 : Cond.instanceMethod yX10_load ∈ lw_good := lw_mem (mt2 (List.mem_of_getElem? (i := 80) rfl)) rfl
theorem q2_81 : Cond.code yX10_load cX10_load 5 none ∈ lw_good := lw_mem (mt2 (List.mem_of_getElem? (i := 81) rfl)) rfl
theorem q2_82 : Cond.methodLink RX10 224 yX10_sourceOf ∈ lw_good := lw_mem (mt2 (List.mem_of_getElem? (i := 82) rfl)) rfl
theorem q2_84 : Cond.instanceMethod yX10_sourceOf ∈ lw_good := lw_mem (mt2 (List.mem_of_getElem? (i := 84) rfl)) rfl
theorem q2_85 : Cond.code yX10_sourceOf cX10_sourceOf 2 (some (.object "TideBook$Readings")) ∈ lw_good := lw_mem (mt2 (List.mem_of_getElem? (i := 85) rfl)) rfl
theorem q2_86 : Cond.methodLink RX10 142 yX8_putBrought ∈ lw_good := lw_mem (mt2 (List.mem_of_getElem? (i := 86) rfl)) rfl
theorem q2_87 : Cond.methodLink RX10 234 yX10_placeIn ∈ lw_good := lw_mem (mt2 (List.mem_of_getElem? (i := 87) rfl)) rfl
theorem q2_88 : Cond.static yX10_placeIn ∈ lw_good := lw_mem (mt2 (List.mem_of_getElem? (i := 88) rfl)) rfl
theorem q2_89 : Cond.code yX10_placeIn cX10_placeIn 2 (some .int) ∈ lw_good := lw_mem (mt2 (List.mem_of_getElem? (i := 89) rfl)) rfl
theorem q2_90 : Cond.methodLink RX10 221 yX9_reckon ∈ lw_good := lw_mem (mt2 (List.mem_of_getElem? (i := 90) rfl)) rfl
theorem q2_91 : Cond.instanceMethod yX9_reckon ∈ lw_good := lw_mem (mt2 (List.mem_of_getElem? (i := 91) rfl)) rfl
theorem q2_92 : Cond.selects RX9 yX9_reckon yX9_reckon ∈ lw_good := lw_mem (mt2 (List.mem_of_getElem? (i := 92) rfl)) rfl
theorem q2_93 : Cond.code yX9_reckon cX9_reckon 3 none ∈ lw_good := lw_mem (mt2 (List.mem_of_getElem? (i := 93) rfl)) rfl
theorem q2_94 : Cond.methodLink RX9 28 yX8_clear ∈ lw_good := lw_mem (mt2 (List.mem_of_getElem? (i := 94) rfl)) rfl
theorem q2_95 : Cond.methodLink RX9 35 yX9_fromX ∈ lw_good := lw_mem (mt2 (List.mem_of_getElem? (i := 95) rfl)) rfl
theorem q2_97 : Cond.instanceMethod yX9_fromX ∈ lw_good := lw_mem (mt2 (List.mem_of_getElem? (i := 97) rfl)) rfl
theorem q2_98 : Cond.code yX9_fromX cX9_fromX 3 none ∈ lw_good := lw_mem (mt2 (List.mem_of_getElem? (i := 98) rfl)) rfl
theorem q2_99 : Cond.methodLink RX9 45 yX8_blankAt ∈ lw_good := lw_mem (mt2 (List.mem_of_getElem? (i := 99) rfl)) rfl
theorem q2_100 : Cond.methodLink RX9 49 yX8_at ∈ lw_good := lw_mem (mt2 (List.mem_of_getElem? (i := 100) rfl)) rfl
theorem q2_101 : Cond.methodLink RX9 57 yX6_ofOne ∈ lw_good := lw_mem (mt2 (List.mem_of_getElem? (i := 101) rfl)) rfl
theorem q2_102 : Cond.static yX6_ofOne ∈ lw_good := lw_mem (mt2 (List.mem_of_getElem? (i := 102) rfl)) rfl
theorem q2_103 : Cond.code yX6_ofOne cX6_ofOne 4 (some .double) ∈ lw_good := lw_mem (mt2 (List.mem_of_getElem? (i := 103) rfl)) rfl
theorem q2_104 : Cond.methodLink RX6 37 yX6_withSign ∈ lw_good := lw_mem (mt2 (List.mem_of_getElem? (i := 104) rfl)) rfl
theorem q2_105 : Cond.static yX6_withSign ∈ lw_good := lw_mem (mt2 (List.mem_of_getElem? (i := 105) rfl)) rfl
theorem q2_106 : Cond.code yX6_withSign cX6_withSign 3 (some .double) ∈ lw_good := lw_mem (mt2 (List.mem_of_getElem? (i := 106) rfl)) rfl
theorem q2_107 : Cond.methodLink RX6 27 yX6_hasMinus ∈ lw_good := lw_mem (mt2 (List.mem_of_getElem? (i := 107) rfl)) rfl
theorem q2_108 : Cond.static yX6_hasMinus ∈ lw_good := lw_mem (mt2 (List.mem_of_getElem? (i := 108) rfl)) rfl
theorem q2_109 : Cond.code yX6_hasMinus cX6_hasMinus 2 (some .boolean) ∈ lw_good := lw_mem (mt2 (List.mem_of_getElem? (i := 109) rfl)) rfl
theorem q2_110 : Cond.methodLink RX6 41 yX6_floor ∈ lw_good := lw_mem (mt2 (List.mem_of_getElem? (i := 110) rfl)) rfl
theorem q2_111 : Cond.static yX6_floor ∈ lw_good := lw_mem (mt2 (List.mem_of_getElem? (i := 111) rfl)) rfl
theorem q2_112 : Cond.code yX6_floor cX6_floor 4 (some .double) ∈ lw_good := lw_mem (mt2 (List.mem_of_getElem? (i := 112) rfl)) rfl
theorem q2_113 : Cond.methodLink RX6 77 yX6_isSurelyWhole ∈ lw_good := lw_mem (mt2 (List.mem_of_getElem? (i := 113) rfl)) rfl
theorem q2_114 : Cond.static yX6_isSurelyWhole ∈ lw_good := lw_mem (mt2 (List.mem_of_getElem? (i := 114) rfl)) rfl
theorem q2_115 : Cond.code yX6_isSurelyWhole cX6_isSurelyWhole 2 (some .boolean) ∈ lw_good := lw_mem (mt2 (List.mem_of_getElem? (i := 115) rfl)) rfl
theorem q2_116 : Cond.constantDouble RX6 73 (4841369599423283200 : UInt64) ∈ lw_good := lw_mem (mt2 (List.mem_of_getElem? (i := 116) rfl)) rfl
theorem q2_117 : Cond.constantDouble RX6 75 (14064741636278059008 : UInt64) ∈ lw_good := lw_mem (mt2 (List.mem_of_getElem? (i := 117) rfl)) rfl
theorem q2_118 : Cond.methodLink RX6 80 yX6_zeroLike ∈ lw_good := lw_mem (mt2 (List.mem_of_getElem? (i := 118) rfl)) rfl
theorem q2_119 : Cond.static yX6_zeroLike ∈ lw_good := lw_mem (mt2 (List.mem_of_getElem? (i := 119) rfl)) rfl
theorem q2_120 : Cond.code yX6_zeroLike cX6_zeroLike 2 (some .double) ∈ lw_good := lw_mem (mt2 (List.mem_of_getElem? (i := 120) rfl)) rfl
theorem q2_121 : Cond.methodLink RX6 45 yX6_nearest ∈ lw_good := lw_mem (mt2 (List.mem_of_getElem? (i := 121) rfl)) rfl
theorem q2_122 : Cond.static yX6_nearest ∈ lw_good := lw_mem (mt2 (List.mem_of_getElem? (i := 122) rfl)) rfl
theorem q2_123 : Cond.code yX6_nearest cX6_nearest 8 (some .double) ∈ lw_good := lw_mem (mt2 (List.mem_of_getElem? (i := 123) rfl)) rfl
theorem q2_124 : Cond.constantDouble RX6 48 (13830554455654793216 : UInt64) ∈ lw_good := lw_mem (mt2 (List.mem_of_getElem? (i := 124) rfl)) rfl
theorem q2_125 : Cond.methodLink RX6 50 yX6_quotient ∈ lw_good := lw_mem (mt2 (List.mem_of_getElem? (i := 125) rfl)) rfl
theorem q2_126 : Cond.static yX6_quotient ∈ lw_good := lw_mem (mt2 (List.mem_of_getElem? (i := 126) rfl)) rfl
theorem q2_127 : Cond.code yX6_quotient cX6_quotient 5 (some .double) ∈ lw_good := lw_mem (mt2 (List.mem_of_getElem? (i := 127) rfl)) rfl
theorem q2_128 : Cond.methodLink RX6 54 yX6_product ∈ lw_good := lw_mem (mt2 (List.mem_of_getElem? (i := 128) rfl)) rfl
theorem q2_129 : Cond.static yX6_product ∈ lw_good := lw_mem (mt2 (List.mem_of_getElem? (i := 129) rfl)) rfl
theorem q2_130 : Cond.code yX6_product cX6_product 5 (some .double) ∈ lw_good := lw_mem (mt2 (List.mem_of_getElem? (i := 130) rfl)) rfl
theorem q2_131 : Cond.methodLink RX9 63 yX8_put ∈ lw_good := lw_mem (mt2 (List.mem_of_getElem? (i := 131) rfl)) rfl
theorem q2_132 : Cond.methodLink RX9 39 yX9_fromBoth ∈ lw_good := lw_mem (mt2 (List.mem_of_getElem? (i := 132) rfl)) rfl
theorem q2_134 : Cond.instanceMethod yX9_fromBoth ∈ lw_good := lw_mem (mt2 (List.mem_of_getElem? (i := 134) rfl)) rfl
theorem q2_135 : Cond.code yX9_fromBoth cX9_fromBoth 7 none ∈ lw_good := lw_mem (mt2 (List.mem_of_getElem? (i := 135) rfl)) rfl
theorem q2_136 : Cond.methodLink RX9 67 yX6_isVoid ∈ lw_good := lw_mem (mt2 (List.mem_of_getElem? (i := 136) rfl)) rfl
theorem q2_137 : Cond.static yX6_isVoid ∈ lw_good := lw_mem (mt2 (List.mem_of_getElem? (i := 137) rfl)) rfl
theorem q2_138 : Cond.code yX6_isVoid cX6_isVoid 5 (some .boolean) ∈ lw_good := lw_mem (mt2 (List.mem_of_getElem? (i := 138) rfl)) rfl
theorem q2_139 : Cond.methodLink RX6 57 yX6_isInfinite ∈ lw_good := lw_mem (mt2 (List.mem_of_getElem? (i := 139) rfl)) rfl
theorem q2_140 : Cond.static yX6_isInfinite ∈ lw_good := lw_mem (mt2 (List.mem_of_getElem? (i := 140) rfl)) rfl
theorem q2_141 : Cond.code yX6_isInfinite cX6_isInfinite 2 (some .boolean) ∈ lw_good := lw_mem (mt2 (List.mem_of_getElem? (i := 141) rfl)) rfl
theorem q2_142 : Cond.constantDouble RX6 25 (18442240474082181119 : UInt64) ∈ lw_good := lw_mem (mt2 (List.mem_of_getElem? (i := 142) rfl)) rfl
theorem q2_143 : Cond.methodLink RX9 71 yX6_ofTwo ∈ lw_good := lw_mem (mt2 (List.mem_of_getElem? (i := 143) rfl)) rfl
theorem q2_144 : Cond.static yX6_ofTwo ∈ lw_good := lw_mem (mt2 (List.mem_of_getElem? (i := 144) rfl)) rfl
theorem q2_145 : Cond.code yX6_ofTwo cX6_ofTwo 6 (some .double) ∈ lw_good := lw_mem (mt2 (List.mem_of_getElem? (i := 145) rfl)) rfl
theorem q2_146 : Cond.methodLink RX6 60 yX6_sum ∈ lw_good := lw_mem (mt2 (List.mem_of_getElem? (i := 146) rfl)) rfl
theorem q2_147 : Cond.static yX6_sum ∈ lw_good := lw_mem (mt2 (List.mem_of_getElem? (i := 147) rfl)) rfl
theorem q2_148 : Cond.code yX6_sum cX6_sum 5 (some .double) ∈ lw_good := lw_mem (mt2 (List.mem_of_getElem? (i := 148) rfl)) rfl
theorem q2_149 : Cond.methodLink RX6 63 yX6_remainder ∈ lw_good := lw_mem (mt2 (List.mem_of_getElem? (i := 149) rfl)) rfl
theorem q2_150 : Cond.static yX6_remainder ∈ lw_good := lw_mem (mt2 (List.mem_of_getElem? (i := 150) rfl)) rfl
theorem q2_151 : Cond.code yX6_remainder cX6_remainder 19 (some .double) ∈ lw_good := lw_mem (mt2 (List.mem_of_getElem? (i := 151) rfl)) rfl
theorem q2_152 : Cond.methodLink RX6 83 yX1_behindSign ∈ lw_good := lw_mem (mt2 (List.mem_of_getElem? (i := 152) rfl)) rfl
theorem q2_153 : Cond.static yX1_behindSign ∈ lw_good := lw_mem (mt2 (List.mem_of_getElem? (i := 153) rfl)) rfl
theorem q2_154 : Cond.code yX1_behindSign cX1_behindSign 14 (some .long) ∈ lw_good := lw_mem (mt2 (List.mem_of_getElem? (i := 154) rfl)) rfl
theorem q2_155 : Cond.constantDouble RX1 38 (4039728865751334912 : UInt64) ∈ lw_good := lw_mem (mt2 (List.mem_of_getElem? (i := 155) rfl)) rfl
theorem q2_156 : Cond.constantDouble RX1 40 (4503599627370496 : UInt64) ∈ lw_good := lw_mem (mt2 (List.mem_of_getElem? (i := 156) rfl)) rfl
theorem q2_157 : Cond.constantDouble RX1 42 (4710765210229538816 : UInt64) ∈ lw_good := lw_mem (mt2 (List.mem_of_getElem? (i := 157) rfl)) rfl
theorem q2_158 : Cond.constantDouble RX1 44 (4841369599423283200 : UInt64) ∈ lw_good := lw_mem (mt2 (List.mem_of_getElem? (i := 158) rfl)) rfl
theorem q2_159 : Cond.constantDouble RX1 46 (4751297606875873280 : UInt64) ∈ lw_good := lw_mem (mt2 (List.mem_of_getElem? (i := 159) rfl)) rfl
theorem q2_160 : Cond.constantDouble RX1 48 (4463067230724161536 : UInt64) ∈ lw_good := lw_mem (mt2 (List.mem_of_getElem? (i := 160) rfl)) rfl
theorem q2_161 : Cond.constantDouble RX1 50 (4611686018427387904 : UInt64) ∈ lw_good := lw_mem (mt2 (List.mem_of_getElem? (i := 161) rfl)) rfl
theorem q2_162 : Cond.constantDouble RX1 52 (4602678819172646912 : UInt64) ∈ lw_good := lw_mem (mt2 (List.mem_of_getElem? (i := 162) rfl)) rfl
theorem q2_163 : Cond.methodLink RX6 89 yX1_wideDigits ∈ lw_good := lw_mem (mt2 (List.mem_of_getElem? (i := 163) rfl)) rfl
theorem q2_164 : Cond.static yX1_wideDigits ∈ lw_good := lw_mem (mt2 (List.mem_of_getElem? (i := 164) rfl)) rfl
theorem q2_165 : Cond.code yX1_wideDigits cX1_wideDigits 4 (some .long) ∈ lw_good := lw_mem (mt2 (List.mem_of_getElem? (i := 165) rfl)) rfl
theorem q2_166 : Cond.constantLong RX1 54 (4503599627370495 : Int64) ∈ lw_good := lw_mem (mt2 (List.mem_of_getElem? (i := 166) rfl)) rfl
theorem q2_167 : Cond.constantLong RX1 56 (4503599627370496 : Int64) ∈ lw_good := lw_mem (mt2 (List.mem_of_getElem? (i := 167) rfl)) rfl
theorem q2_168 : Cond.methodLink RX6 93 yX1_widePower ∈ lw_good := lw_mem (mt2 (List.mem_of_getElem? (i := 168) rfl)) rfl
theorem q2_169 : Cond.static yX1_widePower ∈ lw_good := lw_mem (mt2 (List.mem_of_getElem? (i := 169) rfl)) rfl
theorem q2_170 : Cond.code yX1_widePower cX1_widePower 3 (some .int) ∈ lw_good := lw_mem (mt2 (List.mem_of_getElem? (i := 170) rfl)) rfl
theorem q2_171 : Cond.methodLink RX6 97 yJ9_min_7cf53 ∈ lw_good := lw_mem (mt2 (List.mem_of_getElem? (i := 171) rfl)) rfl
theorem q2_172 : Cond.methodLink RX6 103 yX6_twoTo ∈ lw_good := lw_mem (mt2 (List.mem_of_getElem? (i := 172) rfl)) rfl
theorem q2_173 : Cond.methodLink RX6 67 yX6_lesser ∈ lw_good := lw_mem (mt2 (List.mem_of_getElem? (i := 173) rfl)) rfl
theorem q2_174 : Cond.static yX6_lesser ∈ lw_good := lw_mem (mt2 (List.mem_of_getElem? (i := 174) rfl)) rfl
theorem q2_175 : Cond.code yX6_lesser cX6_lesser 4 (some .double) ∈ lw_good := lw_mem (mt2 (List.mem_of_getElem? (i := 175) rfl)) rfl
theorem q2_176 : Cond.methodLink RX6 33 yX6_isBelow ∈ lw_good := lw_mem (mt2 (List.mem_of_getElem? (i := 176) rfl)) rfl
theorem q2_177 : Cond.static yX6_isBelow ∈ lw_good := lw_mem (mt2 (List.mem_of_getElem? (i := 177) rfl)) rfl
theorem q2_178 : Cond.code yX6_isBelow cX6_isBelow 4 (some .boolean) ∈ lw_good := lw_mem (mt2 (List.mem_of_getElem? (i := 178) rfl)) rfl
theorem q2_179 : Cond.methodLink RX6 70 yX6_greater ∈ lw_good := lw_mem (mt2 (List.mem_of_getElem? (i := 179) rfl)) rfl
theorem q2_180 : Cond.static yX6_greater ∈ lw_good := lw_mem (mt2 (List.mem_of_getElem? (i := 180) rfl)) rfl
theorem q2_181 : Cond.code yX6_greater cX6_greater 4 (some .double) ∈ lw_good := lw_mem (mt2 (List.mem_of_getElem? (i := 181) rfl)) rfl
theorem q2_182 : Cond.methodLink RX9 42 yX9_fromRow ∈ lw_good := lw_mem (mt2 (List.mem_of_getElem? (i := 182) rfl)) rfl
theorem q2_184 : Cond.instanceMethod yX9_fromRow ∈ lw_good := lw_mem (mt2 (List.mem_of_getElem? (i := 184) rfl)) rfl
theorem q2_185 : Cond.code yX9_fromRow cX9_fromRow 4 none ∈ lw_good := lw_mem (mt2 (List.mem_of_getElem? (i := 185) rfl)) rfl
theorem q2_186 : Cond.methodLink RX9 78 yX9_keep ∈ lw_good := lw_mem (mt2 (List.mem_of_getElem? (i := 186) rfl)) rfl
theorem q2_188 : Cond.instanceMethod yX9_keep ∈ lw_good := lw_mem (mt2 (List.mem_of_getElem? (i := 188) rfl)) rfl
theorem q2_189 : Cond.code yX9_keep cX9_keep 4 none ∈ lw_good := lw_mem (mt2 (List.mem_of_getElem? (i := 189) rfl)) rfl
theorem q2_190 : Cond.methodLink RX9 106 yX5_isSo ∈ lw_good := lw_mem (mt2 (List.mem_of_getElem? (i := 190) rfl)) rfl
theorem q2_191 : Cond.static yX5_isSo ∈ lw_good := lw_mem (mt2 (List.mem_of_getElem? (i := 191) rfl)) rfl
theorem q2_192 : Cond.code yX5_isSo cX5_isSo 9 (some .boolean) ∈ lw_good := lw_mem (mt2 (List.mem_of_getElem? (i := 192) rfl)) rfl
theorem q2_193 : Cond.methodLink RX5 9 yX8_blankAt ∈ lw_good := lw_mem (mt2 (List.mem_of_getElem? (i := 193) rfl)) rfl
theorem q2_194 : Cond.methodLink RX5 15 yX8_at ∈ lw_good := lw_mem (mt2 (List.mem_of_getElem? (i := 194) rfl)) rfl
theorem q2_195 : Cond.methodLink RX5 19 yX5_isSoOf ∈ lw_good := lw_mem (mt2 (List.mem_of_getElem? (i := 195) rfl)) rfl
theorem q2_196 : Cond.static yX5_isSoOf ∈ lw_good := lw_mem (mt2 (List.mem_of_getElem? (i := 196) rfl)) rfl
theorem q2_197 : Cond.code yX5_isSoOf cX5_isSoOf 5 (some .boolean) ∈ lw_good := lw_mem (mt2 (List.mem_of_getElem? (i := 197) rfl)) rfl
theorem q2_198 : Cond.methodLink RX9 82 yX8_putBrought ∈ lw_good := lw_mem (mt2 (List.mem_of_getElem? (i := 198) rfl)) rfl
theorem q2_199 : Cond.methodLink RX9 86 yX9_middle ∈ lw_good := lw_mem (mt2 (List.mem_of_getElem? (i := 199) rfl)) rfl
theorem q2_201 : Cond.instanceMethod yX9_middle ∈ lw_good := lw_mem (mt2 (List.mem_of_getElem? (i := 201) rfl)) rfl
theorem q2_202 : Cond.code yX9_middle cX9_middle 11 none ∈ lw_good := lw_mem (mt2 (List.mem_of_getElem? (i := 202) rfl)) rfl
theorem q2_203 : Cond.methodLink RX9 112 yX6_lesser ∈ lw_good := lw_mem (mt2 (List.mem_of_getElem? (i := 203) rfl)) rfl
theorem q2_204 : Cond.methodLink RX9 116 yX6_greater ∈ lw_good := lw_mem (mt2 (List.mem_of_getElem? (i := 204) rfl)) rfl
theorem q2_205 : Cond.methodLink RX9 90 yX9_extreme ∈ lw_good := lw_mem (mt2 (List.mem_of_getElem? (i := 205) rfl)) rfl
theorem q2_207 : Cond.instanceMethod yX9_extreme ∈ lw_good := lw_mem (mt2 (List.mem_of_getElem? (i := 207) rfl)) rfl
theorem q2_208 : Cond.code yX9_extreme cX9_extreme 6 none ∈ lw_good := lw_mem (mt2 (List.mem_of_getElem? (i := 208) rfl)) rfl
theorem q2_209 : Cond.methodLink RX9 94 yX9_insert ∈ lw_good := lw_mem (mt2 (List.mem_of_getElem? (i := 209) rfl)) rfl
theorem q2_211 : Cond.instanceMethod yX9_insert ∈ lw_good := lw_mem (mt2 (List.mem_of_getElem? (i := 211) rfl)) rfl
theorem q2_212 : Cond.code yX9_insert cX9_insert 6 none ∈ lw_good := lw_mem (mt2 (List.mem_of_getElem? (i := 212) rfl)) rfl
theorem q2_213 : Cond.methodLink RX9 119 yX6_isBelow ∈ lw_good := lw_mem (mt2 (List.mem_of_getElem? (i := 213) rfl)) rfl
theorem q2_214 : Cond.methodLink RX9 97 yX9_countLess ∈ lw_good := lw_mem (mt2 (List.mem_of_getElem? (i := 214) rfl)) rfl
theorem q2_216 : Cond.instanceMethod yX9_countLess ∈ lw_good := lw_mem (mt2 (List.mem_of_getElem? (i := 216) rfl)) rfl
theorem q2_217 : Cond.code yX9_countLess cX9_countLess 5 none ∈ lw_good := lw_mem (mt2 (List.mem_of_getElem? (i := 217) rfl)) rfl
theorem q2_218 : Cond.methodLink RX9 100 yX9_step ∈ lw_good := lw_mem (mt2 (List.mem_of_getElem? (i := 218) rfl)) rfl
theorem q2_220 : Cond.instanceMethod yX9_step ∈ lw_good := lw_mem (mt2 (List.mem_of_getElem? (i := 220) rfl)) rfl
theorem q2_221 : Cond.code yX9_step cX9_step 8 none ∈ lw_good := lw_mem (mt2 (List.mem_of_getElem? (i := 221) rfl)) rfl
theorem q2_222 : Cond.methodLink RX9 123 yX6_sum ∈ lw_good := lw_mem (mt2 (List.mem_of_getElem? (i := 222) rfl)) rfl
theorem q2_223 : Cond.methodLink RX9 103 yX9_countSo ∈ lw_good := lw_mem (mt2 (List.mem_of_getElem? (i := 223) rfl)) rfl
theorem q2_225 : Cond.instanceMethod yX9_countSo ∈ lw_good := lw_mem (mt2 (List.mem_of_getElem? (i := 225) rfl)) rfl
theorem q2_226 : Cond.code yX9_countSo cX9_countSo 6 none ∈ lw_good := lw_mem (mt2 (List.mem_of_getElem? (i := 226) rfl)) rfl
theorem q2_227 : Cond.methodLink RL 42 yX10_width ∈ lw_good := lw_mem (mt2 (List.mem_of_getElem? (i := 227) rfl)) rfl
theorem q2_228 : Cond.instanceMethod yX10_width ∈ lw_good := lw_mem (mt2 (List.mem_of_getElem? (i := 228) rfl)) rfl
theorem q2_229 : Cond.selects RX10 yX10_width yX10_width ∈ lw_good := lw_mem (mt2 (List.mem_of_getElem? (i := 229) rfl)) rfl
theorem q2_230 : Cond.code yX10_width cX10_width 5 (some .int) ∈ lw_good := lw_mem (mt2 (List.mem_of_getElem? (i := 230) rfl)) rfl
theorem q2_231 : Cond.methodLink RL 47 yX10_back ∈ lw_good := lw_mem (mt2 (List.mem_of_getElem? (i := 231) rfl)) rfl
theorem q2_232 : Cond.instanceMethod yX10_back ∈ lw_good := lw_mem (mt2 (List.mem_of_getElem? (i := 232) rfl)) rfl
theorem q2_233 : Cond.selects RX10 yX10_back yX10_back ∈ lw_good := lw_mem (mt2 (List.mem_of_getElem? (i := 233) rfl)) rfl
theorem q2_234 : Cond.code yX10_back cX10_back 2 (some .int) ∈ lw_good := lw_mem (mt2 (List.mem_of_getElem? (i := 234) rfl)) rfl
theorem q2_235 : Cond.methodLink RX10 146 ⟨"TideBook$Change", "takeBack", "()V"⟩ ∈ lw_good := lw_mem (mt2 (List.mem_of_getElem? (i := 235) rfl)) rfl
theorem q2_237 : Cond.sameMethod "TideBook$Change" "TideBook$Change" "takeBack" "()V" ∈ lw_good := lw_mem (mt2 (List.mem_of_getElem? (i := 237) rfl)) rfl
theorem q2_238 : Cond.selects RX4 ⟨"TideBook$Change", "takeBack", "()V"⟩ yX4_takeBack ∈ lw_good := lw_mem (mt2 (List.mem_of_getElem? (i := 238) rfl)) rfl
theorem q2_239 : Cond.instanceMethod yX4_takeBack ∈ lw_good := lw_mem (mt2 (List.mem_of_getElem? (i := 239) rfl)) rfl
theorem q3_0 : Cond.code yX4_takeBack cX4_takeBack 1 none ∈ lw_good := lw_mem (mt3 (List.mem_of_getElem? (i := 0) rfl)) rfl
theorem q3_1 : Cond.selects RX7 ⟨"TideBook$Change", "takeBack", "()V"⟩ yX7_takeBack ∈ lw_good := lw_mem (mt3 (List.mem_of_getElem? (i := 1) rfl)) rfl
theorem q3_2 : Cond.instanceMethod yX7_takeBack ∈ lw_good := lw_mem (mt3 (List.mem_of_getElem? (i := 2) rfl)) rfl
theorem q3_3 : Cond.code yX7_takeBack cX7_takeBack 1 none ∈ lw_good := lw_mem (mt3 (List.mem_of_getElem? (i := 3) rfl)) rfl
theorem q3_4 : Cond.methodLink RX7 35 yX8_clear ∈ lw_good := lw_mem (mt3 (List.mem_of_getElem? (i := 4) rfl)) rfl
theorem q3_5 : Cond.methodLink RX7 39 yX8_put ∈ lw_good := lw_mem (mt3 (List.mem_of_getElem? (i := 5) rfl)) rfl
theorem q3_6 : Cond.methodLink RL 52 yX10_alarm ∈ lw_good := lw_mem (mt3 (List.mem_of_getElem? (i := 6) rfl)) rfl
theorem q3_7 : Cond.instanceMethod yX10_alarm ∈ lw_good := lw_mem (mt3 (List.mem_of_getElem? (i := 7) rfl)) rfl
theorem q3_8 : Cond.selects RX10 yX10_alarm yX10_alarm ∈ lw_good := lw_mem (mt3 (List.mem_of_getElem? (i := 8) rfl)) rfl
theorem q3_9 : Cond.code yX10_alarm cX10_alarm 5 (some .int) ∈ lw_good := lw_mem (mt3 (List.mem_of_getElem? (i := 9) rfl)) rfl
theorem q3_10 : Cond.methodLink RL 56 yX10_ring ∈ lw_good := lw_mem (mt3 (List.mem_of_getElem? (i := 10) rfl)) rfl
theorem q3_11 : Cond.instanceMethod yX10_ring ∈ lw_good := lw_mem (mt3 (List.mem_of_getElem? (i := 11) rfl)) rfl
theorem q3_12 : Cond.selects RX10 yX10_ring yX10_ring ∈ lw_good := lw_mem (mt3 (List.mem_of_getElem? (i := 12) rfl)) rfl
theorem q3_13 : Cond.code yX10_ring cX10_ring 3 (some .int) ∈ lw_good := lw_mem (mt3 (List.mem_of_getElem? (i := 13) rfl)) rfl
theorem q3_14 : Cond.methodLink RX10 166 yX10_placesWhere ∈ lw_good := lw_mem (mt3 (List.mem_of_getElem? (i := 14) rfl)) rfl
theorem q3_16 : Cond.instanceMethod yX10_placesWhere ∈ lw_good := lw_mem (mt3 (List.mem_of_getElem? (i := 16) rfl)) rfl
theorem q3_17 : Cond.code yX10_placesWhere cX10_placesWhere 6 (some .int) ∈ lw_good := lw_mem (mt3 (List.mem_of_getElem? (i := 17) rfl)) rfl
theorem q3_18 : Cond.methodLink RX10 201 yX5_isSo ∈ lw_good := lw_mem (mt3 (List.mem_of_getElem? (i := 18) rfl)) rfl
theorem q3_19 : Cond.methodLink RX10 170 yX0_look ∈ lw_good := lw_mem (mt3 (List.mem_of_getElem? (i := 19) rfl)) rfl
theorem q3_20 : Cond.instanceMethod yX0_look ∈ lw_good := lw_mem (mt3 (List.mem_of_getElem? (i := 20) rfl)) rfl
theorem q3_21 : Cond.selects RX0 yX0_look yX0_look ∈ lw_good := lw_mem (mt3 (List.mem_of_getElem? (i := 21) rfl)) rfl
theorem q3_22 : Cond.code yX0_look cX0_look 2 none ∈ lw_good := lw_mem (mt3 (List.mem_of_getElem? (i := 22) rfl)) rfl
theorem q3_23 : Cond.methodLink RX10 176 yJ6_bitCount_0f7a4 ∈ lw_good := lw_mem (mt3 (List.mem_of_getElem? (i := 23) rfl)) rfl
theorem q3_24 : Cond.static yJ6_bitCount_0f7a4 ∈ lw_good := lw_mem (mt3 (List.mem_of_getElem? (i := 24) rfl)) rfl
theorem q3_25 : Cond.code yJ6_bitCount_0f7a4 cJ6_bitCount_0f7a4 1 (some .int) ∈ lw_good := lw_mem (mt3 (List.mem_of_getElem? (i := 25) rfl)) rfl
theorem q3_26 : Cond.constant RJ6 265 (1431655765 : Int32) ∈ lw_good := lw_mem (mt3 (List.mem_of_getElem? (i := 26) rfl)) rfl
theorem q3_27 : Cond.constant RJ6 266 (858993459 : Int32) ∈ lw_good := lw_mem (mt3 (List.mem_of_getElem? (i := 27) rfl)) rfl
theorem q3_28 : Cond.constant RJ6 267 (252645135 : Int32) ∈ lw_good := lw_mem (mt3 (List.mem_of_getElem? (i := 28) rfl)) rfl
theorem q3_29 : Cond.methodLink RL 60 yX10_reading ∈ lw_good := lw_mem (mt3 (List.mem_of_getElem? (i := 29) rfl)) rfl
theorem q3_30 : Cond.instanceMethod yX10_reading ∈ lw_good := lw_mem (mt3 (List.mem_of_getElem? (i := 30) rfl)) rfl
theorem q3_31 : Cond.selects RX10 yX10_reading yX10_reading ∈ lw_good := lw_mem (mt3 (List.mem_of_getElem? (i := 31) rfl)) rfl
theorem q3_32 : Cond.code yX10_reading cX10_reading 3 (some .double) ∈ lw_good := lw_mem (mt3 (List.mem_of_getElem? (i := 32) rfl)) rfl
theorem q3_33 : Cond.methodLink RX10 182 yX8_at ∈ lw_good := lw_mem (mt3 (List.mem_of_getElem? (i := 33) rfl)) rfl
theorem q3_34 : Cond.methodLink RL 65 yX10_isBlank ∈ lw_good := lw_mem (mt3 (List.mem_of_getElem? (i := 34) rfl)) rfl
theorem q3_35 : Cond.instanceMethod yX10_isBlank ∈ lw_good := lw_mem (mt3 (List.mem_of_getElem? (i := 35) rfl)) rfl
theorem q3_36 : Cond.selects RX10 yX10_isBlank yX10_isBlank ∈ lw_good := lw_mem (mt3 (List.mem_of_getElem? (i := 36) rfl)) rfl
theorem q3_37 : Cond.code yX10_isBlank cX10_isBlank 3 (some .boolean) ∈ lw_good := lw_mem (mt3 (List.mem_of_getElem? (i := 37) rfl)) rfl
theorem q3_38 : Cond.methodLink RX10 185 yX8_blankAt ∈ lw_good := lw_mem (mt3 (List.mem_of_getElem? (i := 38) rfl)) rfl
theorem q3_39 : Cond.methodLink RL 70 yX10_isMinus ∈ lw_good := lw_mem (mt3 (List.mem_of_getElem? (i := 39) rfl)) rfl
theorem q3_40 : Cond.instanceMethod yX10_isMinus ∈ lw_good := lw_mem (mt3 (List.mem_of_getElem? (i := 40) rfl)) rfl
theorem q3_41 : Cond.selects RX10 yX10_isMinus yX10_isMinus ∈ lw_good := lw_mem (mt3 (List.mem_of_getElem? (i := 41) rfl)) rfl
theorem q3_42 : Cond.code yX10_isMinus cX10_isMinus 3 (some .boolean) ∈ lw_good := lw_mem (mt3 (List.mem_of_getElem? (i := 42) rfl)) rfl
theorem q3_43 : Cond.methodLink RX10 188 yX6_hasMinus ∈ lw_good := lw_mem (mt3 (List.mem_of_getElem? (i := 43) rfl)) rfl
theorem q3_44 : Cond.methodLink RL 74 yX10_bits ∈ lw_good := lw_mem (mt3 (List.mem_of_getElem? (i := 44) rfl)) rfl
theorem q3_45 : Cond.instanceMethod yX10_bits ∈ lw_good := lw_mem (mt3 (List.mem_of_getElem? (i := 45) rfl)) rfl
theorem q3_46 : Cond.selects RX10 yX10_bits yX10_bits ∈ lw_good := lw_mem (mt3 (List.mem_of_getElem? (i := 46) rfl)) rfl
theorem q3_47 : Cond.code yX10_bits cX10_bits 3 (some .long) ∈ lw_good := lw_mem (mt3 (List.mem_of_getElem? (i := 47) rfl)) rfl
theorem q3_48 : Cond.methodLink RX10 192 yX1_of ∈ lw_good := lw_mem (mt3 (List.mem_of_getElem? (i := 48) rfl)) rfl
theorem q3_49 : Cond.static yX1_of ∈ lw_good := lw_mem (mt3 (List.mem_of_getElem? (i := 49) rfl)) rfl
theorem q3_50 : Cond.code yX1_of cX1_of 7 (some .long) ∈ lw_good := lw_mem (mt3 (List.mem_of_getElem? (i := 50) rfl)) rfl
theorem q3_51 : Cond.constantLong RX1 7 (-2147483648 : Int64) ∈ lw_good := lw_mem (mt3 (List.mem_of_getElem? (i := 51) rfl)) rfl
theorem q3_52 : Cond.constantLong RX1 9 (-9223372036854775808 : Int64) ∈ lw_good := lw_mem (mt3 (List.mem_of_getElem? (i := 52) rfl)) rfl
theorem q3_53 : Cond.methodLink RX1 11 yX6_isInfinite ∈ lw_good := lw_mem (mt3 (List.mem_of_getElem? (i := 53) rfl)) rfl
theorem q3_54 : Cond.methodLink RX1 17 yX1_ofInfinite ∈ lw_good := lw_mem (mt3 (List.mem_of_getElem? (i := 54) rfl)) rfl
theorem q3_55 : Cond.static yX1_ofInfinite ∈ lw_good := lw_mem (mt3 (List.mem_of_getElem? (i := 55) rfl)) rfl
theorem q3_56 : Cond.code yX1_ofInfinite cX1_ofInfinite 1 (some .long) ∈ lw_good := lw_mem (mt3 (List.mem_of_getElem? (i := 56) rfl)) rfl
theorem q3_57 : Cond.constantLong RX1 34 (2139095040 : Int64) ∈ lw_good := lw_mem (mt3 (List.mem_of_getElem? (i := 57) rfl)) rfl
theorem q3_58 : Cond.constantLong RX1 36 (9218868437227405312 : Int64) ∈ lw_good := lw_mem (mt3 (List.mem_of_getElem? (i := 58) rfl)) rfl
theorem q3_59 : Cond.methodLink RX1 23 yX6_withSign ∈ lw_good := lw_mem (mt3 (List.mem_of_getElem? (i := 59) rfl)) rfl
theorem q3_60 : Cond.methodLink RX1 27 yX1_behindSign ∈ lw_good := lw_mem (mt3 (List.mem_of_getElem? (i := 60) rfl)) rfl
theorem q3_61 : Cond.methodLink RX1 31 yX6_hasMinus ∈ lw_good := lw_mem (mt3 (List.mem_of_getElem? (i := 61) rfl)) rfl
theorem q3_62 : Cond.methodLink RL 79 yX10_compared ∈ lw_good := lw_mem (mt3 (List.mem_of_getElem? (i := 62) rfl)) rfl
theorem q3_63 : Cond.instanceMethod yX10_compared ∈ lw_good := lw_mem (mt3 (List.mem_of_getElem? (i := 63) rfl)) rfl
theorem q3_64 : Cond.selects RX10 yX10_compared yX10_compared ∈ lw_good := lw_mem (mt3 (List.mem_of_getElem? (i := 64) rfl)) rfl
theorem q3_65 : Cond.code yX10_compared cX10_compared 8 (some .int) ∈ lw_good := lw_mem (mt3 (List.mem_of_getElem? (i := 65) rfl)) rfl
theorem q3_66 : Cond.methodLink RL 83 yX10_alarmed ∈ lw_good := lw_mem (mt3 (List.mem_of_getElem? (i := 66) rfl)) rfl
theorem q3_67 : Cond.instanceMethod yX10_alarmed ∈ lw_good := lw_mem (mt3 (List.mem_of_getElem? (i := 67) rfl)) rfl
theorem q3_68 : Cond.selects RX10 yX10_alarmed yX10_alarmed ∈ lw_good := lw_mem (mt3 (List.mem_of_getElem? (i := 68) rfl)) rfl
theorem q3_69 : Cond.code yX10_alarmed cX10_alarmed 3 (some .int) ∈ lw_good := lw_mem (mt3 (List.mem_of_getElem? (i := 69) rfl)) rfl
theorem q3_70 : Cond.methodLink RX10 210 yX0_answer ∈ lw_good := lw_mem (mt3 (List.mem_of_getElem? (i := 70) rfl)) rfl
theorem q3_71 : Cond.instanceMethod yX0_answer ∈ lw_good := lw_mem (mt3 (List.mem_of_getElem? (i := 71) rfl)) rfl
theorem q3_72 : Cond.selects RX0 yX0_answer yX0_answer ∈ lw_good := lw_mem (mt3 (List.mem_of_getElem? (i := 72) rfl)) rfl
theorem q3_73 : Cond.code yX0_answer cX0_answer 2 (some .int) ∈ lw_good := lw_mem (mt3 (List.mem_of_getElem? (i := 73) rfl)) rfl
theorem q3_74 : Cond.methodLink RX0 31 yJ6_bitCount_0f7a4 ∈ lw_good := lw_mem (mt3 (List.mem_of_getElem? (i := 74) rfl)) rfl
theorem q3_75 : Cond.methodLink RX0 37 yX0_firstRang ∈ lw_good := lw_mem (mt3 (List.mem_of_getElem? (i := 75) rfl)) rfl
theorem q3_77 : Cond.instanceMethod yX0_firstRang ∈ lw_good := lw_mem (mt3 (List.mem_of_getElem? (i := 77) rfl)) rfl
theorem q3_78 : Cond.code yX0_firstRang cX0_firstRang 2 (some .int) ∈ lw_good := lw_mem (mt3 (List.mem_of_getElem? (i := 78) rfl)) rfl
theorem q3_79 : Cond.methodLink RL 87 yX10_told ∈ lw_good := lw_mem (mt3 (List.mem_of_getElem? (i := 79) rfl)) rfl
theorem q3_80 : Cond.instanceMethod yX10_told ∈ lw_good := lw_mem (mt3 (List.mem_of_getElem? (i := 80) rfl)) rfl
theorem q3_81 : Cond.selects RX10 yX10_told yX10_told ∈ lw_good := lw_mem (mt3 (List.mem_of_getElem? (i := 81) rfl)) rfl
theorem q3_82 : Cond.code yX10_told cX10_told 3 (some .int) ∈ lw_good := lw_mem (mt3 (List.mem_of_getElem? (i := 82) rfl)) rfl
theorem q3_83 : Cond.methodLink RX10 213 yX10_toldOfBook ∈ lw_good := lw_mem (mt3 (List.mem_of_getElem? (i := 83) rfl)) rfl
theorem q3_85 : Cond.instanceMethod yX10_toldOfBook ∈ lw_good := lw_mem (mt3 (List.mem_of_getElem? (i := 85) rfl)) rfl
theorem q3_86 : Cond.code yX10_toldOfBook cX10_toldOfBook 2 (some .int) ∈ lw_good := lw_mem (mt3 (List.mem_of_getElem? (i := 86) rfl)) rfl
theorem q3_87 : Cond.methodLink RX10 216 yX3_answer ∈ lw_good := lw_mem (mt3 (List.mem_of_getElem? (i := 87) rfl)) rfl
theorem q3_88 : Cond.instanceMethod yX3_answer ∈ lw_good := lw_mem (mt3 (List.mem_of_getElem? (i := 88) rfl)) rfl
theorem q3_89 : Cond.selects RX3 yX3_answer yX3_answer ∈ lw_good := lw_mem (mt3 (List.mem_of_getElem? (i := 89) rfl)) rfl
theorem q3_90 : Cond.code yX3_answer cX3_answer 2 (some .int) ∈ lw_good := lw_mem (mt3 (List.mem_of_getElem? (i := 90) rfl)) rfl
theorem q3_91 : Cond.methodLink RX3 41 yX3_hasFormula ∈ lw_good := lw_mem (mt3 (List.mem_of_getElem? (i := 91) rfl)) rfl
theorem q3_92 : Cond.methodLink RX3 45 yX8_countBlanks ∈ lw_good := lw_mem (mt3 (List.mem_of_getElem? (i := 92) rfl)) rfl
theorem q3_93 : Cond.instanceMethod yX8_countBlanks ∈ lw_good := lw_mem (mt3 (List.mem_of_getElem? (i := 93) rfl)) rfl
theorem q3_94 : Cond.selects RX8 yX8_countBlanks yX8_countBlanks ∈ lw_good := lw_mem (mt3 (List.mem_of_getElem? (i := 94) rfl)) rfl
theorem q3_95 : Cond.code yX8_countBlanks cX8_countBlanks 6 (some .int) ∈ lw_good := lw_mem (mt3 (List.mem_of_getElem? (i := 95) rfl)) rfl
theorem q3_96 : Cond.classLink RL 10 RX11 ∈ lw_good := lw_mem (mt3 (List.mem_of_getElem? (i := 96) rfl)) rfl
theorem q3_97 : Cond.instantiable RX11 19 ∈ lw_good := lw_mem (mt3 (List.mem_of_getElem? (i := 97) rfl)) rfl
theorem q3_98 : Cond.methodLink RL 12 yX11_init ∈ lw_good := lw_mem (mt3 (List.mem_of_getElem? (i := 98) rfl)) rfl
theorem q3_99 : Cond.instanceMethod yX11_init ∈ lw_good := lw_mem (mt3 (List.mem_of_getElem? (i := 99) rfl)) rfl
theorem q3_100 : Cond.code yX11_init cX11_init 2 none ∈ lw_good := lw_mem (mt3 (List.mem_of_getElem? (i := 100) rfl)) rfl
theorem q3_101 : Cond.methodLink RX11 3 objectInit ∈ lw_good := lw_mem (mt3 (List.mem_of_getElem? (i := 101) rfl)) rfl
theorem q3_102 : Cond.constant RX11 32 (102400 : Int32) ∈ lw_good := lw_mem (mt3 (List.mem_of_getElem? (i := 102) rfl)) rfl
theorem q3_103 : Cond.fieldLink RX11 9 "TideBookModel" "told" "[D" ∈ lw_good := lw_mem (mt3 (List.mem_of_getElem? (i := 103) rfl)) rfl
theorem q3_104 : Cond.fieldLink RX11 15 "TideBookModel" "blank" "[Z" ∈ lw_good := lw_mem (mt3 (List.mem_of_getElem? (i := 104) rfl)) rfl
theorem q3_105 : Cond.fieldLink RX11 19 "TideBookModel" "narrow" "[Z" ∈ lw_good := lw_mem (mt3 (List.mem_of_getElem? (i := 105) rfl)) rfl
theorem q3_106 : Cond.fieldLink RX11 22 "TideBookModel" "made" "[I" ∈ lw_good := lw_mem (mt3 (List.mem_of_getElem? (i := 106) rfl)) rfl
theorem q3_107 : Cond.fieldLink RX11 26 "TideBookModel" "now" "[D" ∈ lw_good := lw_mem (mt3 (List.mem_of_getElem? (i := 107) rfl)) rfl
theorem q3_108 : Cond.fieldLink RX11 29 "TideBookModel" "none" "[Z" ∈ lw_good := lw_mem (mt3 (List.mem_of_getElem? (i := 108) rfl)) rfl
theorem q3_109 : Cond.fieldLink RX11 33 "TideBookModel" "toldThen" "[D" ∈ lw_good := lw_mem (mt3 (List.mem_of_getElem? (i := 109) rfl)) rfl
theorem q3_110 : Cond.fieldLink RX11 36 "TideBookModel" "blankThen" "[Z" ∈ lw_good := lw_mem (mt3 (List.mem_of_getElem? (i := 110) rfl)) rfl
theorem q3_111 : Cond.fieldLink RX11 39 "TideBookModel" "narrowThen" "[Z" ∈ lw_good := lw_mem (mt3 (List.mem_of_getElem? (i := 111) rfl)) rfl
theorem q3_112 : Cond.fieldLink RX11 42 "TideBookModel" "madeThen" "[I" ∈ lw_good := lw_mem (mt3 (List.mem_of_getElem? (i := 112) rfl)) rfl
theorem q3_113 : Cond.fieldLink RX11 187 "TideBookModel" "changes" "I" ∈ lw_good := lw_mem (mt3 (List.mem_of_getElem? (i := 113) rfl)) rfl
theorem q3_114 : Cond.fieldLink RX11 45 "TideBookModel" "alarms" "[I" ∈ lw_good := lw_mem (mt3 (List.mem_of_getElem? (i := 114) rfl)) rfl
theorem q3_115 : Cond.fieldLink RX11 48 "TideBookModel" "held" "[I" ∈ lw_good := lw_mem (mt3 (List.mem_of_getElem? (i := 115) rfl)) rfl
theorem q3_116 : Cond.fieldLink RX11 51 "TideBookModel" "rang" "[I" ∈ lw_good := lw_mem (mt3 (List.mem_of_getElem? (i := 116) rfl)) rfl
theorem q3_117 : Cond.fieldLink RX11 54 "TideBookModel" "looked" "[Z" ∈ lw_good := lw_mem (mt3 (List.mem_of_getElem? (i := 117) rfl)) rfl
theorem q3_118 : Cond.fieldLink RX11 229 "TideBookModel" "alarmMany" "I" ∈ lw_good := lw_mem (mt3 (List.mem_of_getElem? (i := 118) rfl)) rfl
theorem q3_119 : Cond.fieldLink RX11 239 "TideBookModel" "rings" "I" ∈ lw_good := lw_mem (mt3 (List.mem_of_getElem? (i := 119) rfl)) rfl
theorem q3_120 : Cond.fieldLink RX11 86 "TideBookModel" "worth" "D" ∈ lw_good := lw_mem (mt3 (List.mem_of_getElem? (i := 120) rfl)) rfl
theorem q3_121 : Cond.fieldLink RX11 90 "TideBookModel" "isNone" "Z" ∈ lw_good := lw_mem (mt3 (List.mem_of_getElem? (i := 121) rfl)) rfl
theorem q3_122 : Cond.laysFinal RX11 "TideBookModel" "told" "[D" ∈ lw_good := lw_mem (mt3 (List.mem_of_getElem? (i := 122) rfl)) rfl
theorem q3_124 : Cond.laysFinal RX11 "TideBookModel" "blank" "[Z" ∈ lw_good := lw_mem (mt3 (List.mem_of_getElem? (i := 124) rfl)) rfl
theorem q3_126 : Cond.laysFinal RX11 "TideBookModel" "narrow" "[Z" ∈ lw_good := lw_mem (mt3 (List.mem_of_getElem? (i := 126) rfl)) rfl
theorem q3_128 : Cond.laysFinal RX11 "TideBookModel" "made" "[I" ∈ lw_good := lw_mem (mt3 (List.mem_of_getElem? (i := 128) rfl)) rfl
theorem q3_130 : Cond.laysFinal RX11 "TideBookModel" "now" "[D" ∈ lw_good := lw_mem (mt3 (List.mem_of_getElem? (i := 130) rfl)) rfl
theorem q3_132 : Cond.laysFinal RX11 "TideBookModel" "none" "[Z" ∈ lw_good := lw_mem (mt3 (List.mem_of_getElem? (i := 132) rfl)) rfl
theorem q3_134 : Cond.laysFinal RX11 "TideBookModel" "toldThen" "[D" ∈ lw_good := lw_mem (mt3 (List.mem_of_getElem? (i := 134) rfl)) rfl
theorem q3_136 : Cond.laysFinal RX11 "TideBookModel" "blankThen" "[Z" ∈ lw_good := lw_mem (mt3 (List.mem_of_getElem? (i := 136) rfl)) rfl
theorem q3_138 : Cond.laysFinal RX11 "TideBookModel" "narrowThen" "[Z" ∈ lw_good := lw_mem (mt3 (List.mem_of_getElem? (i := 138) rfl)) rfl
theorem q3_140 : Cond.laysFinal RX11 "TideBookModel" "madeThen" "[I" ∈ lw_good := lw_mem (mt3 (List.mem_of_getElem? (i := 140) rfl)) rfl
theorem q3_142 : Cond.lays RX11 "TideBookModel" "changes" "I" ∈ lw_good := lw_mem (mt3 (List.mem_of_getElem? (i := 142) rfl)) rfl
theorem q3_144 : Cond.laysFinal RX11 "TideBookModel" "alarms" "[I" ∈ lw_good := lw_mem (mt3 (List.mem_of_getElem? (i := 144) rfl)) rfl
theorem q3_146 : Cond.laysFinal RX11 "TideBookModel" "held" "[I" ∈ lw_good := lw_mem (mt3 (List.mem_of_getElem? (i := 146) rfl)) rfl
theorem q3_148 : Cond.laysFinal RX11 "TideBookModel" "rang" "[I" ∈ lw_good := lw_mem (mt3 (List.mem_of_getElem? (i := 148) rfl)) rfl
theorem q3_150 : Cond.laysFinal RX11 "TideBookModel" "looked" "[Z" ∈ lw_good := lw_mem (mt3 (List.mem_of_getElem? (i := 150) rfl)) rfl
theorem q3_152 : Cond.lays RX11 "TideBookModel" "alarmMany" "I" ∈ lw_good := lw_mem (mt3 (List.mem_of_getElem? (i := 152) rfl)) rfl
theorem q3_154 : Cond.lays RX11 "TideBookModel" "rings" "I" ∈ lw_good := lw_mem (mt3 (List.mem_of_getElem? (i := 154) rfl)) rfl
theorem q3_156 : Cond.lays RX11 "TideBookModel" "worth" "D" ∈ lw_good := lw_mem (mt3 (List.mem_of_getElem? (i := 156) rfl)) rfl
theorem q3_158 : Cond.lays RX11 "TideBookModel" "isNone" "Z" ∈ lw_good := lw_mem (mt3 (List.mem_of_getElem? (i := 158) rfl)) rfl
theorem q3_160 : Cond.superclass RX11 "java/lang/Object" ∈ lw_good := lw_mem (mt3 (List.mem_of_getElem? (i := 160) rfl)) rfl
theorem q3_161 : Cond.arrayClass .int ∈ lw_good := lw_mem (mt3 (List.mem_of_getElem? (i := 161) rfl)) rfl
theorem q3_162 : Cond.methodLink RL 51 yX11_back ∈ lw_good := lw_mem (mt3 (List.mem_of_getElem? (i := 162) rfl)) rfl
theorem q3_163 : Cond.instanceMethod yX11_back ∈ lw_good := lw_mem (mt3 (List.mem_of_getElem? (i := 163) rfl)) rfl
theorem q3_164 : Cond.selects RX11 yX11_back yX11_back ∈ lw_good := lw_mem (mt3 (List.mem_of_getElem? (i := 164) rfl)) rfl
theorem q3_165 : Cond.code yX11_back cX11_back 2 (some .int) ∈ lw_good := lw_mem (mt3 (List.mem_of_getElem? (i := 165) rfl)) rfl
theorem q3_166 : Cond.methodLink RL 17 yX11_set ∈ lw_good := lw_mem (mt3 (List.mem_of_getElem? (i := 166) rfl)) rfl
theorem q3_167 : Cond.instanceMethod yX11_set ∈ lw_good := lw_mem (mt3 (List.mem_of_getElem? (i := 167) rfl)) rfl
theorem q3_168 : Cond.selects RX11 yX11_set yX11_set ∈ lw_good := lw_mem (mt3 (List.mem_of_getElem? (i := 168) rfl)) rfl
theorem q3_169 : Cond.code yX11_set cX11_set 5 (some .int) ∈ lw_good := lw_mem (mt3 (List.mem_of_getElem? (i := 169) rfl)) rfl
theorem q3_170 : Cond.methodLink RX11 209 yX11_canSet ∈ lw_good := lw_mem (mt3 (List.mem_of_getElem? (i := 170) rfl)) rfl
theorem q3_172 : Cond.instanceMethod yX11_canSet ∈ lw_good := lw_mem (mt3 (List.mem_of_getElem? (i := 172) rfl)) rfl
theorem q3_173 : Cond.code yX11_canSet cX11_canSet 3 (some .boolean) ∈ lw_good := lw_mem (mt3 (List.mem_of_getElem? (i := 173) rfl)) rfl
theorem q3_174 : Cond.methodLink RX11 191 yX11_isIn ∈ lw_good := lw_mem (mt3 (List.mem_of_getElem? (i := 174) rfl)) rfl
theorem q3_175 : Cond.static yX11_isIn ∈ lw_good := lw_mem (mt3 (List.mem_of_getElem? (i := 175) rfl)) rfl
theorem q3_176 : Cond.code yX11_isIn cX11_isIn 3 (some .boolean) ∈ lw_good := lw_mem (mt3 (List.mem_of_getElem? (i := 176) rfl)) rfl
theorem q3_177 : Cond.methodLink RX11 212 yX11_picture ∈ lw_good := lw_mem (mt3 (List.mem_of_getElem? (i := 177) rfl)) rfl
theorem q3_179 : Cond.instanceMethod yX11_picture ∈ lw_good := lw_mem (mt3 (List.mem_of_getElem? (i := 179) rfl)) rfl
theorem q3_180 : Cond.code yX11_picture cX11_picture 2 none ∈ lw_good := lw_mem (mt3 (List.mem_of_getElem? (i := 180) rfl)) rfl
theorem q3_181 : Cond.methodLink RX11 215 yX11_power ∈ lw_good := lw_mem (mt3 (List.mem_of_getElem? (i := 181) rfl)) rfl
theorem q3_182 : Cond.static yX11_power ∈ lw_good := lw_mem (mt3 (List.mem_of_getElem? (i := 182) rfl)) rfl
theorem q3_183 : Cond.code yX11_power cX11_power 5 (some .double) ∈ lw_good := lw_mem (mt3 (List.mem_of_getElem? (i := 183) rfl)) rfl
theorem q3_184 : Cond.constantDouble RX11 84 (4611686018427387904 : UInt64) ∈ lw_good := lw_mem (mt3 (List.mem_of_getElem? (i := 184) rfl)) rfl
theorem q3_185 : Cond.methodLink RX11 132 yX11_brought ∈ lw_good := lw_mem (mt3 (List.mem_of_getElem? (i := 185) rfl)) rfl
theorem q3_186 : Cond.static yX11_brought ∈ lw_good := lw_mem (mt3 (List.mem_of_getElem? (i := 186) rfl)) rfl
theorem q3_187 : Cond.code yX11_brought cX11_brought 3 (some .double) ∈ lw_good := lw_mem (mt3 (List.mem_of_getElem? (i := 187) rfl)) rfl
theorem q3_188 : Cond.methodLink RX11 195 yX11_put ∈ lw_good := lw_mem (mt3 (List.mem_of_getElem? (i := 188) rfl)) rfl
theorem q3_190 : Cond.instanceMethod yX11_put ∈ lw_good := lw_mem (mt3 (List.mem_of_getElem? (i := 190) rfl)) rfl
theorem q3_191 : Cond.code yX11_put cX11_put 4 none ∈ lw_good := lw_mem (mt3 (List.mem_of_getElem? (i := 191) rfl)) rfl
theorem q3_192 : Cond.methodLink RX11 218 yX11_changed ∈ lw_good := lw_mem (mt3 (List.mem_of_getElem? (i := 192) rfl)) rfl
theorem q3_194 : Cond.instanceMethod yX11_changed ∈ lw_good := lw_mem (mt3 (List.mem_of_getElem? (i := 194) rfl)) rfl
theorem q3_195 : Cond.code yX11_changed cX11_changed 1 (some .int) ∈ lw_good := lw_mem (mt3 (List.mem_of_getElem? (i := 195) rfl)) rfl
theorem q3_196 : Cond.methodLink RL 22 yX11_special ∈ lw_good := lw_mem (mt3 (List.mem_of_getElem? (i := 196) rfl)) rfl
theorem q3_197 : Cond.instanceMethod yX11_special ∈ lw_good := lw_mem (mt3 (List.mem_of_getElem? (i := 197) rfl)) rfl
theorem q3_198 : Cond.selects RX11 yX11_special yX11_special ∈ lw_good := lw_mem (mt3 (List.mem_of_getElem? (i := 198) rfl)) rfl
theorem q3_199 : Cond.code yX11_special cX11_special 4 (some .int) ∈ lw_good := lw_mem (mt3 (List.mem_of_getElem? (i := 199) rfl)) rfl
theorem q3_200 : Cond.methodLink RX11 222 yX11_putSpecial ∈ lw_good := lw_mem (mt3 (List.mem_of_getElem? (i := 200) rfl)) rfl
theorem q3_202 : Cond.instanceMethod yX11_putSpecial ∈ lw_good := lw_mem (mt3 (List.mem_of_getElem? (i := 202) rfl)) rfl
theorem q3_203 : Cond.code yX11_putSpecial cX11_putSpecial 4 none ∈ lw_good := lw_mem (mt3 (List.mem_of_getElem? (i := 203) rfl)) rfl
theorem q3_204 : Cond.constantDouble RX11 57 (9218868437227405312 : UInt64) ∈ lw_good := lw_mem (mt3 (List.mem_of_getElem? (i := 204) rfl)) rfl
theorem q3_205 : Cond.constantDouble RX11 59 (18442240474082181120 : UInt64) ∈ lw_good := lw_mem (mt3 (List.mem_of_getElem? (i := 205) rfl)) rfl
theorem q3_206 : Cond.constantDouble RX11 65 (9223372036854775808 : UInt64) ∈ lw_good := lw_mem (mt3 (List.mem_of_getElem? (i := 206) rfl)) rfl
theorem q3_207 : Cond.constantDouble RX11 201 (5183643170566569984 : UInt64) ∈ lw_good := lw_mem (mt3 (List.mem_of_getElem? (i := 207) rfl)) rfl
theorem q3_208 : Cond.constantDouble RX11 203 (9218868437227405311 : UInt64) ∈ lw_good := lw_mem (mt3 (List.mem_of_getElem? (i := 208) rfl)) rfl
theorem q3_209 : Cond.constantDouble RX11 205 (3936146074321813504 : UInt64) ∈ lw_good := lw_mem (mt3 (List.mem_of_getElem? (i := 209) rfl)) rfl
theorem q3_210 : Cond.constantDouble RX11 207 (1 : UInt64) ∈ lw_good := lw_mem (mt3 (List.mem_of_getElem? (i := 210) rfl)) rfl
theorem q3_211 : Cond.methodLink RL 26 yX11_constant ∈ lw_good := lw_mem (mt3 (List.mem_of_getElem? (i := 211) rfl)) rfl
theorem q3_212 : Cond.instanceMethod yX11_constant ∈ lw_good := lw_mem (mt3 (List.mem_of_getElem? (i := 212) rfl)) rfl
theorem q3_213 : Cond.selects RX11 yX11_constant yX11_constant ∈ lw_good := lw_mem (mt3 (List.mem_of_getElem? (i := 213) rfl)) rfl
theorem q3_214 : Cond.code yX11_constant cX11_constant 4 (some .int) ∈ lw_good := lw_mem (mt3 (List.mem_of_getElem? (i := 214) rfl)) rfl
theorem q3_215 : Cond.methodLink RL 31 yX11_constantSpecial ∈ lw_good := lw_mem (mt3 (List.mem_of_getElem? (i := 215) rfl)) rfl
theorem q3_216 : Cond.instanceMethod yX11_constantSpecial ∈ lw_good := lw_mem (mt3 (List.mem_of_getElem? (i := 216) rfl)) rfl
theorem q3_217 : Cond.selects RX11 yX11_constantSpecial yX11_constantSpecial ∈ lw_good := lw_mem (mt3 (List.mem_of_getElem? (i := 217) rfl)) rfl
theorem q3_218 : Cond.code yX11_constantSpecial cX11_constantSpecial 3 (some .int) ∈ lw_good := lw_mem (mt3 (List.mem_of_getElem? (i := 218) rfl)) rfl
theorem q3_219 : Cond.methodLink RL 36 yX11_formula ∈ lw_good := lw_mem (mt3 (List.mem_of_getElem? (i := 219) rfl)) rfl
theorem q3_220 : Cond.instanceMethod yX11_formula ∈ lw_good := lw_mem (mt3 (List.mem_of_getElem? (i := 220) rfl)) rfl
theorem q3_221 : Cond.selects RX11 yX11_formula yX11_formula ∈ lw_good := lw_mem (mt3 (List.mem_of_getElem? (i := 221) rfl)) rfl
theorem q3_222 : Cond.code yX11_formula cX11_formula 7 (some .int) ∈ lw_good := lw_mem (mt3 (List.mem_of_getElem? (i := 222) rfl)) rfl
theorem q3_223 : Cond.methodLink RL 41 yX11_input ∈ lw_good := lw_mem (mt3 (List.mem_of_getElem? (i := 223) rfl)) rfl
theorem q3_224 : Cond.instanceMethod yX11_input ∈ lw_good := lw_mem (mt3 (List.mem_of_getElem? (i := 224) rfl)) rfl
theorem q3_225 : Cond.selects RX11 yX11_input yX11_input ∈ lw_good := lw_mem (mt3 (List.mem_of_getElem? (i := 225) rfl)) rfl
theorem q3_226 : Cond.code yX11_input cX11_input 3 (some .int) ∈ lw_good := lw_mem (mt3 (List.mem_of_getElem? (i := 226) rfl)) rfl
theorem q3_227 : Cond.methodLink RX11 226 yX11_reckonAll ∈ lw_good := lw_mem (mt3 (List.mem_of_getElem? (i := 227) rfl)) rfl
theorem q3_229 : Cond.instanceMethod yX11_reckonAll ∈ lw_good := lw_mem (mt3 (List.mem_of_getElem? (i := 229) rfl)) rfl
theorem q3_230 : Cond.code yX11_reckonAll cX11_reckonAll 4 none ∈ lw_good := lw_mem (mt3 (List.mem_of_getElem? (i := 230) rfl)) rfl
theorem q3_231 : Cond.methodLink RX11 183 yX11_reckon ∈ lw_good := lw_mem (mt3 (List.mem_of_getElem? (i := 231) rfl)) rfl
theorem q3_233 : Cond.instanceMethod yX11_reckon ∈ lw_good := lw_mem (mt3 (List.mem_of_getElem? (i := 233) rfl)) rfl
theorem q3_234 : Cond.code yX11_reckon cX11_reckon 6 none ∈ lw_good := lw_mem (mt3 (List.mem_of_getElem? (i := 234) rfl)) rfl
theorem q3_235 : Cond.methodLink RX11 140 yX11_noX ∈ lw_good := lw_mem (mt3 (List.mem_of_getElem? (i := 235) rfl)) rfl
theorem q3_237 : Cond.instanceMethod yX11_noX ∈ lw_good := lw_mem (mt3 (List.mem_of_getElem? (i := 237) rfl)) rfl
theorem q3_238 : Cond.code yX11_noX cX11_noX 3 (some .boolean) ∈ lw_good := lw_mem (mt3 (List.mem_of_getElem? (i := 238) rfl)) rfl
theorem q3_239 : Cond.methodLink RX11 128 yX11_at ∈ lw_good := lw_mem (mt3 (List.mem_of_getElem? (i := 239) rfl)) rfl
theorem q4_0 : Cond.static yX11_at ∈ lw_good := lw_mem (mt4 (List.mem_of_getElem? (i := 0) rfl)) rfl
theorem q4_1 : Cond.code yX11_at cX11_at 2 (some .int) ∈ lw_good := lw_mem (mt4 (List.mem_of_getElem? (i := 1) rfl)) rfl
theorem q4_2 : Cond.methodLink RX11 147 yX11_noY ∈ lw_good := lw_mem (mt4 (List.mem_of_getElem? (i := 2) rfl)) rfl
theorem q4_4 : Cond.instanceMethod yX11_noY ∈ lw_good := lw_mem (mt4 (List.mem_of_getElem? (i := 4) rfl)) rfl
theorem q4_5 : Cond.code yX11_noY cX11_noY 3 (some .boolean) ∈ lw_good := lw_mem (mt4 (List.mem_of_getElem? (i := 5) rfl)) rfl
theorem q4_6 : Cond.methodLink RX11 114 yX11_givesNothing ∈ lw_good := lw_mem (mt4 (List.mem_of_getElem? (i := 6) rfl)) rfl
theorem q4_8 : Cond.instanceMethod yX11_givesNothing ∈ lw_good := lw_mem (mt4 (List.mem_of_getElem? (i := 8) rfl)) rfl
theorem q4_9 : Cond.code yX11_givesNothing cX11_givesNothing 1 none ∈ lw_good := lw_mem (mt4 (List.mem_of_getElem? (i := 9) rfl)) rfl
theorem q4_10 : Cond.methodLink RX11 136 yX11_x ∈ lw_good := lw_mem (mt4 (List.mem_of_getElem? (i := 10) rfl)) rfl
theorem q4_12 : Cond.instanceMethod yX11_x ∈ lw_good := lw_mem (mt4 (List.mem_of_getElem? (i := 12) rfl)) rfl
theorem q4_13 : Cond.code yX11_x cX11_x 3 (some .double) ∈ lw_good := lw_mem (mt4 (List.mem_of_getElem? (i := 13) rfl)) rfl
theorem q4_14 : Cond.methodLink RX11 161 yX11_single ∈ lw_good := lw_mem (mt4 (List.mem_of_getElem? (i := 14) rfl)) rfl
theorem q4_16 : Cond.instanceMethod yX11_single ∈ lw_good := lw_mem (mt4 (List.mem_of_getElem? (i := 16) rfl)) rfl
theorem q4_17 : Cond.code yX11_single cX11_single 5 none ∈ lw_good := lw_mem (mt4 (List.mem_of_getElem? (i := 17) rfl)) rfl
theorem q4_18 : Cond.methodLink RX11 94 yX11_gives ∈ lw_good := lw_mem (mt4 (List.mem_of_getElem? (i := 18) rfl)) rfl
theorem q4_20 : Cond.instanceMethod yX11_gives ∈ lw_good := lw_mem (mt4 (List.mem_of_getElem? (i := 20) rfl)) rfl
theorem q4_21 : Cond.code yX11_gives cX11_gives 3 none ∈ lw_good := lw_mem (mt4 (List.mem_of_getElem? (i := 21) rfl)) rfl
theorem q4_22 : Cond.methodLink RX11 67 yX11_hasMinus ∈ lw_good := lw_mem (mt4 (List.mem_of_getElem? (i := 22) rfl)) rfl
theorem q4_23 : Cond.static yX11_hasMinus ∈ lw_good := lw_mem (mt4 (List.mem_of_getElem? (i := 23) rfl)) rfl
theorem q4_24 : Cond.code yX11_hasMinus cX11_hasMinus 2 (some .boolean) ∈ lw_good := lw_mem (mt4 (List.mem_of_getElem? (i := 24) rfl)) rfl
theorem q4_25 : Cond.methodLink RX11 61 yX11_isZero ∈ lw_good := lw_mem (mt4 (List.mem_of_getElem? (i := 25) rfl)) rfl
theorem q4_26 : Cond.static yX11_isZero ∈ lw_good := lw_mem (mt4 (List.mem_of_getElem? (i := 26) rfl)) rfl
theorem q4_27 : Cond.code yX11_isZero cX11_isZero 2 (some .boolean) ∈ lw_good := lw_mem (mt4 (List.mem_of_getElem? (i := 27) rfl)) rfl
theorem q4_28 : Cond.methodLink RX11 98 yX11_whole ∈ lw_good := lw_mem (mt4 (List.mem_of_getElem? (i := 28) rfl)) rfl
theorem q4_29 : Cond.static yX11_whole ∈ lw_good := lw_mem (mt4 (List.mem_of_getElem? (i := 29) rfl)) rfl
theorem q4_30 : Cond.code yX11_whole cX11_whole 8 (some .double) ∈ lw_good := lw_mem (mt4 (List.mem_of_getElem? (i := 30) rfl)) rfl
theorem q4_31 : Cond.constantDouble RX11 70 (4841369599423283200 : UInt64) ∈ lw_good := lw_mem (mt4 (List.mem_of_getElem? (i := 31) rfl)) rfl
theorem q4_32 : Cond.constantDouble RX11 72 (14064741636278059008 : UInt64) ∈ lw_good := lw_mem (mt4 (List.mem_of_getElem? (i := 32) rfl)) rfl
theorem q4_33 : Cond.constantDouble RX11 74 (4602678819172646912 : UInt64) ∈ lw_good := lw_mem (mt4 (List.mem_of_getElem? (i := 33) rfl)) rfl
theorem q4_34 : Cond.constantDouble RX11 76 (13826050856027422720 : UInt64) ∈ lw_good := lw_mem (mt4 (List.mem_of_getElem? (i := 34) rfl)) rfl
theorem q4_35 : Cond.constantLong RX11 78 (-1 : Int64) ∈ lw_good := lw_mem (mt4 (List.mem_of_getElem? (i := 35) rfl)) rfl
theorem q4_36 : Cond.methodLink RX11 80 yX11_zero ∈ lw_good := lw_mem (mt4 (List.mem_of_getElem? (i := 36) rfl)) rfl
theorem q4_37 : Cond.static yX11_zero ∈ lw_good := lw_mem (mt4 (List.mem_of_getElem? (i := 37) rfl)) rfl
theorem q4_38 : Cond.code yX11_zero cX11_zero 1 (some .double) ∈ lw_good := lw_mem (mt4 (List.mem_of_getElem? (i := 38) rfl)) rfl
theorem q4_39 : Cond.constantDouble RX11 102 (13830554455654793216 : UInt64) ∈ lw_good := lw_mem (mt4 (List.mem_of_getElem? (i := 39) rfl)) rfl
theorem q4_40 : Cond.methodLink RX11 104 yX11_quotient ∈ lw_good := lw_mem (mt4 (List.mem_of_getElem? (i := 40) rfl)) rfl
theorem q4_41 : Cond.static yX11_quotient ∈ lw_good := lw_mem (mt4 (List.mem_of_getElem? (i := 41) rfl)) rfl
theorem q4_42 : Cond.code yX11_quotient cX11_quotient 5 (some .double) ∈ lw_good := lw_mem (mt4 (List.mem_of_getElem? (i := 42) rfl)) rfl
theorem q4_43 : Cond.methodLink RX11 108 yX11_product ∈ lw_good := lw_mem (mt4 (List.mem_of_getElem? (i := 43) rfl)) rfl
theorem q4_44 : Cond.static yX11_product ∈ lw_good := lw_mem (mt4 (List.mem_of_getElem? (i := 44) rfl)) rfl
theorem q4_45 : Cond.code yX11_product cX11_product 5 (some .double) ∈ lw_good := lw_mem (mt4 (List.mem_of_getElem? (i := 45) rfl)) rfl
theorem q4_46 : Cond.methodLink RX11 144 yX11_y ∈ lw_good := lw_mem (mt4 (List.mem_of_getElem? (i := 46) rfl)) rfl
theorem q4_48 : Cond.instanceMethod yX11_y ∈ lw_good := lw_mem (mt4 (List.mem_of_getElem? (i := 48) rfl)) rfl
theorem q4_49 : Cond.code yX11_y cX11_y 3 (some .double) ∈ lw_good := lw_mem (mt4 (List.mem_of_getElem? (i := 49) rfl)) rfl
theorem q4_50 : Cond.methodLink RX11 165 yX11_both ∈ lw_good := lw_mem (mt4 (List.mem_of_getElem? (i := 50) rfl)) rfl
theorem q4_52 : Cond.instanceMethod yX11_both ∈ lw_good := lw_mem (mt4 (List.mem_of_getElem? (i := 52) rfl)) rfl
theorem q4_53 : Cond.code yX11_both cX11_both 8 none ∈ lw_good := lw_mem (mt4 (List.mem_of_getElem? (i := 53) rfl)) rfl
theorem q4_54 : Cond.methodLink RX11 111 yX11_isInfinite ∈ lw_good := lw_mem (mt4 (List.mem_of_getElem? (i := 54) rfl)) rfl
theorem q4_55 : Cond.static yX11_isInfinite ∈ lw_good := lw_mem (mt4 (List.mem_of_getElem? (i := 55) rfl)) rfl
theorem q4_56 : Cond.code yX11_isInfinite cX11_isInfinite 2 (some .boolean) ∈ lw_good := lw_mem (mt4 (List.mem_of_getElem? (i := 56) rfl)) rfl
theorem q4_57 : Cond.methodLink RX11 117 yX11_sum ∈ lw_good := lw_mem (mt4 (List.mem_of_getElem? (i := 57) rfl)) rfl
theorem q4_58 : Cond.static yX11_sum ∈ lw_good := lw_mem (mt4 (List.mem_of_getElem? (i := 58) rfl)) rfl
theorem q4_59 : Cond.code yX11_sum cX11_sum 5 (some .double) ∈ lw_good := lw_mem (mt4 (List.mem_of_getElem? (i := 59) rfl)) rfl
theorem q4_60 : Cond.methodLink RX11 120 yX11_difference ∈ lw_good := lw_mem (mt4 (List.mem_of_getElem? (i := 60) rfl)) rfl
theorem q4_62 : Cond.instanceMethod yX11_difference ∈ lw_good := lw_mem (mt4 (List.mem_of_getElem? (i := 62) rfl)) rfl
theorem q4_63 : Cond.code yX11_difference cX11_difference 6 none ∈ lw_good := lw_mem (mt4 (List.mem_of_getElem? (i := 63) rfl)) rfl
theorem q4_64 : Cond.methodLink RX11 124 yX11_isLower ∈ lw_good := lw_mem (mt4 (List.mem_of_getElem? (i := 64) rfl)) rfl
theorem q4_65 : Cond.static yX11_isLower ∈ lw_good := lw_mem (mt4 (List.mem_of_getElem? (i := 65) rfl)) rfl
theorem q4_66 : Cond.code yX11_isLower cX11_isLower 4 (some .boolean) ∈ lw_good := lw_mem (mt4 (List.mem_of_getElem? (i := 66) rfl)) rfl
theorem q4_67 : Cond.methodLink RX11 158 yX11_compares ∈ lw_good := lw_mem (mt4 (List.mem_of_getElem? (i := 67) rfl)) rfl
theorem q4_69 : Cond.instanceMethod yX11_compares ∈ lw_good := lw_mem (mt4 (List.mem_of_getElem? (i := 69) rfl)) rfl
theorem q4_70 : Cond.code yX11_compares cX11_compares 3 (some .boolean) ∈ lw_good := lw_mem (mt4 (List.mem_of_getElem? (i := 70) rfl)) rfl
theorem q4_71 : Cond.methodLink RX11 150 yX11_isSo ∈ lw_good := lw_mem (mt4 (List.mem_of_getElem? (i := 71) rfl)) rfl
theorem q4_72 : Cond.static yX11_isSo ∈ lw_good := lw_mem (mt4 (List.mem_of_getElem? (i := 72) rfl)) rfl
theorem q4_73 : Cond.code yX11_isSo cX11_isSo 9 (some .boolean) ∈ lw_good := lw_mem (mt4 (List.mem_of_getElem? (i := 73) rfl)) rfl
theorem q4_74 : Cond.methodLink RX11 169 yX11_manyX ∈ lw_good := lw_mem (mt4 (List.mem_of_getElem? (i := 74) rfl)) rfl
theorem q4_76 : Cond.instanceMethod yX11_manyX ∈ lw_good := lw_mem (mt4 (List.mem_of_getElem? (i := 76) rfl)) rfl
theorem q4_77 : Cond.code yX11_manyX cX11_manyX 6 (some .int) ∈ lw_good := lw_mem (mt4 (List.mem_of_getElem? (i := 77) rfl)) rfl
theorem q4_78 : Cond.methodLink RX11 173 yX11_ranked ∈ lw_good := lw_mem (mt4 (List.mem_of_getElem? (i := 78) rfl)) rfl
theorem q4_80 : Cond.instanceMethod yX11_ranked ∈ lw_good := lw_mem (mt4 (List.mem_of_getElem? (i := 80) rfl)) rfl
theorem q4_81 : Cond.code yX11_ranked cX11_ranked 6 none ∈ lw_good := lw_mem (mt4 (List.mem_of_getElem? (i := 81) rfl)) rfl
theorem q4_82 : Cond.methodLink RX11 154 yX11_rank ∈ lw_good := lw_mem (mt4 (List.mem_of_getElem? (i := 82) rfl)) rfl
theorem q4_84 : Cond.instanceMethod yX11_rank ∈ lw_good := lw_mem (mt4 (List.mem_of_getElem? (i := 84) rfl)) rfl
theorem q4_85 : Cond.code yX11_rank cX11_rank 11 (some .int) ∈ lw_good := lw_mem (mt4 (List.mem_of_getElem? (i := 85) rfl)) rfl
theorem q4_86 : Cond.methodLink RX11 177 yX11_lessThan ∈ lw_good := lw_mem (mt4 (List.mem_of_getElem? (i := 86) rfl)) rfl
theorem q4_88 : Cond.instanceMethod yX11_lessThan ∈ lw_good := lw_mem (mt4 (List.mem_of_getElem? (i := 88) rfl)) rfl
theorem q4_89 : Cond.code yX11_lessThan cX11_lessThan 5 (some .int) ∈ lw_good := lw_mem (mt4 (List.mem_of_getElem? (i := 89) rfl)) rfl
theorem q4_90 : Cond.methodLink RX11 180 yX11_manySo ∈ lw_good := lw_mem (mt4 (List.mem_of_getElem? (i := 90) rfl)) rfl
theorem q4_92 : Cond.instanceMethod yX11_manySo ∈ lw_good := lw_mem (mt4 (List.mem_of_getElem? (i := 92) rfl)) rfl
theorem q4_93 : Cond.code yX11_manySo cX11_manySo 5 (some .int) ∈ lw_good := lw_mem (mt4 (List.mem_of_getElem? (i := 93) rfl)) rfl
theorem q4_94 : Cond.methodLink RL 46 yX11_width ∈ lw_good := lw_mem (mt4 (List.mem_of_getElem? (i := 94) rfl)) rfl
theorem q4_95 : Cond.instanceMethod yX11_width ∈ lw_good := lw_mem (mt4 (List.mem_of_getElem? (i := 95) rfl)) rfl
theorem q4_96 : Cond.selects RX11 yX11_width yX11_width ∈ lw_good := lw_mem (mt4 (List.mem_of_getElem? (i := 96) rfl)) rfl
theorem q4_97 : Cond.code yX11_width cX11_width 4 (some .int) ∈ lw_good := lw_mem (mt4 (List.mem_of_getElem? (i := 97) rfl)) rfl
theorem q4_98 : Cond.methodLink RL 55 yX11_alarm ∈ lw_good := lw_mem (mt4 (List.mem_of_getElem? (i := 98) rfl)) rfl
theorem q4_99 : Cond.instanceMethod yX11_alarm ∈ lw_good := lw_mem (mt4 (List.mem_of_getElem? (i := 99) rfl)) rfl
theorem q4_100 : Cond.selects RX11 yX11_alarm yX11_alarm ∈ lw_good := lw_mem (mt4 (List.mem_of_getElem? (i := 100) rfl)) rfl
theorem q4_101 : Cond.code yX11_alarm cX11_alarm 4 (some .int) ∈ lw_good := lw_mem (mt4 (List.mem_of_getElem? (i := 101) rfl)) rfl
theorem q4_102 : Cond.methodLink RL 59 yX11_ring ∈ lw_good := lw_mem (mt4 (List.mem_of_getElem? (i := 102) rfl)) rfl
theorem q4_103 : Cond.instanceMethod yX11_ring ∈ lw_good := lw_mem (mt4 (List.mem_of_getElem? (i := 103) rfl)) rfl
theorem q4_104 : Cond.selects RX11 yX11_ring yX11_ring ∈ lw_good := lw_mem (mt4 (List.mem_of_getElem? (i := 104) rfl)) rfl
theorem q4_105 : Cond.code yX11_ring cX11_ring 5 (some .int) ∈ lw_good := lw_mem (mt4 (List.mem_of_getElem? (i := 105) rfl)) rfl
theorem q4_106 : Cond.methodLink RX11 232 yX11_holds ∈ lw_good := lw_mem (mt4 (List.mem_of_getElem? (i := 106) rfl)) rfl
theorem q4_108 : Cond.instanceMethod yX11_holds ∈ lw_good := lw_mem (mt4 (List.mem_of_getElem? (i := 108) rfl)) rfl
theorem q4_109 : Cond.code yX11_holds cX11_holds 5 (some .boolean) ∈ lw_good := lw_mem (mt4 (List.mem_of_getElem? (i := 109) rfl)) rfl
theorem q4_110 : Cond.methodLink RX11 235 yX11_manyBits ∈ lw_good := lw_mem (mt4 (List.mem_of_getElem? (i := 110) rfl)) rfl
theorem q4_111 : Cond.static yX11_manyBits ∈ lw_good := lw_mem (mt4 (List.mem_of_getElem? (i := 111) rfl)) rfl
theorem q4_112 : Cond.code yX11_manyBits cX11_manyBits 3 (some .int) ∈ lw_good := lw_mem (mt4 (List.mem_of_getElem? (i := 112) rfl)) rfl
theorem q4_113 : Cond.methodLink RL 86 yX11_alarmed ∈ lw_good := lw_mem (mt4 (List.mem_of_getElem? (i := 113) rfl)) rfl
theorem q4_114 : Cond.instanceMethod yX11_alarmed ∈ lw_good := lw_mem (mt4 (List.mem_of_getElem? (i := 114) rfl)) rfl
theorem q4_115 : Cond.selects RX11 yX11_alarmed yX11_alarmed ∈ lw_good := lw_mem (mt4 (List.mem_of_getElem? (i := 115) rfl)) rfl
theorem q4_116 : Cond.code yX11_alarmed cX11_alarmed 4 (some .int) ∈ lw_good := lw_mem (mt4 (List.mem_of_getElem? (i := 116) rfl)) rfl
theorem q4_117 : Cond.methodLink RL 64 yX11_reading ∈ lw_good := lw_mem (mt4 (List.mem_of_getElem? (i := 117) rfl)) rfl
theorem q4_118 : Cond.instanceMethod yX11_reading ∈ lw_good := lw_mem (mt4 (List.mem_of_getElem? (i := 118) rfl)) rfl
theorem q4_119 : Cond.selects RX11 yX11_reading yX11_reading ∈ lw_good := lw_mem (mt4 (List.mem_of_getElem? (i := 119) rfl)) rfl
theorem q4_120 : Cond.code yX11_reading cX11_reading 3 (some .double) ∈ lw_good := lw_mem (mt4 (List.mem_of_getElem? (i := 120) rfl)) rfl
theorem q4_121 : Cond.methodLink RX11 242 yX11_isThere ∈ lw_good := lw_mem (mt4 (List.mem_of_getElem? (i := 121) rfl)) rfl
theorem q4_123 : Cond.instanceMethod yX11_isThere ∈ lw_good := lw_mem (mt4 (List.mem_of_getElem? (i := 123) rfl)) rfl
theorem q4_124 : Cond.code yX11_isThere cX11_isThere 3 (some .boolean) ∈ lw_good := lw_mem (mt4 (List.mem_of_getElem? (i := 124) rfl)) rfl
theorem q4_125 : Cond.methodLink RL 69 yX11_isBlank ∈ lw_good := lw_mem (mt4 (List.mem_of_getElem? (i := 125) rfl)) rfl
theorem q4_126 : Cond.instanceMethod yX11_isBlank ∈ lw_good := lw_mem (mt4 (List.mem_of_getElem? (i := 126) rfl)) rfl
theorem q4_127 : Cond.selects RX11 yX11_isBlank yX11_isBlank ∈ lw_good := lw_mem (mt4 (List.mem_of_getElem? (i := 127) rfl)) rfl
theorem q4_128 : Cond.code yX11_isBlank cX11_isBlank 3 (some .boolean) ∈ lw_good := lw_mem (mt4 (List.mem_of_getElem? (i := 128) rfl)) rfl
theorem q4_129 : Cond.methodLink RL 73 yX11_isMinus ∈ lw_good := lw_mem (mt4 (List.mem_of_getElem? (i := 129) rfl)) rfl
theorem q4_130 : Cond.instanceMethod yX11_isMinus ∈ lw_good := lw_mem (mt4 (List.mem_of_getElem? (i := 130) rfl)) rfl
theorem q4_131 : Cond.selects RX11 yX11_isMinus yX11_isMinus ∈ lw_good := lw_mem (mt4 (List.mem_of_getElem? (i := 131) rfl)) rfl
theorem q4_132 : Cond.code yX11_isMinus cX11_isMinus 3 (some .boolean) ∈ lw_good := lw_mem (mt4 (List.mem_of_getElem? (i := 132) rfl)) rfl
theorem q4_133 : Cond.methodLink RL 78 yX11_bits ∈ lw_good := lw_mem (mt4 (List.mem_of_getElem? (i := 133) rfl)) rfl
theorem q4_134 : Cond.instanceMethod yX11_bits ∈ lw_good := lw_mem (mt4 (List.mem_of_getElem? (i := 134) rfl)) rfl
theorem q4_135 : Cond.selects RX11 yX11_bits yX11_bits ∈ lw_good := lw_mem (mt4 (List.mem_of_getElem? (i := 135) rfl)) rfl
theorem q4_136 : Cond.code yX11_bits cX11_bits 9 (some .long) ∈ lw_good := lw_mem (mt4 (List.mem_of_getElem? (i := 136) rfl)) rfl
theorem q4_137 : Cond.methodLink RX11 247 yX11_digits ∈ lw_good := lw_mem (mt4 (List.mem_of_getElem? (i := 137) rfl)) rfl
theorem q4_138 : Cond.static yX11_digits ∈ lw_good := lw_mem (mt4 (List.mem_of_getElem? (i := 138) rfl)) rfl
theorem q4_139 : Cond.code yX11_digits cX11_digits 10 (some .long) ∈ lw_good := lw_mem (mt4 (List.mem_of_getElem? (i := 139) rfl)) rfl
theorem q4_140 : Cond.constantLong RX11 245 (2 : Int64) ∈ lw_good := lw_mem (mt4 (List.mem_of_getElem? (i := 140) rfl)) rfl
theorem q4_141 : Cond.constant RX11 251 (-2147483648 : Int32) ∈ lw_good := lw_mem (mt4 (List.mem_of_getElem? (i := 141) rfl)) rfl
theorem q4_142 : Cond.constantLong RX11 252 (-9223372036854775808 : Int64) ∈ lw_good := lw_mem (mt4 (List.mem_of_getElem? (i := 142) rfl)) rfl
theorem q4_143 : Cond.methodLink RL 82 yX11_compared ∈ lw_good := lw_mem (mt4 (List.mem_of_getElem? (i := 143) rfl)) rfl
theorem q4_144 : Cond.instanceMethod yX11_compared ∈ lw_good := lw_mem (mt4 (List.mem_of_getElem? (i := 144) rfl)) rfl
theorem q4_145 : Cond.selects RX11 yX11_compared yX11_compared ∈ lw_good := lw_mem (mt4 (List.mem_of_getElem? (i := 145) rfl)) rfl
theorem q4_146 : Cond.code yX11_compared cX11_compared 8 (some .int) ∈ lw_good := lw_mem (mt4 (List.mem_of_getElem? (i := 146) rfl)) rfl
theorem q4_147 : Cond.methodLink RL 90 yX11_told ∈ lw_good := lw_mem (mt4 (List.mem_of_getElem? (i := 147) rfl)) rfl
theorem q4_148 : Cond.instanceMethod yX11_told ∈ lw_good := lw_mem (mt4 (List.mem_of_getElem? (i := 148) rfl)) rfl
theorem q4_149 : Cond.selects RX11 yX11_told yX11_told ∈ lw_good := lw_mem (mt4 (List.mem_of_getElem? (i := 149) rfl)) rfl
theorem q4_150 : Cond.code yX11_told cX11_told 5 (some .int) ∈ lw_good := lw_mem (mt4 (List.mem_of_getElem? (i := 150) rfl)) rfl
theorem q4_151 : Cond.methodLink RX11 254 yX11_isBlank ∈ lw_good := lw_mem (mt4 (List.mem_of_getElem? (i := 151) rfl)) rfl
theorem inX0 : ∀ w ∈ u_ws RX0 TX0 6, w ∈ lw_good := by
  intro w hw
  obtain ⟨k, hk, rfl⟩ := List.mem_map.mp hw
  have hk := List.mem_range.mp hk
  rcases (show k = 0 ∨ k = 1 ∨ k = 2 ∨ k = 3 ∨ k = 4 ∨ k = 5 by omega) with rfl | rfl | rfl | rfl | rfl | rfl
  · exact q1_111
  · exact q1_113
  · exact q1_115
  · exact q1_117
  · exact q1_119
  · exact q1_121
theorem inX3 : ∀ w ∈ u_ws RX3 TX3 6, w ∈ lw_good := by
  intro w hw
  obtain ⟨k, hk, rfl⟩ := List.mem_map.mp hw
  have hk := List.mem_range.mp hk
  rcases (show k = 0 ∨ k = 1 ∨ k = 2 ∨ k = 3 ∨ k = 4 ∨ k = 5 by omega) with rfl | rfl | rfl | rfl | rfl | rfl
  · exact q1_82
  · exact q1_84
  · exact q1_86
  · exact q1_88
  · exact q1_90
  · exact q1_92
theorem inX4 : ∀ w ∈ u_ws RX4 TX4 4, w ∈ lw_good := by
  intro w hw
  obtain ⟨k, hk, rfl⟩ := List.mem_map.mp hw
  have hk := List.mem_range.mp hk
  rcases (show k = 0 ∨ k = 1 ∨ k = 2 ∨ k = 3 by omega) with rfl | rfl | rfl | rfl
  · exact q2_64
  · exact q2_65
  · exact q2_60
  · exact q2_62
theorem inX7 : ∀ w ∈ u_ws RX7 TX7 6, w ∈ lw_good := by
  intro w hw
  obtain ⟨k, hk, rfl⟩ := List.mem_map.mp hw
  have hk := List.mem_range.mp hk
  rcases (show k = 0 ∨ k = 1 ∨ k = 2 ∨ k = 3 ∨ k = 4 ∨ k = 5 by omega) with rfl | rfl | rfl | rfl | rfl | rfl
  · exact q1_210
  · exact q1_212
  · exact q1_202
  · exact q1_204
  · exact q1_206
  · exact q1_208
theorem inX8 : ∀ w ∈ u_ws RX8 TX8 2, w ∈ lw_good := by
  intro w hw
  obtain ⟨k, hk, rfl⟩ := List.mem_map.mp hw
  have hk := List.mem_range.mp hk
  rcases (show k = 0 ∨ k = 1 by omega) with rfl | rfl
  · exact q1_33
  · exact q1_35
theorem inX9 : ∀ w ∈ u_ws RX9 TX9 2, w ∈ lw_good := by
  intro w hw
  obtain ⟨k, hk, rfl⟩ := List.mem_map.mp hw
  have hk := List.mem_range.mp hk
  rcases (show k = 0 ∨ k = 1 by omega) with rfl | rfl
  · exact q1_52
  · exact q1_54
theorem inX10 : ∀ w ∈ u_ws RX10 TX10 9, w ∈ lw_good := by
  intro w hw
  obtain ⟨k, hk, rfl⟩ := List.mem_map.mp hw
  have hk := List.mem_range.mp hk
  rcases (show k = 0 ∨ k = 1 ∨ k = 2 ∨ k = 3 ∨ k = 4 ∨ k = 5 ∨ k = 6 ∨ k = 7 ∨ k = 8 by omega) with rfl | rfl | rfl | rfl | rfl | rfl | rfl | rfl | rfl
  · exact q1_133
  · exact q1_135
  · exact q1_137
  · exact q1_139
  · exact q1_141
  · exact q1_143
  · exact q1_145
  · exact q1_147
  · exact q1_149
theorem inX11 : ∀ w ∈ u_ws RX11 TX11 19, w ∈ lw_good := by
  intro w hw
  obtain ⟨k, hk, rfl⟩ := List.mem_map.mp hw
  have hk := List.mem_range.mp hk
  rcases (show k = 0 ∨ k = 1 ∨ k = 2 ∨ k = 3 ∨ k = 4 ∨ k = 5 ∨ k = 6 ∨ k = 7 ∨ k = 8 ∨ k = 9 ∨ k = 10 ∨ k = 11 ∨ k = 12 ∨ k = 13 ∨ k = 14 ∨ k = 15 ∨ k = 16 ∨ k = 17 ∨ k = 18 by omega) with rfl | rfl | rfl | rfl | rfl | rfl | rfl | rfl | rfl | rfl | rfl | rfl | rfl | rfl | rfl | rfl | rfl | rfl | rfl
  · exact q3_122
  · exact q3_124
  · exact q3_126
  · exact q3_128
  · exact q3_130
  · exact q3_132
  · exact q3_134
  · exact q3_136
  · exact q3_138
  · exact q3_140
  · exact q3_142
  · exact q3_144
  · exact q3_146
  · exact q3_148
  · exact q3_150
  · exact q3_152
  · exact q3_154
  · exact q3_156
  · exact q3_158
def lw_ex : List Cond := [Cond.arrayOver (.object RX3), Cond.methodLinkNest RX10 26 yX9_init RX10, Cond.arrayOver (.object RX0), Cond.methodLinkNest RX10 54 yX3_init RX10, Cond.methodLinkNest RX10 55 yX0_init RX10, Cond.methodLinkNest RX4 9 yX3_init RX10, Cond.declares ⟨"TideBook$Change", "takeBack", "()V"⟩]
theorem eq1_24 : Cond.arrayOver (.object RX3) ∈ lw_ex := List.mem_of_getElem? (i := 0) rfl
theorem eq1_42 : Cond.methodLinkNest RX10 26 yX9_init RX10 ∈ lw_ex := List.mem_of_getElem? (i := 1) rfl
theorem eq1_58 : Cond.arrayOver (.object RX0) ∈ lw_ex := List.mem_of_getElem? (i := 2) rfl
theorem eq1_60 : Cond.methodLinkNest RX10 54 yX3_init RX10 ∈ lw_ex := List.mem_of_getElem? (i := 3) rfl
theorem eq1_96 : Cond.methodLinkNest RX10 55 yX0_init RX10 ∈ lw_ex := List.mem_of_getElem? (i := 4) rfl
theorem eq2_48 : Cond.methodLinkNest RX4 9 yX3_init RX10 ∈ lw_ex := List.mem_of_getElem? (i := 5) rfl
theorem eq2_236 : Cond.declares ⟨"TideBook$Change", "takeBack", "()V"⟩ ∈ lw_ex := List.mem_of_getElem? (i := 6) rfl
theorem lw_ex_tbl : ∀ w ∈ lw_ex, w ∈ lw_tbl := by
  intro w hw
  simp only [lw_ex, List.mem_cons, List.not_mem_nil, or_false] at hw
  rcases hw with rfl | rfl | rfl | rfl | rfl | rfl | rfl
  · exact mt1 (List.mem_of_getElem? (i := 24) rfl)
  · exact mt1 (List.mem_of_getElem? (i := 42) rfl)
  · exact mt1 (List.mem_of_getElem? (i := 58) rfl)
  · exact mt1 (List.mem_of_getElem? (i := 60) rfl)
  · exact mt1 (List.mem_of_getElem? (i := 96) rfl)
  · exact mt2 (List.mem_of_getElem? (i := 48) rfl)
  · exact mt2 (List.mem_of_getElem? (i := 236) rfl)
