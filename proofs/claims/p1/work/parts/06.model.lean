abbrev m_M_init : cp_M := (⟨"ConditionedProofsModel", "<init>", "()V"⟩, prog_13_method_1_code, 1, none)
theorem k_M_init : cp_cd m_M_init 0 := ⟨cp_in (List.mem_append_right _ (List.mem_append_right _ (List.mem_append_right _ (List.mem_append_right _ (List.mem_append_left _ (List.mem_of_getElem? (i := 25) rfl)))))) rfl, cp_in (List.mem_append_left _ (List.mem_of_getElem? (i := 11) rfl)) rfl, by decide, by decide, by decide, by decide +kernel⟩
abbrev m_M_thrown : cp_M := (⟨"ConditionedProofsModel", "thrown", "()I"⟩, prog_13_method_2_code, 1, (some .int))
theorem k_M_thrown : cp_cd m_M_thrown 0 := ⟨cp_in (List.mem_append_right _ (List.mem_append_right _ (List.mem_append_right _ (List.mem_append_right _ (List.mem_append_right _ (List.mem_append_left _ (List.mem_of_getElem? (i := 49) rfl))))))) rfl, cp_in (List.mem_append_left _ (List.mem_of_getElem? (i := 11) rfl)) rfl, by decide, by decide, by decide, by decide +kernel⟩
abbrev m_M_isVariable : cp_M := (⟨"ConditionedProofsModel", "isVariable", "(I)Z"⟩, prog_13_method_3_code, 1, (some .boolean))
theorem k_M_isVariable : cp_cd m_M_isVariable 1 := ⟨cp_in (List.mem_append_right _ (List.mem_append_right _ (List.mem_append_right _ (List.mem_append_right _ (List.mem_append_right _ (List.mem_append_left _ (List.mem_of_getElem? (i := 91) rfl))))))) rfl, cp_in (List.mem_append_left _ (List.mem_of_getElem? (i := 11) rfl)) rfl, by decide, by decide, by decide, by decide +kernel⟩
abbrev m_M_isLetter : cp_M := (⟨"ConditionedProofsModel", "isLetter", "(I)Z"⟩, prog_13_method_4_code, 1, (some .boolean))
theorem k_M_isLetter : cp_cd m_M_isLetter 1 := ⟨cp_in (List.mem_append_right _ (List.mem_append_right _ (List.mem_append_right _ (List.mem_append_right _ (List.mem_append_right _ (List.mem_append_left _ (List.mem_of_getElem? (i := 68) rfl))))))) rfl, cp_in (List.mem_append_left _ (List.mem_of_getElem? (i := 11) rfl)) rfl, by decide, by decide, by decide, by decide +kernel⟩
abbrev m_M_isDigit : cp_M := (⟨"ConditionedProofsModel", "isDigit", "(I)Z"⟩, prog_13_method_5_code, 1, (some .boolean))
theorem k_M_isDigit : cp_cd m_M_isDigit 1 := ⟨cp_in (List.mem_append_right _ (List.mem_append_right _ (List.mem_append_right _ (List.mem_append_right _ (List.mem_append_right _ (List.mem_append_left _ (List.mem_of_getElem? (i := 94) rfl))))))) rfl, cp_in (List.mem_append_left _ (List.mem_of_getElem? (i := 11) rfl)) rfl, by decide, by decide, by decide, by decide +kernel⟩
abbrev m_M_type : cp_M := (⟨"ConditionedProofsModel", "type", "(C)Z"⟩, prog_13_method_6_code, 2, (some .boolean))
theorem k_M_type : cp_cd m_M_type 1 := ⟨cp_in (List.mem_append_right _ (List.mem_append_right _ (List.mem_append_right _ (List.mem_append_right _ (List.mem_append_right _ (List.mem_append_left _ (List.mem_of_getElem? (i := 53) rfl))))))) rfl, cp_in (List.mem_append_left _ (List.mem_of_getElem? (i := 11) rfl)) rfl, by decide, by decide, by decide, by decide +kernel⟩
abbrev m_M_wipe : cp_M := (⟨"ConditionedProofsModel", "wipe", "()I"⟩, prog_13_method_7_code, 2, (some .int))
theorem k_M_wipe : cp_cd m_M_wipe 0 := ⟨cp_in (List.mem_append_right _ (List.mem_append_right _ (List.mem_append_right _ (List.mem_append_right _ (List.mem_append_right _ (List.mem_append_left _ (List.mem_of_getElem? (i := 57) rfl))))))) rfl, cp_in (List.mem_append_left _ (List.mem_of_getElem? (i := 11) rfl)) rfl, by decide, by decide, by decide, by decide +kernel⟩
abbrev m_M_push : cp_M := (⟨"ConditionedProofsModel", "push", "(III)V"⟩, prog_13_method_8_code, 4, none)
theorem k_M_push : cp_cd m_M_push 3 := ⟨cp_in (List.mem_append_right _ (List.mem_append_right _ (List.mem_append_right _ (List.mem_append_right _ (List.mem_append_right _ (List.mem_append_left _ (List.mem_of_getElem? (i := 76) rfl))))))) rfl, cp_in (List.mem_append_left _ (List.mem_of_getElem? (i := 11) rfl)) rfl, by decide, by decide, by decide, by decide +kernel⟩
abbrev m_M_node : cp_M := (⟨"ConditionedProofsModel", "node", "(III)I"⟩, prog_13_method_9_code, 4, (some .int))
theorem k_M_node : cp_cd m_M_node 3 := ⟨cp_in (List.mem_append_right _ (List.mem_append_right _ (List.mem_append_right _ (List.mem_append_right _ (List.mem_append_right _ (List.mem_append_left _ (List.mem_of_getElem? (i := 98) rfl))))))) rfl, cp_in (List.mem_append_left _ (List.mem_of_getElem? (i := 11) rfl)) rfl, by decide, by decide, by decide, by decide +kernel⟩
abbrev m_M_below : cp_M := (⟨"ConditionedProofsModel", "below", "(I)I"⟩, prog_13_method_10_code, 2, (some .int))
theorem k_M_below : cp_cd m_M_below 1 := ⟨cp_in (List.mem_append_right _ (List.mem_append_right _ (List.mem_append_right _ (List.mem_append_right _ (List.mem_append_right _ (List.mem_append_left _ (List.mem_of_getElem? (i := 178) rfl))))))) rfl, cp_in (List.mem_append_left _ (List.mem_of_getElem? (i := 11) rfl)) rfl, by decide, by decide, by decide, by decide +kernel⟩
abbrev m_M_behind : cp_M := (⟨"ConditionedProofsModel", "behind", "(I)I"⟩, prog_13_method_11_code, 4, (some .int))
theorem k_M_behind : cp_cd m_M_behind 1 := ⟨cp_in (List.mem_append_right _ (List.mem_append_right _ (List.mem_append_right _ (List.mem_append_right _ (List.mem_append_right _ (List.mem_append_left _ (List.mem_of_getElem? (i := 174) rfl))))))) rfl, cp_in (List.mem_append_left _ (List.mem_of_getElem? (i := 11) rfl)) rfl, by decide, by decide, by decide, by decide +kernel⟩
abbrev m_M_beginTerm : cp_M := (⟨"ConditionedProofsModel", "beginTerm", "(III)Z"⟩, prog_13_method_12_code, 4, (some .boolean))
theorem k_M_beginTerm : cp_cd m_M_beginTerm 3 := ⟨cp_in (List.mem_append_right _ (List.mem_append_right _ (List.mem_append_right _ (List.mem_append_right _ (List.mem_append_right _ (List.mem_append_left _ (List.mem_of_getElem? (i := 88) rfl))))))) rfl, cp_in (List.mem_append_left _ (List.mem_of_getElem? (i := 11) rfl)) rfl, by decide, by decide, by decide, by decide +kernel⟩
abbrev m_M_beginCode : cp_M := (⟨"ConditionedProofsModel", "beginCode", "(III)Z"⟩, prog_13_method_13_code, 5, (some .boolean))
theorem k_M_beginCode : cp_cd m_M_beginCode 3 := ⟨cp_in (List.mem_append_right _ (List.mem_append_right _ (List.mem_append_right _ (List.mem_append_right _ (List.mem_append_right _ (List.mem_append_left _ (List.mem_of_getElem? (i := 114) rfl))))))) rfl, cp_in (List.mem_append_left _ (List.mem_of_getElem? (i := 11) rfl)) rfl, by decide, by decide, by decide, by decide +kernel⟩
abbrev m_M_part : cp_M := (⟨"ConditionedProofsModel", "part", "(IIII)I"⟩, prog_13_method_14_code, 5, (some .int))
theorem k_M_part : cp_cd m_M_part 4 := ⟨cp_in (List.mem_append_right _ (List.mem_append_right _ (List.mem_append_right _ (List.mem_append_right _ (List.mem_append_right _ (List.mem_append_left _ (List.mem_of_getElem? (i := 106) rfl))))))) rfl, cp_in (List.mem_append_left _ (List.mem_of_getElem? (i := 11) rfl)) rfl, by decide, by decide, by decide, by decide +kernel⟩
abbrev m_M_beginPart : cp_M := (⟨"ConditionedProofsModel", "beginPart", "(III)Z"⟩, prog_13_method_15_code, 5, (some .boolean))
theorem k_M_beginPart : cp_cd m_M_beginPart 3 := ⟨cp_in (List.mem_append_right _ (List.mem_append_right _ (List.mem_append_right _ (List.mem_append_right _ (List.mem_append_right _ (List.mem_append_left _ (List.mem_of_getElem? (i := 102) rfl))))))) rfl, cp_in (List.mem_append_left _ (List.mem_of_getElem? (i := 11) rfl)) rfl, by decide, by decide, by decide, by decide +kernel⟩
abbrev m_M_beginPattern : cp_M := (⟨"ConditionedProofsModel", "beginPattern", "(II)Z"⟩, prog_13_method_16_code, 3, (some .boolean))
theorem k_M_beginPattern : cp_cd m_M_beginPattern 2 := ⟨cp_in (List.mem_append_right _ (List.mem_append_right _ (List.mem_append_right _ (List.mem_append_right _ (List.mem_append_right _ (List.mem_append_left _ (List.mem_of_getElem? (i := 118) rfl))))))) rfl, cp_in (List.mem_append_left _ (List.mem_of_getElem? (i := 11) rfl)) rfl, by decide, by decide, by decide, by decide +kernel⟩
abbrev m_M_take : cp_M := (⟨"ConditionedProofsModel", "take", "(II)Z"⟩, prog_13_method_17_code, 7, (some .boolean))
theorem k_M_take : cp_cd m_M_take 2 := ⟨cp_in (List.mem_append_right _ (List.mem_append_right _ (List.mem_append_right _ (List.mem_append_right _ (List.mem_append_right _ (List.mem_append_left _ (List.mem_of_getElem? (i := 80) rfl))))))) rfl, cp_in (List.mem_append_left _ (List.mem_of_getElem? (i := 11) rfl)) rfl, by decide, by decide, by decide, by decide +kernel⟩
abbrev m_M_takeDeclared : cp_M := (⟨"ConditionedProofsModel", "takeDeclared", "(IIIII)Z"⟩, prog_13_method_18_code, 6, (some .boolean))
theorem k_M_takeDeclared : cp_cd m_M_takeDeclared 5 := ⟨cp_in (List.mem_append_right _ (List.mem_append_right _ (List.mem_append_right _ (List.mem_append_right _ (List.mem_append_right _ (List.mem_append_left _ (List.mem_of_getElem? (i := 84) rfl))))))) rfl, cp_in (List.mem_append_left _ (List.mem_of_getElem? (i := 11) rfl)) rfl, by decide, by decide, by decide, by decide +kernel⟩
abbrev m_M_takeCoded : cp_M := (⟨"ConditionedProofsModel", "takeCoded", "(IIIII)Z"⟩, prog_13_method_19_code, 6, (some .boolean))
theorem k_M_takeCoded : cp_cd m_M_takeCoded 5 := ⟨cp_in (List.mem_append_right _ (List.mem_append_right _ (List.mem_append_right _ (List.mem_append_right _ (List.mem_append_right _ (List.mem_append_left _ (List.mem_of_getElem? (i := 110) rfl))))))) rfl, cp_in (List.mem_append_left _ (List.mem_of_getElem? (i := 11) rfl)) rfl, by decide, by decide, by decide, by decide +kernel⟩
abbrev m_M_read : cp_M := (⟨"ConditionedProofsModel", "read", "(III)I"⟩, prog_13_method_20_code, 8, (some .int))
theorem k_M_read : cp_cd m_M_read 3 := ⟨cp_in (List.mem_append_right _ (List.mem_append_right _ (List.mem_append_right _ (List.mem_append_right _ (List.mem_append_right _ (List.mem_append_left _ (List.mem_of_getElem? (i := 72) rfl))))))) rfl, cp_in (List.mem_append_left _ (List.mem_of_getElem? (i := 11) rfl)) rfl, by decide, by decide, by decide, by decide +kernel⟩
abbrev m_M_nothing : cp_M := (⟨"ConditionedProofsModel", "nothing", "()V"⟩, prog_13_method_21_code, 1, none)
theorem k_M_nothing : cp_cd m_M_nothing 0 := ⟨cp_in (List.mem_append_right _ (List.mem_append_right _ (List.mem_append_right _ (List.mem_append_right _ (List.mem_append_right _ (List.mem_append_left _ (List.mem_of_getElem? (i := 126) rfl))))))) rfl, cp_in (List.mem_append_left _ (List.mem_of_getElem? (i := 11) rfl)) rfl, by decide, by decide, by decide, by decide +kernel⟩
abbrev m_M_value : cp_M := (⟨"ConditionedProofsModel", "value", "(II)I"⟩, prog_13_method_22_code, 3, (some .int))
theorem k_M_value : cp_cd m_M_value 2 := ⟨cp_in (List.mem_append_right _ (List.mem_append_right _ (List.mem_append_right _ (List.mem_append_right _ (List.mem_append_right _ (List.mem_append_left _ (List.mem_of_getElem? (i := 146) rfl))))))) rfl, cp_in (List.mem_append_left _ (List.mem_of_getElem? (i := 11) rfl)) rfl, by decide, by decide, by decide, by decide +kernel⟩
abbrev m_M_seen : cp_M := (⟨"ConditionedProofsModel", "seen", "(I)I"⟩, prog_13_method_23_code, 3, (some .int))
theorem k_M_seen : cp_cd m_M_seen 1 := ⟨cp_in (List.mem_append_right _ (List.mem_append_right _ (List.mem_append_right _ (List.mem_append_right _ (List.mem_append_right _ (List.mem_append_left _ (List.mem_of_getElem? (i := 218) rfl))))))) rfl, cp_in (List.mem_append_left _ (List.mem_of_getElem? (i := 11) rfl)) rfl, by decide, by decide, by decide, by decide +kernel⟩
abbrev m_M_valueOf : cp_M := (⟨"ConditionedProofsModel", "valueOf", "(II)I"⟩, prog_13_method_24_code, 7, (some .int))
theorem k_M_valueOf : cp_cd m_M_valueOf 2 := ⟨cp_in (List.mem_append_right _ (List.mem_append_right _ (List.mem_append_right _ (List.mem_append_right _ (List.mem_append_right _ (List.mem_append_left _ (List.mem_of_getElem? (i := 170) rfl))))))) rfl, cp_in (List.mem_append_left _ (List.mem_of_getElem? (i := 11) rfl)) rfl, by decide, by decide, by decide, by decide +kernel⟩
abbrev m_M_further : cp_M := (⟨"ConditionedProofsModel", "further", "(I)I"⟩, prog_13_method_25_code, 4, (some .int))
theorem k_M_further : cp_cd m_M_further 1 := ⟨cp_in (List.mem_append_right _ (List.mem_append_right _ (List.mem_append_right _ (List.mem_append_right _ (List.mem_append_right _ (List.mem_append_left _ (List.mem_of_getElem? (i := 222) rfl))))))) rfl, cp_in (List.mem_append_left _ (List.mem_of_getElem? (i := 11) rfl)) rfl, by decide, by decide, by decide, by decide +kernel⟩
abbrev m_M_setOut : cp_M := (⟨"ConditionedProofsModel", "setOut", "(I)I"⟩, prog_13_method_26_code, 2, (some .int))
theorem k_M_setOut : cp_cd m_M_setOut 1 := ⟨cp_in (List.mem_append_right _ (List.mem_append_right _ (List.mem_append_right _ (List.mem_append_right _ (List.mem_append_right _ (List.mem_append_left _ (List.mem_of_getElem? (i := 214) rfl))))))) rfl, cp_in (List.mem_append_left _ (List.mem_of_getElem? (i := 11) rfl)) rfl, by decide, by decide, by decide, by decide +kernel⟩
abbrev m_M_lies : cp_M := (⟨"ConditionedProofsModel", "lies", "(II)Z"⟩, prog_13_method_27_code, 5, (some .boolean))
theorem k_M_lies : cp_cd m_M_lies 2 := ⟨cp_in (List.mem_append_right _ (List.mem_append_right _ (List.mem_append_right _ (List.mem_append_right _ (List.mem_append_right _ (List.mem_append_right _ (List.mem_of_getElem? (i := 18) rfl))))))) rfl, cp_in (List.mem_append_left _ (List.mem_of_getElem? (i := 11) rfl)) rfl, by decide, by decide, by decide, by decide +kernel⟩
abbrev m_M_isLarge : cp_M := (⟨"ConditionedProofsModel", "isLarge", "(I)Z"⟩, prog_13_method_28_code, 4, (some .boolean))
theorem k_M_isLarge : cp_cd m_M_isLarge 1 := ⟨cp_in (List.mem_append_right _ (List.mem_append_right _ (List.mem_append_right _ (List.mem_append_right _ (List.mem_append_right _ (List.mem_append_left _ (List.mem_of_getElem? (i := 210) rfl))))))) rfl, cp_in (List.mem_append_left _ (List.mem_of_getElem? (i := 11) rfl)) rfl, by decide, by decide, by decide, by decide +kernel⟩
abbrev m_M_nextPair : cp_M := (⟨"ConditionedProofsModel", "nextPair", "(I)I"⟩, prog_13_method_29_code, 4, (some .int))
theorem k_M_nextPair : cp_cd m_M_nextPair 1 := ⟨cp_in (List.mem_append_right _ (List.mem_append_right _ (List.mem_append_right _ (List.mem_append_right _ (List.mem_append_right _ (List.mem_append_right _ (List.mem_of_getElem? (i := 10) rfl))))))) rfl, cp_in (List.mem_append_left _ (List.mem_of_getElem? (i := 11) rfl)) rfl, by decide, by decide, by decide, by decide +kernel⟩
abbrev m_M_firstPair : cp_M := (⟨"ConditionedProofsModel", "firstPair", "(II)I"⟩, prog_13_method_30_code, 3, (some .int))
theorem k_M_firstPair : cp_cd m_M_firstPair 2 := ⟨cp_in (List.mem_append_right _ (List.mem_append_right _ (List.mem_append_right _ (List.mem_append_right _ (List.mem_append_right _ (List.mem_append_right _ (List.mem_of_getElem? (i := 2) rfl))))))) rfl, cp_in (List.mem_append_left _ (List.mem_of_getElem? (i := 11) rfl)) rfl, by decide, by decide, by decide, by decide +kernel⟩
abbrev m_M_isLevel : cp_M := (⟨"ConditionedProofsModel", "isLevel", "(II)Z"⟩, prog_13_method_31_code, 3, (some .boolean))
theorem k_M_isLevel : cp_cd m_M_isLevel 2 := ⟨cp_in (List.mem_append_right _ (List.mem_append_right _ (List.mem_append_right _ (List.mem_append_right _ (List.mem_append_right _ (List.mem_append_right _ (List.mem_of_getElem? (i := 6) rfl))))))) rfl, cp_in (List.mem_append_left _ (List.mem_of_getElem? (i := 11) rfl)) rfl, by decide, by decide, by decide, by decide +kernel⟩
abbrev m_M_makeSame : cp_M := (⟨"ConditionedProofsModel", "makeSame", "(II)Z"⟩, prog_13_method_32_code, 8, (some .boolean))
theorem k_M_makeSame : cp_cd m_M_makeSame 2 := ⟨cp_in (List.mem_append_right _ (List.mem_append_right _ (List.mem_append_right _ (List.mem_append_right _ (List.mem_append_right _ (List.mem_append_right _ (List.mem_of_getElem? (i := 14) rfl))))))) rfl, cp_in (List.mem_append_left _ (List.mem_of_getElem? (i := 11) rfl)) rfl, by decide, by decide, by decide, by decide +kernel⟩
abbrev m_M_draw : cp_M := (⟨"ConditionedProofsModel", "draw", "(I)I"⟩, prog_13_method_33_code, 5, (some .int))
theorem k_M_draw : cp_cd m_M_draw 1 := ⟨cp_in (List.mem_append_right _ (List.mem_append_right _ (List.mem_append_right _ (List.mem_append_right _ (List.mem_append_right _ (List.mem_append_right _ (List.mem_of_getElem? (i := 54) rfl))))))) rfl, cp_in (List.mem_append_left _ (List.mem_of_getElem? (i := 11) rfl)) rfl, by decide, by decide, by decide, by decide +kernel⟩
abbrev m_M_drawOne : cp_M := (⟨"ConditionedProofsModel", "drawOne", "(II)I"⟩, prog_13_method_34_code, 8, (some .int))
theorem k_M_drawOne : cp_cd m_M_drawOne 2 := ⟨cp_in (List.mem_append_right _ (List.mem_append_right _ (List.mem_append_right _ (List.mem_append_right _ (List.mem_append_right _ (List.mem_append_right _ (List.mem_of_getElem? (i := 58) rfl))))))) rfl, cp_in (List.mem_append_left _ (List.mem_of_getElem? (i := 11) rfl)) rfl, by decide, by decide, by decide, by decide +kernel⟩
abbrev m_M_show : cp_M := (⟨"ConditionedProofsModel", "show", "(I)I"⟩, prog_13_method_35_code, 3, (some .int))
theorem k_M_show : cp_cd m_M_show 1 := ⟨cp_in (List.mem_append_right _ (List.mem_append_right _ (List.mem_append_right _ (List.mem_append_right _ (List.mem_append_right _ (List.mem_append_right _ (List.mem_of_getElem? (i := 63) rfl))))))) rfl, cp_in (List.mem_append_left _ (List.mem_of_getElem? (i := 11) rfl)) rfl, by decide, by decide, by decide, by decide +kernel⟩
abbrev m_M_bind : cp_M := (⟨"ConditionedProofsModel", "bind", "(III)V"⟩, prog_13_method_36_code, 4, none)
theorem k_M_bind : cp_cd m_M_bind 3 := ⟨cp_in (List.mem_append_right _ (List.mem_append_right _ (List.mem_append_right _ (List.mem_append_right _ (List.mem_append_right _ (List.mem_append_left _ (List.mem_of_getElem? (i := 186) rfl))))))) rfl, cp_in (List.mem_append_left _ (List.mem_of_getElem? (i := 11) rfl)) rfl, by decide, by decide, by decide, by decide +kernel⟩
abbrev m_M_enter : cp_M := (⟨"ConditionedProofsModel", "enter", "(II)V"⟩, prog_13_method_37_code, 3, none)
theorem k_M_enter : cp_cd m_M_enter 2 := ⟨cp_in (List.mem_append_right _ (List.mem_append_right _ (List.mem_append_right _ (List.mem_append_right _ (List.mem_append_right _ (List.mem_append_left _ (List.mem_of_getElem? (i := 190) rfl))))))) rfl, cp_in (List.mem_append_left _ (List.mem_of_getElem? (i := 11) rfl)) rfl, by decide, by decide, by decide, by decide +kernel⟩
abbrev m_M_give : cp_M := (⟨"ConditionedProofsModel", "give", "(I)V"⟩, prog_13_method_38_code, 3, none)
theorem k_M_give : cp_cd m_M_give 1 := ⟨cp_in (List.mem_append_right _ (List.mem_append_right _ (List.mem_append_right _ (List.mem_append_right _ (List.mem_append_right _ (List.mem_append_left _ (List.mem_of_getElem? (i := 198) rfl))))))) rfl, cp_in (List.mem_append_left _ (List.mem_of_getElem? (i := 11) rfl)) rfl, by decide, by decide, by decide, by decide +kernel⟩
abbrev m_M_child : cp_M := (⟨"ConditionedProofsModel", "child", "(II)I"⟩, prog_13_method_39_code, 5, (some .int))
theorem k_M_child : cp_cd m_M_child 2 := ⟨cp_in (List.mem_append_right _ (List.mem_append_right _ (List.mem_append_right _ (List.mem_append_right _ (List.mem_append_right _ (List.mem_append_left _ (List.mem_of_getElem? (i := 206) rfl))))))) rfl, cp_in (List.mem_append_left _ (List.mem_of_getElem? (i := 11) rfl)) rfl, by decide, by decide, by decide, by decide +kernel⟩
abbrev m_M_meaning : cp_M := (⟨"ConditionedProofsModel", "meaning", "(II)I"⟩, prog_13_method_40_code, 4, (some .int))
theorem k_M_meaning : cp_cd m_M_meaning 2 := ⟨cp_in (List.mem_append_right _ (List.mem_append_right _ (List.mem_append_right _ (List.mem_append_right _ (List.mem_append_right _ (List.mem_append_left _ (List.mem_of_getElem? (i := 194) rfl))))))) rfl, cp_in (List.mem_append_left _ (List.mem_of_getElem? (i := 11) rfl)) rfl, by decide, by decide, by decide, by decide +kernel⟩
abbrev m_M_compare : cp_M := (⟨"ConditionedProofsModel", "compare", "(II)I"⟩, prog_13_method_41_code, 6, (some .int))
theorem k_M_compare : cp_cd m_M_compare 2 := ⟨cp_in (List.mem_append_right _ (List.mem_append_right _ (List.mem_append_right _ (List.mem_append_right _ (List.mem_append_right _ (List.mem_append_left _ (List.mem_of_getElem? (i := 238) rfl))))))) rfl, cp_in (List.mem_append_left _ (List.mem_of_getElem? (i := 11) rfl)) rfl, by decide, by decide, by decide, by decide +kernel⟩
abbrev m_M_call : cp_M := (⟨"ConditionedProofsModel", "call", "(III)V"⟩, prog_13_method_42_code, 8, none)
theorem k_M_call : cp_cd m_M_call 3 := ⟨cp_in (List.mem_append_right _ (List.mem_append_right _ (List.mem_append_right _ (List.mem_append_right _ (List.mem_append_right _ (List.mem_append_left _ (List.mem_of_getElem? (i := 202) rfl))))))) rfl, cp_in (List.mem_append_left _ (List.mem_of_getElem? (i := 11) rfl)) rfl, by decide, by decide, by decide, by decide +kernel⟩
abbrev m_M_add : cp_M := (⟨"ConditionedProofsModel", "add", "(III)V"⟩, prog_13_method_43_code, 6, none)
theorem k_M_add : cp_cd m_M_add 3 := ⟨cp_in (List.mem_append_right _ (List.mem_append_right _ (List.mem_append_right _ (List.mem_append_right _ (List.mem_append_right _ (List.mem_append_left _ (List.mem_of_getElem? (i := 226) rfl))))))) rfl, cp_in (List.mem_append_left _ (List.mem_of_getElem? (i := 11) rfl)) rfl, by decide, by decide, by decide, by decide +kernel⟩
abbrev m_M_match : cp_M := (⟨"ConditionedProofsModel", "match", "(III)V"⟩, prog_13_method_44_code, 11, none)
theorem k_M_match : cp_cd m_M_match 3 := ⟨cp_in (List.mem_append_right _ (List.mem_append_right _ (List.mem_append_right _ (List.mem_append_right _ (List.mem_append_right _ (List.mem_append_left _ (List.mem_of_getElem? (i := 230) rfl))))))) rfl, cp_in (List.mem_append_left _ (List.mem_of_getElem? (i := 11) rfl)) rfl, by decide, by decide, by decide, by decide +kernel⟩
abbrev m_M_choose : cp_M := (⟨"ConditionedProofsModel", "choose", "(III)V"⟩, prog_13_method_45_code, 7, none)
theorem k_M_choose : cp_cd m_M_choose 3 := ⟨cp_in (List.mem_append_right _ (List.mem_append_right _ (List.mem_append_right _ (List.mem_append_right _ (List.mem_append_right _ (List.mem_append_left _ (List.mem_of_getElem? (i := 234) rfl))))))) rfl, cp_in (List.mem_append_left _ (List.mem_of_getElem? (i := 11) rfl)) rfl, by decide, by decide, by decide, by decide +kernel⟩
abbrev m_M_runs : cp_M := (⟨"ConditionedProofsModel", "runs", "(I)I"⟩, prog_13_method_46_code, 6, (some .int))
theorem k_M_runs : cp_cd m_M_runs 1 := ⟨cp_in (List.mem_append_right _ (List.mem_append_right _ (List.mem_append_right _ (List.mem_append_right _ (List.mem_append_right _ (List.mem_append_left _ (List.mem_of_getElem? (i := 182) rfl))))))) rfl, cp_in (List.mem_append_left _ (List.mem_of_getElem? (i := 11) rfl)) rfl, by decide, by decide, by decide, by decide +kernel⟩
abbrev m_M_isConditioned : cp_M := (⟨"ConditionedProofsModel", "isConditioned", "(I)Z"⟩, prog_13_method_47_code, 4, (some .boolean))
theorem k_M_isConditioned : cp_cd m_M_isConditioned 1 := ⟨cp_in (List.mem_append_right _ (List.mem_append_right _ (List.mem_append_right _ (List.mem_append_right _ (List.mem_append_right _ (List.mem_append_left _ (List.mem_of_getElem? (i := 158) rfl))))))) rfl, cp_in (List.mem_append_left _ (List.mem_of_getElem? (i := 11) rfl)) rfl, by decide, by decide, by decide, by decide +kernel⟩
abbrev m_M_wrong : cp_M := (⟨"ConditionedProofsModel", "wrong", "(I)I"⟩, prog_13_method_48_code, 2, (some .int))
theorem k_M_wrong : cp_cd m_M_wrong 1 := ⟨cp_in (List.mem_append_right _ (List.mem_append_right _ (List.mem_append_right _ (List.mem_append_right _ (List.mem_append_right _ (List.mem_append_left _ (List.mem_of_getElem? (i := 150) rfl))))))) rfl, cp_in (List.mem_append_left _ (List.mem_of_getElem? (i := 11) rfl)) rfl, by decide, by decide, by decide, by decide +kernel⟩
abbrev m_M_simple : cp_M := (⟨"ConditionedProofsModel", "simple", "(I)I"⟩, prog_13_method_49_code, 3, (some .int))
theorem k_M_simple : cp_cd m_M_simple 1 := ⟨cp_in (List.mem_append_right _ (List.mem_append_right _ (List.mem_append_right _ (List.mem_append_right _ (List.mem_append_right _ (List.mem_append_left _ (List.mem_of_getElem? (i := 142) rfl))))))) rfl, cp_in (List.mem_append_left _ (List.mem_of_getElem? (i := 11) rfl)) rfl, by decide, by decide, by decide, by decide +kernel⟩
abbrev m_M_begin : cp_M := (⟨"ConditionedProofsModel", "begin", "(II)Z"⟩, prog_13_method_50_code, 5, (some .boolean))
theorem k_M_begin : cp_cd m_M_begin 2 := ⟨cp_in (List.mem_append_right _ (List.mem_append_right _ (List.mem_append_right _ (List.mem_append_right _ (List.mem_append_right _ (List.mem_append_left _ (List.mem_of_getElem? (i := 154) rfl))))))) rfl, cp_in (List.mem_append_left _ (List.mem_of_getElem? (i := 11) rfl)) rfl, by decide, by decide, by decide, by decide +kernel⟩
abbrev m_M_settle : cp_M := (⟨"ConditionedProofsModel", "settle", "(I)V"⟩, prog_13_method_51_code, 3, none)
theorem k_M_settle : cp_cd m_M_settle 1 := ⟨cp_in (List.mem_append_right _ (List.mem_append_right _ (List.mem_append_right _ (List.mem_append_right _ (List.mem_append_right _ (List.mem_append_right _ (List.mem_of_getElem? (i := 22) rfl))))))) rfl, cp_in (List.mem_append_left _ (List.mem_of_getElem? (i := 11) rfl)) rfl, by decide, by decide, by decide, by decide +kernel⟩
abbrev m_M_condition : cp_M := (⟨"ConditionedProofsModel", "condition", "(II)Z"⟩, prog_13_method_52_code, 9, (some .boolean))
theorem k_M_condition : cp_cd m_M_condition 2 := ⟨cp_in (List.mem_append_right _ (List.mem_append_right _ (List.mem_append_right _ (List.mem_append_right _ (List.mem_append_right _ (List.mem_append_left _ (List.mem_of_getElem? (i := 166) rfl))))))) rfl, cp_in (List.mem_append_left _ (List.mem_of_getElem? (i := 11) rfl)) rfl, by decide, by decide, by decide, by decide +kernel⟩
abbrev m_M_goOn : cp_M := (⟨"ConditionedProofsModel", "goOn", "(I)I"⟩, prog_13_method_53_code, 5, (some .int))
theorem k_M_goOn : cp_cd m_M_goOn 1 := ⟨cp_in (List.mem_append_right _ (List.mem_append_right _ (List.mem_append_right _ (List.mem_append_right _ (List.mem_append_right _ (List.mem_append_left _ (List.mem_of_getElem? (i := 162) rfl))))))) rfl, cp_in (List.mem_append_left _ (List.mem_of_getElem? (i := 11) rfl)) rfl, by decide, by decide, by decide, by decide +kernel⟩
abbrev m_M_typeOf : cp_M := (⟨"ConditionedProofsModel", "typeOf", "(I)I"⟩, prog_13_method_54_code, 6, (some .int))
theorem k_M_typeOf : cp_cd m_M_typeOf 1 := ⟨cp_in (List.mem_append_right _ (List.mem_append_right _ (List.mem_append_right _ (List.mem_append_right _ (List.mem_append_right _ (List.mem_append_left _ (List.mem_of_getElem? (i := 138) rfl))))))) rfl, cp_in (List.mem_append_left _ (List.mem_of_getElem? (i := 11) rfl)) rfl, by decide, by decide, by decide, by decide +kernel⟩
abbrev m_M_suits : cp_M := (⟨"ConditionedProofsModel", "suits", "(IIZ)Z"⟩, prog_13_method_55_code, 5, (some .boolean))
theorem k_M_suits : cp_cd m_M_suits 3 := ⟨cp_in (List.mem_append_right _ (List.mem_append_right _ (List.mem_append_right _ (List.mem_append_right _ (List.mem_append_right _ (List.mem_append_right _ (List.mem_of_getElem? (i := 26) rfl))))))) rfl, cp_in (List.mem_append_left _ (List.mem_of_getElem? (i := 11) rfl)) rfl, by decide, by decide, by decide, by decide +kernel⟩
abbrev m_M_noNames : cp_M := (⟨"ConditionedProofsModel", "noNames", "()V"⟩, prog_13_method_56_code, 2, none)
theorem k_M_noNames : cp_cd m_M_noNames 0 := ⟨cp_in (List.mem_append_right _ (List.mem_append_right _ (List.mem_append_right _ (List.mem_append_right _ (List.mem_append_right _ (List.mem_append_left _ (List.mem_of_getElem? (i := 130) rfl))))))) rfl, cp_in (List.mem_append_left _ (List.mem_of_getElem? (i := 11) rfl)) rfl, by decide, by decide, by decide, by decide +kernel⟩
abbrev m_M_mayName : cp_M := (⟨"ConditionedProofsModel", "mayName", "(C)Z"⟩, prog_13_method_57_code, 2, (some .boolean))
theorem k_M_mayName : cp_cd m_M_mayName 1 := ⟨cp_in (List.mem_append_right _ (List.mem_append_right _ (List.mem_append_right _ (List.mem_append_right _ (List.mem_append_right _ (List.mem_append_left _ (List.mem_of_getElem? (i := 65) rfl))))))) rfl, cp_in (List.mem_append_left _ (List.mem_of_getElem? (i := 11) rfl)) rfl, by decide, by decide, by decide, by decide +kernel⟩
abbrev m_M_isType : cp_M := (⟨"ConditionedProofsModel", "isType", "(I)Z"⟩, prog_13_method_58_code, 3, (some .boolean))
theorem k_M_isType : cp_cd m_M_isType 1 := ⟨cp_in (List.mem_append_right _ (List.mem_append_right _ (List.mem_append_right _ (List.mem_append_right _ (List.mem_append_right _ (List.mem_append_right _ (List.mem_of_getElem? (i := 30) rfl))))))) rfl, cp_in (List.mem_append_left _ (List.mem_of_getElem? (i := 11) rfl)) rfl, by decide, by decide, by decide, by decide +kernel⟩
abbrev m_M_isRightCondition : cp_M := (⟨"ConditionedProofsModel", "isRightCondition", "(I)Z"⟩, prog_13_method_59_code, 5, (some .boolean))
theorem k_M_isRightCondition : cp_cd m_M_isRightCondition 1 := ⟨cp_in (List.mem_append_right _ (List.mem_append_right _ (List.mem_append_right _ (List.mem_append_right _ (List.mem_append_right _ (List.mem_append_left _ (List.mem_of_getElem? (i := 134) rfl))))))) rfl, cp_in (List.mem_append_left _ (List.mem_of_getElem? (i := 11) rfl)) rfl, by decide, by decide, by decide, by decide +kernel⟩
abbrev m_M_isRight : cp_M := (⟨"ConditionedProofsModel", "isRight", "(I)Z"⟩, prog_13_method_60_code, 4, (some .boolean))
theorem k_M_isRight : cp_cd m_M_isRight 1 := ⟨cp_in (List.mem_append_right _ (List.mem_append_right _ (List.mem_append_right _ (List.mem_append_right _ (List.mem_append_right _ (List.mem_append_left _ (List.mem_of_getElem? (i := 122) rfl))))))) rfl, cp_in (List.mem_append_left _ (List.mem_of_getElem? (i := 11) rfl)) rfl, by decide, by decide, by decide, by decide +kernel⟩
abbrev m_M_remember : cp_M := (⟨"ConditionedProofsModel", "remember", "(III)V"⟩, prog_13_method_61_code, 4, none)
theorem k_M_remember : cp_cd m_M_remember 3 := ⟨cp_in (List.mem_append_right _ (List.mem_append_right _ (List.mem_append_right _ (List.mem_append_right _ (List.mem_append_right _ (List.mem_append_right _ (List.mem_of_getElem? (i := 34) rfl))))))) rfl, cp_in (List.mem_append_left _ (List.mem_of_getElem? (i := 11) rfl)) rfl, by decide, by decide, by decide, by decide +kernel⟩
abbrev m_M_declare : cp_M := (⟨"ConditionedProofsModel", "declare", "(C)I"⟩, prog_13_method_62_code, 6, (some .int))
theorem k_M_declare : cp_cd m_M_declare 1 := ⟨cp_in (List.mem_append_right _ (List.mem_append_right _ (List.mem_append_right _ (List.mem_append_right _ (List.mem_append_right _ (List.mem_append_left _ (List.mem_of_getElem? (i := 61) rfl))))))) rfl, cp_in (List.mem_append_left _ (List.mem_of_getElem? (i := 11) rfl)) rfl, by decide, by decide, by decide, by decide +kernel⟩
abbrev m_M_isBound : cp_M := (⟨"ConditionedProofsModel", "isBound", "(III)Z"⟩, prog_13_method_63_code, 9, (some .boolean))
theorem k_M_isBound : cp_cd m_M_isBound 3 := ⟨cp_in (List.mem_append_right _ (List.mem_append_right _ (List.mem_append_right _ (List.mem_append_right _ (List.mem_append_right _ (List.mem_append_right _ (List.mem_of_getElem? (i := 46) rfl))))))) rfl, cp_in (List.mem_append_left _ (List.mem_of_getElem? (i := 11) rfl)) rfl, by decide, by decide, by decide, by decide +kernel⟩
abbrev m_M_isRightCode : cp_M := (⟨"ConditionedProofsModel", "isRightCode", "(III)Z"⟩, prog_13_method_64_code, 7, (some .boolean))
theorem k_M_isRightCode : cp_cd m_M_isRightCode 3 := ⟨cp_in (List.mem_append_right _ (List.mem_append_right _ (List.mem_append_right _ (List.mem_append_right _ (List.mem_append_right _ (List.mem_append_right _ (List.mem_of_getElem? (i := 42) rfl))))))) rfl, cp_in (List.mem_append_left _ (List.mem_of_getElem? (i := 11) rfl)) rfl, by decide, by decide, by decide, by decide +kernel⟩
abbrev m_M_program : cp_M := (⟨"ConditionedProofsModel", "program", "(C)I"⟩, prog_13_method_65_code, 7, (some .int))
theorem k_M_program : cp_cd m_M_program 1 := ⟨cp_in (List.mem_append_right _ (List.mem_append_right _ (List.mem_append_right _ (List.mem_append_right _ (List.mem_append_right _ (List.mem_append_right _ (List.mem_of_getElem? (i := 38) rfl))))))) rfl, cp_in (List.mem_append_left _ (List.mem_of_getElem? (i := 11) rfl)) rfl, by decide, by decide, by decide, by decide +kernel⟩
abbrev m_M_check : cp_M := (⟨"ConditionedProofsModel", "check", "()I"⟩, prog_13_method_66_code, 6, (some .int))
theorem k_M_check : cp_cd m_M_check 0 := ⟨cp_in (List.mem_append_right _ (List.mem_append_right _ (List.mem_append_right _ (List.mem_append_right _ (List.mem_append_right _ (List.mem_append_right _ (List.mem_of_getElem? (i := 50) rfl))))))) rfl, cp_in (List.mem_append_left _ (List.mem_of_getElem? (i := 11) rfl)) rfl, by decide, by decide, by decide, by decide +kernel⟩
abbrev m_M_lemma : cp_M := (⟨"ConditionedProofsModel", "lemma", "(C)V"⟩, prog_13_method_67_code, 5, none)
theorem k_M_lemma : cp_cd m_M_lemma 1 := ⟨cp_in (List.mem_append_right _ (List.mem_append_right _ (List.mem_append_right _ (List.mem_append_right _ (List.mem_append_right _ (List.mem_append_right _ (List.mem_of_getElem? (i := 67) rfl))))))) rfl, cp_in (List.mem_append_left _ (List.mem_of_getElem? (i := 11) rfl)) rfl, by decide, by decide, by decide, by decide +kernel⟩
abbrev m_M_retract : cp_M := (⟨"ConditionedProofsModel", "retract", "()C"⟩, prog_13_method_68_code, 2, (some .char))
theorem k_M_retract : cp_cd m_M_retract 0 := ⟨cp_in (List.mem_append_right _ (List.mem_append_right _ (List.mem_append_right _ (List.mem_append_right _ (List.mem_append_right _ (List.mem_append_right _ (List.mem_of_getElem? (i := 71) rfl))))))) rfl, cp_in (List.mem_append_left _ (List.mem_of_getElem? (i := 11) rfl)) rfl, by decide, by decide, by decide, by decide +kernel⟩
abbrev m_M_run : cp_M := (⟨"ConditionedProofsModel", "run", "(C)I"⟩, prog_13_method_69_code, 10, (some .int))
theorem k_M_run : cp_cd m_M_run 1 := ⟨cp_in (List.mem_append_right _ (List.mem_append_right _ (List.mem_append_right _ (List.mem_append_right _ (List.mem_append_right _ (List.mem_append_right _ (List.mem_of_getElem? (i := 75) rfl))))))) rfl, cp_in (List.mem_append_left _ (List.mem_of_getElem? (i := 11) rfl)) rfl, by decide, by decide, by decide, by decide +kernel⟩
abbrev m_M_steps : cp_M := (⟨"ConditionedProofsModel", "steps", "()I"⟩, prog_13_method_70_code, 1, (some .int))
theorem k_M_steps : cp_cd m_M_steps 0 := ⟨cp_in (List.mem_append_right _ (List.mem_append_right _ (List.mem_append_right _ (List.mem_append_right _ (List.mem_append_right _ (List.mem_append_right _ (List.mem_of_getElem? (i := 79) rfl))))))) rfl, cp_in (List.mem_append_left _ (List.mem_of_getElem? (i := 11) rfl)) rfl, by decide, by decide, by decide, by decide +kernel⟩
abbrev m_M_kind : cp_M := (⟨"ConditionedProofsModel", "kind", "(C)I"⟩, prog_13_method_71_code, 2, (some .int))
theorem k_M_kind : cp_cd m_M_kind 1 := ⟨cp_in (List.mem_append_right _ (List.mem_append_right _ (List.mem_append_right _ (List.mem_append_right _ (List.mem_append_right _ (List.mem_append_right _ (List.mem_of_getElem? (i := 83) rfl))))))) rfl, cp_in (List.mem_append_left _ (List.mem_of_getElem? (i := 11) rfl)) rfl, by decide, by decide, by decide, by decide +kernel⟩
abbrev m_M_parameters : cp_M := (⟨"ConditionedProofsModel", "parameters", "(C)I"⟩, prog_13_method_72_code, 2, (some .int))
theorem k_M_parameters : cp_cd m_M_parameters 1 := ⟨cp_in (List.mem_append_right _ (List.mem_append_right _ (List.mem_append_right _ (List.mem_append_right _ (List.mem_append_right _ (List.mem_append_right _ (List.mem_of_getElem? (i := 87) rfl))))))) rfl, cp_in (List.mem_append_left _ (List.mem_of_getElem? (i := 11) rfl)) rfl, by decide, by decide, by decide, by decide +kernel⟩
abbrev m_M_length : cp_M := (⟨"ConditionedProofsModel", "length", "()I"⟩, prog_13_method_73_code, 1, (some .int))
theorem k_M_length : cp_cd m_M_length 0 := ⟨cp_in (List.mem_append_right _ (List.mem_append_right _ (List.mem_append_right _ (List.mem_append_right _ (List.mem_append_right _ (List.mem_append_right _ (List.mem_of_getElem? (i := 91) rfl))))))) rfl, cp_in (List.mem_append_left _ (List.mem_of_getElem? (i := 11) rfl)) rfl, by decide, by decide, by decide, by decide +kernel⟩
abbrev m_M_charAt : cp_M := (⟨"ConditionedProofsModel", "charAt", "(I)C"⟩, prog_13_method_74_code, 2, (some .char))
theorem k_M_charAt : cp_cd m_M_charAt 1 := ⟨cp_in (List.mem_append_right _ (List.mem_append_right _ (List.mem_append_right _ (List.mem_append_right _ (List.mem_append_right _ (List.mem_append_right _ (List.mem_of_getElem? (i := 95) rfl))))))) rfl, cp_in (List.mem_append_left _ (List.mem_of_getElem? (i := 11) rfl)) rfl, by decide, by decide, by decide, by decide +kernel⟩
theorem fl_M_7 : cp_fl "ConditionedProofsModel" 7 11 2 := ⟨cp_ok11, by decide, cp_in (List.mem_append_right _ (List.mem_append_right _ (List.mem_append_right _ (List.mem_append_right _ (List.mem_append_left _ (List.mem_of_getElem? (i := 29) rfl)))))) rfl⟩
theorem fl_M_13 : cp_fl "ConditionedProofsModel" 13 11 4 := ⟨cp_ok11, by decide, cp_in (List.mem_append_right _ (List.mem_append_right _ (List.mem_append_right _ (List.mem_append_right _ (List.mem_append_left _ (List.mem_of_getElem? (i := 31) rfl)))))) rfl⟩
theorem fl_M_16 : cp_fl "ConditionedProofsModel" 16 11 5 := ⟨cp_ok11, by decide, cp_in (List.mem_append_right _ (List.mem_append_right _ (List.mem_append_right _ (List.mem_append_right _ (List.mem_append_left _ (List.mem_of_getElem? (i := 32) rfl)))))) rfl⟩
theorem fl_M_19 : cp_fl "ConditionedProofsModel" 19 11 6 := ⟨cp_ok11, by decide, cp_in (List.mem_append_right _ (List.mem_append_right _ (List.mem_append_right _ (List.mem_append_right _ (List.mem_append_left _ (List.mem_of_getElem? (i := 33) rfl)))))) rfl⟩
theorem fl_M_22 : cp_fl "ConditionedProofsModel" 22 11 7 := ⟨cp_ok11, by decide, cp_in (List.mem_append_right _ (List.mem_append_right _ (List.mem_append_right _ (List.mem_append_right _ (List.mem_append_left _ (List.mem_of_getElem? (i := 34) rfl)))))) rfl⟩
theorem fl_M_25 : cp_fl "ConditionedProofsModel" 25 11 8 := ⟨cp_ok11, by decide, cp_in (List.mem_append_right _ (List.mem_append_right _ (List.mem_append_right _ (List.mem_append_right _ (List.mem_append_left _ (List.mem_of_getElem? (i := 35) rfl)))))) rfl⟩
theorem fl_M_28 : cp_fl "ConditionedProofsModel" 28 11 9 := ⟨cp_ok11, by decide, cp_in (List.mem_append_right _ (List.mem_append_right _ (List.mem_append_right _ (List.mem_append_right _ (List.mem_append_left _ (List.mem_of_getElem? (i := 36) rfl)))))) rfl⟩
theorem fl_M_31 : cp_fl "ConditionedProofsModel" 31 11 10 := ⟨cp_ok11, by decide, cp_in (List.mem_append_right _ (List.mem_append_right _ (List.mem_append_right _ (List.mem_append_right _ (List.mem_append_left _ (List.mem_of_getElem? (i := 37) rfl)))))) rfl⟩
theorem fl_M_34 : cp_fl "ConditionedProofsModel" 34 11 11 := ⟨cp_ok11, by decide, cp_in (List.mem_append_right _ (List.mem_append_right _ (List.mem_append_right _ (List.mem_append_right _ (List.mem_append_left _ (List.mem_of_getElem? (i := 38) rfl)))))) rfl⟩
theorem fl_M_37 : cp_fl "ConditionedProofsModel" 37 11 12 := ⟨cp_ok11, by decide, cp_in (List.mem_append_right _ (List.mem_append_right _ (List.mem_append_right _ (List.mem_append_right _ (List.mem_append_left _ (List.mem_of_getElem? (i := 39) rfl)))))) rfl⟩
theorem fl_M_40 : cp_fl "ConditionedProofsModel" 40 11 13 := ⟨cp_ok11, by decide, cp_in (List.mem_append_right _ (List.mem_append_right _ (List.mem_append_right _ (List.mem_append_right _ (List.mem_append_left _ (List.mem_of_getElem? (i := 40) rfl)))))) rfl⟩
theorem fl_M_43 : cp_fl "ConditionedProofsModel" 43 11 15 := ⟨cp_ok11, by decide, cp_in (List.mem_append_right _ (List.mem_append_right _ (List.mem_append_right _ (List.mem_append_right _ (List.mem_append_left _ (List.mem_of_getElem? (i := 42) rfl)))))) rfl⟩
theorem fl_M_46 : cp_fl "ConditionedProofsModel" 46 11 17 := ⟨cp_ok11, by decide, cp_in (List.mem_append_right _ (List.mem_append_right _ (List.mem_append_right _ (List.mem_append_right _ (List.mem_append_left _ (List.mem_of_getElem? (i := 44) rfl)))))) rfl⟩
theorem fl_M_49 : cp_fl "ConditionedProofsModel" 49 11 18 := ⟨cp_ok11, by decide, cp_in (List.mem_append_right _ (List.mem_append_right _ (List.mem_append_right _ (List.mem_append_right _ (List.mem_append_left _ (List.mem_of_getElem? (i := 45) rfl)))))) rfl⟩
theorem fl_M_52 : cp_fl "ConditionedProofsModel" 52 11 19 := ⟨cp_ok11, by decide, cp_in (List.mem_append_right _ (List.mem_append_right _ (List.mem_append_right _ (List.mem_append_right _ (List.mem_append_left _ (List.mem_of_getElem? (i := 46) rfl)))))) rfl⟩
theorem fl_M_55 : cp_fl "ConditionedProofsModel" 55 11 21 := ⟨cp_ok11, by decide, cp_in (List.mem_append_right _ (List.mem_append_right _ (List.mem_append_right _ (List.mem_append_right _ (List.mem_append_left _ (List.mem_of_getElem? (i := 48) rfl)))))) rfl⟩
theorem fl_M_58 : cp_fl "ConditionedProofsModel" 58 11 22 := ⟨cp_ok11, by decide, cp_in (List.mem_append_right _ (List.mem_append_right _ (List.mem_append_right _ (List.mem_append_right _ (List.mem_append_left _ (List.mem_of_getElem? (i := 49) rfl)))))) rfl⟩
theorem fl_M_61 : cp_fl "ConditionedProofsModel" 61 11 24 := ⟨cp_ok11, by decide, cp_in (List.mem_append_right _ (List.mem_append_right _ (List.mem_append_right _ (List.mem_append_right _ (List.mem_append_left _ (List.mem_of_getElem? (i := 51) rfl)))))) rfl⟩
theorem fl_M_64 : cp_fl "ConditionedProofsModel" 64 11 25 := ⟨cp_ok11, by decide, cp_in (List.mem_append_right _ (List.mem_append_right _ (List.mem_append_right _ (List.mem_append_right _ (List.mem_append_left _ (List.mem_of_getElem? (i := 52) rfl)))))) rfl⟩
theorem fl_M_67 : cp_fl "ConditionedProofsModel" 67 11 26 := ⟨cp_ok11, by decide, cp_in (List.mem_append_right _ (List.mem_append_right _ (List.mem_append_right _ (List.mem_append_right _ (List.mem_append_left _ (List.mem_of_getElem? (i := 53) rfl)))))) rfl⟩
theorem fl_M_70 : cp_fl "ConditionedProofsModel" 70 11 27 := ⟨cp_ok11, by decide, cp_in (List.mem_append_right _ (List.mem_append_right _ (List.mem_append_right _ (List.mem_append_right _ (List.mem_append_left _ (List.mem_of_getElem? (i := 54) rfl)))))) rfl⟩
theorem fl_M_73 : cp_fl "ConditionedProofsModel" 73 11 28 := ⟨cp_ok11, by decide, cp_in (List.mem_append_right _ (List.mem_append_right _ (List.mem_append_right _ (List.mem_append_right _ (List.mem_append_left _ (List.mem_of_getElem? (i := 55) rfl)))))) rfl⟩
theorem fl_M_76 : cp_fl "ConditionedProofsModel" 76 11 30 := ⟨cp_ok11, by decide, cp_in (List.mem_append_right _ (List.mem_append_right _ (List.mem_append_right _ (List.mem_append_right _ (List.mem_append_left _ (List.mem_of_getElem? (i := 57) rfl)))))) rfl⟩
theorem fl_M_79 : cp_fl "ConditionedProofsModel" 79 11 31 := ⟨cp_ok11, by decide, cp_in (List.mem_append_right _ (List.mem_append_right _ (List.mem_append_right _ (List.mem_append_right _ (List.mem_append_left _ (List.mem_of_getElem? (i := 58) rfl)))))) rfl⟩
theorem fl_M_82 : cp_fl "ConditionedProofsModel" 82 11 32 := ⟨cp_ok11, by decide, cp_in (List.mem_append_right _ (List.mem_append_right _ (List.mem_append_right _ (List.mem_append_right _ (List.mem_append_left _ (List.mem_of_getElem? (i := 59) rfl)))))) rfl⟩
theorem fl_M_85 : cp_fl "ConditionedProofsModel" 85 11 36 := ⟨cp_ok11, by decide, cp_in (List.mem_append_right _ (List.mem_append_right _ (List.mem_append_right _ (List.mem_append_right _ (List.mem_append_left _ (List.mem_of_getElem? (i := 63) rfl)))))) rfl⟩
theorem fl_M_88 : cp_fl "ConditionedProofsModel" 88 11 37 := ⟨cp_ok11, by decide, cp_in (List.mem_append_right _ (List.mem_append_right _ (List.mem_append_right _ (List.mem_append_right _ (List.mem_append_left _ (List.mem_of_getElem? (i := 64) rfl)))))) rfl⟩
theorem fl_M_91 : cp_fl "ConditionedProofsModel" 91 11 38 := ⟨cp_ok11, by decide, cp_in (List.mem_append_right _ (List.mem_append_right _ (List.mem_append_right _ (List.mem_append_right _ (List.mem_append_left _ (List.mem_of_getElem? (i := 65) rfl)))))) rfl⟩
theorem fl_M_94 : cp_fl "ConditionedProofsModel" 94 11 39 := ⟨cp_ok11, by decide, cp_in (List.mem_append_right _ (List.mem_append_right _ (List.mem_append_right _ (List.mem_append_right _ (List.mem_append_left _ (List.mem_of_getElem? (i := 66) rfl)))))) rfl⟩
theorem fl_M_97 : cp_fl "ConditionedProofsModel" 97 11 41 := ⟨cp_ok11, by decide, cp_in (List.mem_append_right _ (List.mem_append_right _ (List.mem_append_right _ (List.mem_append_right _ (List.mem_append_left _ (List.mem_of_getElem? (i := 68) rfl)))))) rfl⟩
theorem fl_M_100 : cp_fl "ConditionedProofsModel" 100 11 43 := ⟨cp_ok11, by decide, cp_in (List.mem_append_right _ (List.mem_append_right _ (List.mem_append_right _ (List.mem_append_right _ (List.mem_append_left _ (List.mem_of_getElem? (i := 70) rfl)))))) rfl⟩
theorem fl_M_103 : cp_fl "ConditionedProofsModel" 103 11 45 := ⟨cp_ok11, by decide, cp_in (List.mem_append_right _ (List.mem_append_right _ (List.mem_append_right _ (List.mem_append_right _ (List.mem_append_left _ (List.mem_of_getElem? (i := 72) rfl)))))) rfl⟩
theorem fl_M_106 : cp_fl "ConditionedProofsModel" 106 11 46 := ⟨cp_ok11, by decide, cp_in (List.mem_append_right _ (List.mem_append_right _ (List.mem_append_right _ (List.mem_append_right _ (List.mem_append_left _ (List.mem_of_getElem? (i := 73) rfl)))))) rfl⟩
theorem fl_M_109 : cp_fl "ConditionedProofsModel" 109 11 47 := ⟨cp_ok11, by decide, cp_in (List.mem_append_right _ (List.mem_append_right _ (List.mem_append_right _ (List.mem_append_right _ (List.mem_append_left _ (List.mem_of_getElem? (i := 74) rfl)))))) rfl⟩
theorem fl_M_112 : cp_fl "ConditionedProofsModel" 112 11 48 := ⟨cp_ok11, by decide, cp_in (List.mem_append_right _ (List.mem_append_right _ (List.mem_append_right _ (List.mem_append_right _ (List.mem_append_left _ (List.mem_of_getElem? (i := 75) rfl)))))) rfl⟩
theorem fl_M_115 : cp_fl "ConditionedProofsModel" 115 11 49 := ⟨cp_ok11, by decide, cp_in (List.mem_append_right _ (List.mem_append_right _ (List.mem_append_right _ (List.mem_append_right _ (List.mem_append_left _ (List.mem_of_getElem? (i := 76) rfl)))))) rfl⟩
theorem fl_M_118 : cp_fl "ConditionedProofsModel" 118 11 50 := ⟨cp_ok11, by decide, cp_in (List.mem_append_right _ (List.mem_append_right _ (List.mem_append_right _ (List.mem_append_right _ (List.mem_append_left _ (List.mem_of_getElem? (i := 77) rfl)))))) rfl⟩
theorem fl_M_121 : cp_fl "ConditionedProofsModel" 121 11 51 := ⟨cp_ok11, by decide, cp_in (List.mem_append_right _ (List.mem_append_right _ (List.mem_append_right _ (List.mem_append_right _ (List.mem_append_left _ (List.mem_of_getElem? (i := 78) rfl)))))) rfl⟩
theorem fl_M_124 : cp_fl "ConditionedProofsModel" 124 11 52 := ⟨cp_ok11, by decide, cp_in (List.mem_append_right _ (List.mem_append_right _ (List.mem_append_right _ (List.mem_append_right _ (List.mem_append_left _ (List.mem_of_getElem? (i := 79) rfl)))))) rfl⟩
theorem fl_M_127 : cp_fl "ConditionedProofsModel" 127 11 53 := ⟨cp_ok11, by decide, cp_in (List.mem_append_right _ (List.mem_append_right _ (List.mem_append_right _ (List.mem_append_right _ (List.mem_append_left _ (List.mem_of_getElem? (i := 80) rfl)))))) rfl⟩
theorem fl_M_130 : cp_fl "ConditionedProofsModel" 130 11 54 := ⟨cp_ok11, by decide, cp_in (List.mem_append_right _ (List.mem_append_right _ (List.mem_append_right _ (List.mem_append_right _ (List.mem_append_left _ (List.mem_of_getElem? (i := 81) rfl)))))) rfl⟩
theorem fl_M_133 : cp_fl "ConditionedProofsModel" 133 11 55 := ⟨cp_ok11, by decide, cp_in (List.mem_append_right _ (List.mem_append_right _ (List.mem_append_right _ (List.mem_append_right _ (List.mem_append_left _ (List.mem_of_getElem? (i := 82) rfl)))))) rfl⟩
theorem fl_M_136 : cp_fl "ConditionedProofsModel" 136 11 56 := ⟨cp_ok11, by decide, cp_in (List.mem_append_right _ (List.mem_append_right _ (List.mem_append_right _ (List.mem_append_right _ (List.mem_append_left _ (List.mem_of_getElem? (i := 83) rfl)))))) rfl⟩
theorem fl_M_139 : cp_fl "ConditionedProofsModel" 139 11 57 := ⟨cp_ok11, by decide, cp_in (List.mem_append_right _ (List.mem_append_right _ (List.mem_append_right _ (List.mem_append_right _ (List.mem_append_left _ (List.mem_of_getElem? (i := 84) rfl)))))) rfl⟩
theorem fl_M_142 : cp_fl "ConditionedProofsModel" 142 11 65 := ⟨cp_ok11, by decide, cp_in (List.mem_append_right _ (List.mem_append_right _ (List.mem_append_right _ (List.mem_append_right _ (List.mem_append_left _ (List.mem_of_getElem? (i := 92) rfl)))))) rfl⟩
theorem fl_M_145 : cp_fl "ConditionedProofsModel" 145 11 66 := ⟨cp_ok11, by decide, cp_in (List.mem_append_right _ (List.mem_append_right _ (List.mem_append_right _ (List.mem_append_right _ (List.mem_append_left _ (List.mem_of_getElem? (i := 93) rfl)))))) rfl⟩
theorem fl_M_148 : cp_fl "ConditionedProofsModel" 148 11 67 := ⟨cp_ok11, by decide, cp_in (List.mem_append_right _ (List.mem_append_right _ (List.mem_append_right _ (List.mem_append_right _ (List.mem_append_left _ (List.mem_of_getElem? (i := 94) rfl)))))) rfl⟩
theorem fl_M_151 : cp_fl "ConditionedProofsModel" 151 11 68 := ⟨cp_ok11, by decide, cp_in (List.mem_append_right _ (List.mem_append_right _ (List.mem_append_right _ (List.mem_append_right _ (List.mem_append_left _ (List.mem_of_getElem? (i := 95) rfl)))))) rfl⟩
theorem fl_M_154 : cp_fl "ConditionedProofsModel" 154 11 69 := ⟨cp_ok11, by decide, cp_in (List.mem_append_right _ (List.mem_append_right _ (List.mem_append_right _ (List.mem_append_right _ (List.mem_append_left _ (List.mem_of_getElem? (i := 96) rfl)))))) rfl⟩
theorem fl_M_157 : cp_fl "ConditionedProofsModel" 157 11 71 := ⟨cp_ok11, by decide, cp_in (List.mem_append_right _ (List.mem_append_right _ (List.mem_append_right _ (List.mem_append_right _ (List.mem_append_left _ (List.mem_of_getElem? (i := 98) rfl)))))) rfl⟩
theorem fl_M_160 : cp_fl "ConditionedProofsModel" 160 11 72 := ⟨cp_ok11, by decide, cp_in (List.mem_append_right _ (List.mem_append_right _ (List.mem_append_right _ (List.mem_append_right _ (List.mem_append_left _ (List.mem_of_getElem? (i := 99) rfl)))))) rfl⟩
theorem fl_M_163 : cp_fl "ConditionedProofsModel" 163 11 73 := ⟨cp_ok11, by decide, cp_in (List.mem_append_right _ (List.mem_append_right _ (List.mem_append_right _ (List.mem_append_right _ (List.mem_append_left _ (List.mem_of_getElem? (i := 100) rfl)))))) rfl⟩
theorem fl_M_166 : cp_fl "ConditionedProofsModel" 166 11 76 := ⟨cp_ok11, by decide, cp_in (List.mem_append_right _ (List.mem_append_right _ (List.mem_append_right _ (List.mem_append_right _ (List.mem_append_left _ (List.mem_of_getElem? (i := 103) rfl)))))) rfl⟩
theorem fl_M_169 : cp_fl "ConditionedProofsModel" 169 11 77 := ⟨cp_ok11, by decide, cp_in (List.mem_append_right _ (List.mem_append_right _ (List.mem_append_right _ (List.mem_append_right _ (List.mem_append_left _ (List.mem_of_getElem? (i := 104) rfl)))))) rfl⟩
theorem fl_M_172 : cp_fl "ConditionedProofsModel" 172 11 78 := ⟨cp_ok11, by decide, cp_in (List.mem_append_right _ (List.mem_append_right _ (List.mem_append_right _ (List.mem_append_right _ (List.mem_append_left _ (List.mem_of_getElem? (i := 105) rfl)))))) rfl⟩
theorem fl_M_175 : cp_fl "ConditionedProofsModel" 175 11 83 := ⟨cp_ok11, by decide, cp_in (List.mem_append_right _ (List.mem_append_right _ (List.mem_append_right _ (List.mem_append_right _ (List.mem_append_left _ (List.mem_of_getElem? (i := 110) rfl)))))) rfl⟩
theorem fl_M_178 : cp_fl "ConditionedProofsModel" 178 11 84 := ⟨cp_ok11, by decide, cp_in (List.mem_append_right _ (List.mem_append_right _ (List.mem_append_right _ (List.mem_append_right _ (List.mem_append_left _ (List.mem_of_getElem? (i := 111) rfl)))))) rfl⟩
theorem fl_M_181 : cp_fl "ConditionedProofsModel" 181 11 85 := ⟨cp_ok11, by decide, cp_in (List.mem_append_right _ (List.mem_append_right _ (List.mem_append_right _ (List.mem_append_right _ (List.mem_append_left _ (List.mem_of_getElem? (i := 112) rfl)))))) rfl⟩
theorem fl_M_184 : cp_fl "ConditionedProofsModel" 184 11 0 := ⟨cp_ok11, by decide, cp_in (List.mem_append_right _ (List.mem_append_right _ (List.mem_append_right _ (List.mem_append_right _ (List.mem_append_left _ (List.mem_of_getElem? (i := 27) rfl)))))) rfl⟩
theorem fl_M_188 : cp_fl "ConditionedProofsModel" 188 11 1 := ⟨cp_ok11, by decide, cp_in (List.mem_append_right _ (List.mem_append_right _ (List.mem_append_right _ (List.mem_append_right _ (List.mem_append_left _ (List.mem_of_getElem? (i := 28) rfl)))))) rfl⟩
theorem fl_M_191 : cp_fl "ConditionedProofsModel" 191 11 29 := ⟨cp_ok11, by decide, cp_in (List.mem_append_right _ (List.mem_append_right _ (List.mem_append_right _ (List.mem_append_right _ (List.mem_append_left _ (List.mem_of_getElem? (i := 56) rfl)))))) rfl⟩
theorem fl_M_194 : cp_fl "ConditionedProofsModel" 194 11 16 := ⟨cp_ok11, by decide, cp_in (List.mem_append_right _ (List.mem_append_right _ (List.mem_append_right _ (List.mem_append_right _ (List.mem_append_left _ (List.mem_of_getElem? (i := 43) rfl)))))) rfl⟩
theorem fl_M_197 : cp_fl "ConditionedProofsModel" 197 11 20 := ⟨cp_ok11, by decide, cp_in (List.mem_append_right _ (List.mem_append_right _ (List.mem_append_right _ (List.mem_append_right _ (List.mem_append_left _ (List.mem_of_getElem? (i := 47) rfl)))))) rfl⟩
theorem fl_M_222 : cp_fl "ConditionedProofsModel" 222 11 33 := ⟨cp_ok11, by decide, cp_in (List.mem_append_right _ (List.mem_append_right _ (List.mem_append_right _ (List.mem_append_right _ (List.mem_append_left _ (List.mem_of_getElem? (i := 60) rfl)))))) rfl⟩
theorem fl_M_243 : cp_fl "ConditionedProofsModel" 243 11 34 := ⟨cp_ok11, by decide, cp_in (List.mem_append_right _ (List.mem_append_right _ (List.mem_append_right _ (List.mem_append_right _ (List.mem_append_left _ (List.mem_of_getElem? (i := 61) rfl)))))) rfl⟩
theorem fl_M_253 : cp_fl "ConditionedProofsModel" 253 11 23 := ⟨cp_ok11, by decide, cp_in (List.mem_append_right _ (List.mem_append_right _ (List.mem_append_right _ (List.mem_append_right _ (List.mem_append_left _ (List.mem_of_getElem? (i := 50) rfl)))))) rfl⟩
theorem fl_M_259 : cp_fl "ConditionedProofsModel" 259 11 35 := ⟨cp_ok11, by decide, cp_in (List.mem_append_right _ (List.mem_append_right _ (List.mem_append_right _ (List.mem_append_right _ (List.mem_append_left _ (List.mem_of_getElem? (i := 62) rfl)))))) rfl⟩
theorem fl_M_262 : cp_fl "ConditionedProofsModel" 262 11 40 := ⟨cp_ok11, by decide, cp_in (List.mem_append_right _ (List.mem_append_right _ (List.mem_append_right _ (List.mem_append_right _ (List.mem_append_left _ (List.mem_of_getElem? (i := 67) rfl)))))) rfl⟩
theorem fl_M_265 : cp_fl "ConditionedProofsModel" 265 11 42 := ⟨cp_ok11, by decide, cp_in (List.mem_append_right _ (List.mem_append_right _ (List.mem_append_right _ (List.mem_append_right _ (List.mem_append_left _ (List.mem_of_getElem? (i := 69) rfl)))))) rfl⟩
theorem fl_M_284 : cp_fl "ConditionedProofsModel" 284 11 44 := ⟨cp_ok11, by decide, cp_in (List.mem_append_right _ (List.mem_append_right _ (List.mem_append_right _ (List.mem_append_right _ (List.mem_append_left _ (List.mem_of_getElem? (i := 71) rfl)))))) rfl⟩
theorem fl_M_302 : cp_fl "ConditionedProofsModel" 302 11 75 := ⟨cp_ok11, by decide, cp_in (List.mem_append_right _ (List.mem_append_right _ (List.mem_append_right _ (List.mem_append_right _ (List.mem_append_left _ (List.mem_of_getElem? (i := 102) rfl)))))) rfl⟩
theorem fl_M_305 : cp_fl "ConditionedProofsModel" 305 11 74 := ⟨cp_ok11, by decide, cp_in (List.mem_append_right _ (List.mem_append_right _ (List.mem_append_right _ (List.mem_append_right _ (List.mem_append_left _ (List.mem_of_getElem? (i := 101) rfl)))))) rfl⟩
theorem fl_M_314 : cp_fl "ConditionedProofsModel" 314 11 3 := ⟨cp_ok11, by decide, cp_in (List.mem_append_right _ (List.mem_append_right _ (List.mem_append_right _ (List.mem_append_right _ (List.mem_append_left _ (List.mem_of_getElem? (i := 30) rfl)))))) rfl⟩
theorem fl_M_317 : cp_fl "ConditionedProofsModel" 317 11 70 := ⟨cp_ok11, by decide, cp_in (List.mem_append_right _ (List.mem_append_right _ (List.mem_append_right _ (List.mem_append_right _ (List.mem_append_left _ (List.mem_of_getElem? (i := 97) rfl)))))) rfl⟩
theorem fl_M_320 : cp_fl "ConditionedProofsModel" 320 11 61 := ⟨cp_ok11, by decide, cp_in (List.mem_append_right _ (List.mem_append_right _ (List.mem_append_right _ (List.mem_append_right _ (List.mem_append_left _ (List.mem_of_getElem? (i := 88) rfl)))))) rfl⟩
theorem fl_M_323 : cp_fl "ConditionedProofsModel" 323 11 62 := ⟨cp_ok11, by decide, cp_in (List.mem_append_right _ (List.mem_append_right _ (List.mem_append_right _ (List.mem_append_right _ (List.mem_append_left _ (List.mem_of_getElem? (i := 89) rfl)))))) rfl⟩
theorem fl_M_326 : cp_fl "ConditionedProofsModel" 326 11 63 := ⟨cp_ok11, by decide, cp_in (List.mem_append_right _ (List.mem_append_right _ (List.mem_append_right _ (List.mem_append_right _ (List.mem_append_left _ (List.mem_of_getElem? (i := 90) rfl)))))) rfl⟩
theorem fl_M_329 : cp_fl "ConditionedProofsModel" 329 11 60 := ⟨cp_ok11, by decide, cp_in (List.mem_append_right _ (List.mem_append_right _ (List.mem_append_right _ (List.mem_append_right _ (List.mem_append_left _ (List.mem_of_getElem? (i := 87) rfl)))))) rfl⟩
theorem fl_M_332 : cp_fl "ConditionedProofsModel" 332 11 64 := ⟨cp_ok11, by decide, cp_in (List.mem_append_right _ (List.mem_append_right _ (List.mem_append_right _ (List.mem_append_right _ (List.mem_append_left _ (List.mem_of_getElem? (i := 91) rfl)))))) rfl⟩
theorem fl_M_367 : cp_fl "ConditionedProofsModel" 367 11 59 := ⟨cp_ok11, by decide, cp_in (List.mem_append_right _ (List.mem_append_right _ (List.mem_append_right _ (List.mem_append_right _ (List.mem_append_left _ (List.mem_of_getElem? (i := 86) rfl)))))) rfl⟩
theorem fl_M_373 : cp_fl "ConditionedProofsModel" 373 11 58 := ⟨cp_ok11, by decide, cp_in (List.mem_append_right _ (List.mem_append_right _ (List.mem_append_right _ (List.mem_append_right _ (List.mem_append_left _ (List.mem_of_getElem? (i := 85) rfl)))))) rfl⟩
theorem fl_M_422 : cp_fl "ConditionedProofsModel" 422 11 14 := ⟨cp_ok11, by decide, cp_in (List.mem_append_right _ (List.mem_append_right _ (List.mem_append_right _ (List.mem_append_right _ (List.mem_append_left _ (List.mem_of_getElem? (i := 41) rfl)))))) rfl⟩
theorem fl_M_444 : cp_fl "ConditionedProofsModel" 444 11 79 := ⟨cp_ok11, by decide, cp_in (List.mem_append_right _ (List.mem_append_right _ (List.mem_append_right _ (List.mem_append_right _ (List.mem_append_left _ (List.mem_of_getElem? (i := 106) rfl)))))) rfl⟩
theorem fl_M_447 : cp_fl "ConditionedProofsModel" 447 11 80 := ⟨cp_ok11, by decide, cp_in (List.mem_append_right _ (List.mem_append_right _ (List.mem_append_right _ (List.mem_append_right _ (List.mem_append_left _ (List.mem_of_getElem? (i := 107) rfl)))))) rfl⟩
theorem fl_M_453 : cp_fl "ConditionedProofsModel" 453 11 81 := ⟨cp_ok11, by decide, cp_in (List.mem_append_right _ (List.mem_append_right _ (List.mem_append_right _ (List.mem_append_right _ (List.mem_append_left _ (List.mem_of_getElem? (i := 108) rfl)))))) rfl⟩
theorem fl_M_456 : cp_fl "ConditionedProofsModel" 456 11 82 := ⟨cp_ok11, by decide, cp_in (List.mem_append_right _ (List.mem_append_right _ (List.mem_append_right _ (List.mem_append_right _ (List.mem_append_left _ (List.mem_of_getElem? (i := 109) rfl)))))) rfl⟩
theorem ol_M_1 : Cond.methodLink "ConditionedProofsModel" 1 Lib.objectInit ∈ cp_WS := cp_in (List.mem_append_right _ (List.mem_append_right _ (List.mem_append_right _ (List.mem_append_right _ (List.mem_append_left _ (List.mem_of_getElem? (i := 26) rfl)))))) rfl
theorem ml_M_200 : cp_lv "ConditionedProofsModel" 200 m_M_below 11 := ⟨by decide, rfl, cp_in (List.mem_append_right _ (List.mem_append_right _ (List.mem_append_right _ (List.mem_append_right _ (List.mem_append_right _ (List.mem_append_left _ (List.mem_of_getElem? (i := 175) rfl))))))) rfl, cp_in (List.mem_append_right _ (List.mem_append_right _ (List.mem_append_right _ (List.mem_append_right _ (List.mem_append_right _ (List.mem_append_left _ (List.mem_of_getElem? (i := 177) rfl))))))) rfl, cp_inS (List.mem_map.mpr ⟨(⟨"ConditionedProofsModel", "below", "(I)I"⟩, 86), (List.mem_append_right _ (List.mem_append_right _ (List.mem_append_right _ (List.mem_append_right _ (List.mem_append_right _ (List.mem_append_left _ (List.mem_of_getElem? (i := 4) rfl))))))), rfl⟩) rfl⟩
theorem ml_M_204 : cp_ls "ConditionedProofsModel" 204 m_M_isVariable := ⟨cp_in (List.mem_append_right _ (List.mem_append_right _ (List.mem_append_right _ (List.mem_append_right _ (List.mem_append_right _ (List.mem_append_left _ (List.mem_of_getElem? (i := 89) rfl))))))) rfl, cp_in (List.mem_append_right _ (List.mem_append_right _ (List.mem_append_right _ (List.mem_append_right _ (List.mem_append_right _ (List.mem_append_left _ (List.mem_of_getElem? (i := 90) rfl))))))) rfl⟩
theorem ml_M_208 : cp_ls "ConditionedProofsModel" 208 m_M_isDigit := ⟨cp_in (List.mem_append_right _ (List.mem_append_right _ (List.mem_append_right _ (List.mem_append_right _ (List.mem_append_right _ (List.mem_append_left _ (List.mem_of_getElem? (i := 92) rfl))))))) rfl, cp_in (List.mem_append_right _ (List.mem_append_right _ (List.mem_append_right _ (List.mem_append_right _ (List.mem_append_right _ (List.mem_append_left _ (List.mem_of_getElem? (i := 93) rfl))))))) rfl⟩
theorem ml_M_211 : cp_lv "ConditionedProofsModel" 211 m_M_node 11 := ⟨by decide, rfl, cp_in (List.mem_append_right _ (List.mem_append_right _ (List.mem_append_right _ (List.mem_append_right _ (List.mem_append_right _ (List.mem_append_left _ (List.mem_of_getElem? (i := 95) rfl))))))) rfl, cp_in (List.mem_append_right _ (List.mem_append_right _ (List.mem_append_right _ (List.mem_append_right _ (List.mem_append_right _ (List.mem_append_left _ (List.mem_of_getElem? (i := 97) rfl))))))) rfl, cp_inS (List.mem_map.mpr ⟨(⟨"ConditionedProofsModel", "node", "(III)I"⟩, 86), (List.mem_append_right _ (List.mem_append_right _ (List.mem_append_right _ (List.mem_append_right _ (List.mem_append_left _ (List.mem_of_getElem? (i := 0) rfl)))))), rfl⟩) rfl⟩
theorem ml_M_215 : cp_ls "ConditionedProofsModel" 215 m_M_isLetter := ⟨cp_in (List.mem_append_right _ (List.mem_append_right _ (List.mem_append_right _ (List.mem_append_right _ (List.mem_append_right _ (List.mem_append_left _ (List.mem_of_getElem? (i := 66) rfl))))))) rfl, cp_in (List.mem_append_right _ (List.mem_append_right _ (List.mem_append_right _ (List.mem_append_right _ (List.mem_append_right _ (List.mem_append_left _ (List.mem_of_getElem? (i := 67) rfl))))))) rfl⟩
theorem ml_M_218 : cp_lv "ConditionedProofsModel" 218 m_M_push 11 := ⟨by decide, rfl, cp_in (List.mem_append_right _ (List.mem_append_right _ (List.mem_append_right _ (List.mem_append_right _ (List.mem_append_right _ (List.mem_append_left _ (List.mem_of_getElem? (i := 73) rfl))))))) rfl, cp_in (List.mem_append_right _ (List.mem_append_right _ (List.mem_append_right _ (List.mem_append_right _ (List.mem_append_right _ (List.mem_append_left _ (List.mem_of_getElem? (i := 75) rfl))))))) rfl, cp_inS (List.mem_map.mpr ⟨(⟨"ConditionedProofsModel", "push", "(III)V"⟩, 86), (List.mem_append_right _ (List.mem_append_right _ (List.mem_append_right _ (List.mem_append_left _ (List.mem_of_getElem? (i := 12) rfl))))), rfl⟩) rfl⟩
theorem ml_M_225 : cp_lv "ConditionedProofsModel" 225 m_M_part 11 := ⟨by decide, rfl, cp_in (List.mem_append_right _ (List.mem_append_right _ (List.mem_append_right _ (List.mem_append_right _ (List.mem_append_right _ (List.mem_append_left _ (List.mem_of_getElem? (i := 103) rfl))))))) rfl, cp_in (List.mem_append_right _ (List.mem_append_right _ (List.mem_append_right _ (List.mem_append_right _ (List.mem_append_right _ (List.mem_append_left _ (List.mem_of_getElem? (i := 105) rfl))))))) rfl, cp_inS (List.mem_map.mpr ⟨(⟨"ConditionedProofsModel", "part", "(IIII)I"⟩, 86), (List.mem_append_right _ (List.mem_append_right _ (List.mem_append_right _ (List.mem_append_right _ (List.mem_append_left _ (List.mem_of_getElem? (i := 2) rfl)))))), rfl⟩) rfl⟩
theorem ml_M_229 : cp_lv "ConditionedProofsModel" 229 m_M_beginTerm 11 := ⟨by decide, rfl, cp_in (List.mem_append_right _ (List.mem_append_right _ (List.mem_append_right _ (List.mem_append_right _ (List.mem_append_right _ (List.mem_append_left _ (List.mem_of_getElem? (i := 85) rfl))))))) rfl, cp_in (List.mem_append_right _ (List.mem_append_right _ (List.mem_append_right _ (List.mem_append_right _ (List.mem_append_right _ (List.mem_append_left _ (List.mem_of_getElem? (i := 87) rfl))))))) rfl, cp_inS (List.mem_map.mpr ⟨(⟨"ConditionedProofsModel", "beginTerm", "(III)Z"⟩, 86), (List.mem_append_right _ (List.mem_append_right _ (List.mem_append_right _ (List.mem_append_left _ (List.mem_of_getElem? (i := 15) rfl))))), rfl⟩) rfl⟩
theorem ml_M_233 : cp_lv "ConditionedProofsModel" 233 m_M_takeDeclared 11 := ⟨by decide, rfl, cp_in (List.mem_append_right _ (List.mem_append_right _ (List.mem_append_right _ (List.mem_append_right _ (List.mem_append_right _ (List.mem_append_left _ (List.mem_of_getElem? (i := 81) rfl))))))) rfl, cp_in (List.mem_append_right _ (List.mem_append_right _ (List.mem_append_right _ (List.mem_append_right _ (List.mem_append_right _ (List.mem_append_left _ (List.mem_of_getElem? (i := 83) rfl))))))) rfl, cp_inS (List.mem_map.mpr ⟨(⟨"ConditionedProofsModel", "takeDeclared", "(IIIII)Z"⟩, 86), (List.mem_append_right _ (List.mem_append_right _ (List.mem_append_right _ (List.mem_append_left _ (List.mem_of_getElem? (i := 14) rfl))))), rfl⟩) rfl⟩
theorem ml_M_237 : cp_lv "ConditionedProofsModel" 237 m_M_takeCoded 11 := ⟨by decide, rfl, cp_in (List.mem_append_right _ (List.mem_append_right _ (List.mem_append_right _ (List.mem_append_right _ (List.mem_append_right _ (List.mem_append_left _ (List.mem_of_getElem? (i := 107) rfl))))))) rfl, cp_in (List.mem_append_right _ (List.mem_append_right _ (List.mem_append_right _ (List.mem_append_right _ (List.mem_append_right _ (List.mem_append_left _ (List.mem_of_getElem? (i := 109) rfl))))))) rfl, cp_inS (List.mem_map.mpr ⟨(⟨"ConditionedProofsModel", "takeCoded", "(IIIII)Z"⟩, 86), (List.mem_append_right _ (List.mem_append_right _ (List.mem_append_right _ (List.mem_append_right _ (List.mem_append_left _ (List.mem_of_getElem? (i := 3) rfl)))))), rfl⟩) rfl⟩
theorem ml_M_240 : cp_lv "ConditionedProofsModel" 240 m_M_beginPart 11 := ⟨by decide, rfl, cp_in (List.mem_append_right _ (List.mem_append_right _ (List.mem_append_right _ (List.mem_append_right _ (List.mem_append_right _ (List.mem_append_left _ (List.mem_of_getElem? (i := 99) rfl))))))) rfl, cp_in (List.mem_append_right _ (List.mem_append_right _ (List.mem_append_right _ (List.mem_append_right _ (List.mem_append_right _ (List.mem_append_left _ (List.mem_of_getElem? (i := 101) rfl))))))) rfl, cp_inS (List.mem_map.mpr ⟨(⟨"ConditionedProofsModel", "beginPart", "(III)Z"⟩, 86), (List.mem_append_right _ (List.mem_append_right _ (List.mem_append_right _ (List.mem_append_right _ (List.mem_append_left _ (List.mem_of_getElem? (i := 1) rfl)))))), rfl⟩) rfl⟩
theorem ml_M_246 : cp_lv "ConditionedProofsModel" 246 m_M_beginCode 11 := ⟨by decide, rfl, cp_in (List.mem_append_right _ (List.mem_append_right _ (List.mem_append_right _ (List.mem_append_right _ (List.mem_append_right _ (List.mem_append_left _ (List.mem_of_getElem? (i := 111) rfl))))))) rfl, cp_in (List.mem_append_right _ (List.mem_append_right _ (List.mem_append_right _ (List.mem_append_right _ (List.mem_append_right _ (List.mem_append_left _ (List.mem_of_getElem? (i := 113) rfl))))))) rfl, cp_inS (List.mem_map.mpr ⟨(⟨"ConditionedProofsModel", "beginCode", "(III)Z"⟩, 86), (List.mem_append_right _ (List.mem_append_right _ (List.mem_append_right _ (List.mem_append_right _ (List.mem_append_left _ (List.mem_of_getElem? (i := 4) rfl)))))), rfl⟩) rfl⟩
theorem ml_M_249 : cp_lv "ConditionedProofsModel" 249 m_M_beginPattern 11 := ⟨by decide, rfl, cp_in (List.mem_append_right _ (List.mem_append_right _ (List.mem_append_right _ (List.mem_append_right _ (List.mem_append_right _ (List.mem_append_left _ (List.mem_of_getElem? (i := 115) rfl))))))) rfl, cp_in (List.mem_append_right _ (List.mem_append_right _ (List.mem_append_right _ (List.mem_append_right _ (List.mem_append_right _ (List.mem_append_left _ (List.mem_of_getElem? (i := 117) rfl))))))) rfl, cp_inS (List.mem_map.mpr ⟨(⟨"ConditionedProofsModel", "beginPattern", "(II)Z"⟩, 86), (List.mem_append_right _ (List.mem_append_right _ (List.mem_append_right _ (List.mem_append_right _ (List.mem_append_left _ (List.mem_of_getElem? (i := 5) rfl)))))), rfl⟩) rfl⟩
theorem ml_M_256 : cp_lv "ConditionedProofsModel" 256 m_M_take 11 := ⟨by decide, rfl, cp_in (List.mem_append_right _ (List.mem_append_right _ (List.mem_append_right _ (List.mem_append_right _ (List.mem_append_right _ (List.mem_append_left _ (List.mem_of_getElem? (i := 77) rfl))))))) rfl, cp_in (List.mem_append_right _ (List.mem_append_right _ (List.mem_append_right _ (List.mem_append_right _ (List.mem_append_right _ (List.mem_append_left _ (List.mem_of_getElem? (i := 79) rfl))))))) rfl, cp_inS (List.mem_map.mpr ⟨(⟨"ConditionedProofsModel", "take", "(II)Z"⟩, 86), (List.mem_append_right _ (List.mem_append_right _ (List.mem_append_right _ (List.mem_append_left _ (List.mem_of_getElem? (i := 13) rfl))))), rfl⟩) rfl⟩
theorem ml_M_268 : cp_lv "ConditionedProofsModel" 268 m_M_behind 11 := ⟨by decide, rfl, cp_in (List.mem_append_right _ (List.mem_append_right _ (List.mem_append_right _ (List.mem_append_right _ (List.mem_append_right _ (List.mem_append_left _ (List.mem_of_getElem? (i := 171) rfl))))))) rfl, cp_in (List.mem_append_right _ (List.mem_append_right _ (List.mem_append_right _ (List.mem_append_right _ (List.mem_append_right _ (List.mem_append_left _ (List.mem_of_getElem? (i := 173) rfl))))))) rfl, cp_inS (List.mem_map.mpr ⟨(⟨"ConditionedProofsModel", "behind", "(I)I"⟩, 86), (List.mem_append_right _ (List.mem_append_right _ (List.mem_append_right _ (List.mem_append_right _ (List.mem_append_right _ (List.mem_append_left _ (List.mem_of_getElem? (i := 3) rfl))))))), rfl⟩) rfl⟩
theorem ml_M_271 : cp_lv "ConditionedProofsModel" 271 m_M_value 11 := ⟨by decide, rfl, cp_in (List.mem_append_right _ (List.mem_append_right _ (List.mem_append_right _ (List.mem_append_right _ (List.mem_append_right _ (List.mem_append_left _ (List.mem_of_getElem? (i := 143) rfl))))))) rfl, cp_in (List.mem_append_right _ (List.mem_append_right _ (List.mem_append_right _ (List.mem_append_right _ (List.mem_append_right _ (List.mem_append_left _ (List.mem_of_getElem? (i := 145) rfl))))))) rfl, cp_inS (List.mem_map.mpr ⟨(⟨"ConditionedProofsModel", "value", "(II)I"⟩, 86), (List.mem_append_right _ (List.mem_append_right _ (List.mem_append_right _ (List.mem_append_right _ (List.mem_append_left _ (List.mem_of_getElem? (i := 12) rfl)))))), rfl⟩) rfl⟩
theorem ml_M_275 : cp_lv "ConditionedProofsModel" 275 m_M_seen 11 := ⟨by decide, rfl, cp_in (List.mem_append_right _ (List.mem_append_right _ (List.mem_append_right _ (List.mem_append_right _ (List.mem_append_right _ (List.mem_append_left _ (List.mem_of_getElem? (i := 215) rfl))))))) rfl, cp_in (List.mem_append_right _ (List.mem_append_right _ (List.mem_append_right _ (List.mem_append_right _ (List.mem_append_right _ (List.mem_append_left _ (List.mem_of_getElem? (i := 217) rfl))))))) rfl, cp_inS (List.mem_map.mpr ⟨(⟨"ConditionedProofsModel", "seen", "(I)I"⟩, 86), (List.mem_append_right _ (List.mem_append_right _ (List.mem_append_right _ (List.mem_append_right _ (List.mem_append_right _ (List.mem_append_left _ (List.mem_of_getElem? (i := 14) rfl))))))), rfl⟩) rfl⟩
theorem ml_M_278 : cp_lv "ConditionedProofsModel" 278 m_M_setOut 11 := ⟨by decide, rfl, cp_in (List.mem_append_right _ (List.mem_append_right _ (List.mem_append_right _ (List.mem_append_right _ (List.mem_append_right _ (List.mem_append_left _ (List.mem_of_getElem? (i := 211) rfl))))))) rfl, cp_in (List.mem_append_right _ (List.mem_append_right _ (List.mem_append_right _ (List.mem_append_right _ (List.mem_append_right _ (List.mem_append_left _ (List.mem_of_getElem? (i := 213) rfl))))))) rfl, cp_inS (List.mem_map.mpr ⟨(⟨"ConditionedProofsModel", "setOut", "(I)I"⟩, 86), (List.mem_append_right _ (List.mem_append_right _ (List.mem_append_right _ (List.mem_append_right _ (List.mem_append_right _ (List.mem_append_left _ (List.mem_of_getElem? (i := 13) rfl))))))), rfl⟩) rfl⟩
theorem ml_M_281 : cp_lv "ConditionedProofsModel" 281 m_M_further 11 := ⟨by decide, rfl, cp_in (List.mem_append_right _ (List.mem_append_right _ (List.mem_append_right _ (List.mem_append_right _ (List.mem_append_right _ (List.mem_append_left _ (List.mem_of_getElem? (i := 219) rfl))))))) rfl, cp_in (List.mem_append_right _ (List.mem_append_right _ (List.mem_append_right _ (List.mem_append_right _ (List.mem_append_right _ (List.mem_append_left _ (List.mem_of_getElem? (i := 221) rfl))))))) rfl, cp_inS (List.mem_map.mpr ⟨(⟨"ConditionedProofsModel", "further", "(I)I"⟩, 86), (List.mem_append_right _ (List.mem_append_right _ (List.mem_append_right _ (List.mem_append_right _ (List.mem_append_right _ (List.mem_append_left _ (List.mem_of_getElem? (i := 15) rfl))))))), rfl⟩) rfl⟩
theorem ml_M_287 : cp_lv "ConditionedProofsModel" 287 m_M_firstPair 11 := ⟨by decide, rfl, cp_in (List.mem_append_right _ (List.mem_append_right _ (List.mem_append_right _ (List.mem_append_right _ (List.mem_append_right _ (List.mem_append_left _ (List.mem_of_getElem? (i := 239) rfl))))))) rfl, cp_in (List.mem_append_right _ (List.mem_append_right _ (List.mem_append_right _ (List.mem_append_right _ (List.mem_append_right _ (List.mem_append_right _ (List.mem_of_getElem? (i := 1) rfl))))))) rfl, cp_inS (List.mem_map.mpr ⟨(⟨"ConditionedProofsModel", "firstPair", "(II)I"⟩, 86), (List.mem_append_right _ (List.mem_append_right _ (List.mem_append_right _ (List.mem_append_right _ (List.mem_append_right _ (List.mem_append_right _ (List.mem_append_left _ (List.mem_of_getElem? (i := 4) rfl)))))))), rfl⟩) rfl⟩
theorem ml_M_290 : cp_lv "ConditionedProofsModel" 290 m_M_isLarge 11 := ⟨by decide, rfl, cp_in (List.mem_append_right _ (List.mem_append_right _ (List.mem_append_right _ (List.mem_append_right _ (List.mem_append_right _ (List.mem_append_left _ (List.mem_of_getElem? (i := 207) rfl))))))) rfl, cp_in (List.mem_append_right _ (List.mem_append_right _ (List.mem_append_right _ (List.mem_append_right _ (List.mem_append_right _ (List.mem_append_left _ (List.mem_of_getElem? (i := 209) rfl))))))) rfl, cp_inS (List.mem_map.mpr ⟨(⟨"ConditionedProofsModel", "isLarge", "(I)Z"⟩, 86), (List.mem_append_right _ (List.mem_append_right _ (List.mem_append_right _ (List.mem_append_right _ (List.mem_append_right _ (List.mem_append_left _ (List.mem_of_getElem? (i := 12) rfl))))))), rfl⟩) rfl⟩
theorem ml_M_293 : cp_lv "ConditionedProofsModel" 293 m_M_lies 11 := ⟨by decide, rfl, cp_in (List.mem_append_right _ (List.mem_append_right _ (List.mem_append_right _ (List.mem_append_right _ (List.mem_append_right _ (List.mem_append_right _ (List.mem_of_getElem? (i := 15) rfl))))))) rfl, cp_in (List.mem_append_right _ (List.mem_append_right _ (List.mem_append_right _ (List.mem_append_right _ (List.mem_append_right _ (List.mem_append_right _ (List.mem_of_getElem? (i := 17) rfl))))))) rfl, cp_inS (List.mem_map.mpr ⟨(⟨"ConditionedProofsModel", "lies", "(II)Z"⟩, 86), (List.mem_append_right _ (List.mem_append_right _ (List.mem_append_right _ (List.mem_append_right _ (List.mem_append_right _ (List.mem_append_right _ (List.mem_append_left _ (List.mem_of_getElem? (i := 8) rfl)))))))), rfl⟩) rfl⟩
theorem ml_M_296 : cp_lv "ConditionedProofsModel" 296 m_M_isLevel 11 := ⟨by decide, rfl, cp_in (List.mem_append_right _ (List.mem_append_right _ (List.mem_append_right _ (List.mem_append_right _ (List.mem_append_right _ (List.mem_append_right _ (List.mem_of_getElem? (i := 3) rfl))))))) rfl, cp_in (List.mem_append_right _ (List.mem_append_right _ (List.mem_append_right _ (List.mem_append_right _ (List.mem_append_right _ (List.mem_append_right _ (List.mem_of_getElem? (i := 5) rfl))))))) rfl, cp_inS (List.mem_map.mpr ⟨(⟨"ConditionedProofsModel", "isLevel", "(II)Z"⟩, 86), (List.mem_append_right _ (List.mem_append_right _ (List.mem_append_right _ (List.mem_append_right _ (List.mem_append_right _ (List.mem_append_right _ (List.mem_append_left _ (List.mem_of_getElem? (i := 5) rfl)))))))), rfl⟩) rfl⟩
theorem ml_M_299 : cp_lv "ConditionedProofsModel" 299 m_M_nextPair 11 := ⟨by decide, rfl, cp_in (List.mem_append_right _ (List.mem_append_right _ (List.mem_append_right _ (List.mem_append_right _ (List.mem_append_right _ (List.mem_append_right _ (List.mem_of_getElem? (i := 7) rfl))))))) rfl, cp_in (List.mem_append_right _ (List.mem_append_right _ (List.mem_append_right _ (List.mem_append_right _ (List.mem_append_right _ (List.mem_append_right _ (List.mem_of_getElem? (i := 9) rfl))))))) rfl, cp_inS (List.mem_map.mpr ⟨(⟨"ConditionedProofsModel", "nextPair", "(I)I"⟩, 86), (List.mem_append_right _ (List.mem_append_right _ (List.mem_append_right _ (List.mem_append_right _ (List.mem_append_right _ (List.mem_append_right _ (List.mem_append_left _ (List.mem_of_getElem? (i := 6) rfl)))))))), rfl⟩) rfl⟩
theorem ml_M_309 : cp_lv "ConditionedProofsModel" 309 m_M_drawOne 11 := ⟨by decide, rfl, cp_in (List.mem_append_right _ (List.mem_append_right _ (List.mem_append_right _ (List.mem_append_right _ (List.mem_append_right _ (List.mem_append_right _ (List.mem_of_getElem? (i := 55) rfl))))))) rfl, cp_in (List.mem_append_right _ (List.mem_append_right _ (List.mem_append_right _ (List.mem_append_right _ (List.mem_append_right _ (List.mem_append_right _ (List.mem_of_getElem? (i := 57) rfl))))))) rfl, cp_inS (List.mem_map.mpr ⟨(⟨"ConditionedProofsModel", "drawOne", "(II)I"⟩, 86), (List.mem_append_right _ (List.mem_append_right _ (List.mem_append_right _ (List.mem_append_right _ (List.mem_append_right _ (List.mem_append_right _ (List.mem_append_right _ (List.mem_of_getElem? (i := 0) rfl)))))))), rfl⟩) rfl⟩
theorem ml_M_335 : cp_lv "ConditionedProofsModel" 335 m_M_child 11 := ⟨by decide, rfl, cp_in (List.mem_append_right _ (List.mem_append_right _ (List.mem_append_right _ (List.mem_append_right _ (List.mem_append_right _ (List.mem_append_left _ (List.mem_of_getElem? (i := 203) rfl))))))) rfl, cp_in (List.mem_append_right _ (List.mem_append_right _ (List.mem_append_right _ (List.mem_append_right _ (List.mem_append_right _ (List.mem_append_left _ (List.mem_of_getElem? (i := 205) rfl))))))) rfl, cp_inS (List.mem_map.mpr ⟨(⟨"ConditionedProofsModel", "child", "(II)I"⟩, 86), (List.mem_append_right _ (List.mem_append_right _ (List.mem_append_right _ (List.mem_append_right _ (List.mem_append_right _ (List.mem_append_left _ (List.mem_of_getElem? (i := 11) rfl))))))), rfl⟩) rfl⟩
theorem ml_M_338 : cp_lv "ConditionedProofsModel" 338 m_M_enter 11 := ⟨by decide, rfl, cp_in (List.mem_append_right _ (List.mem_append_right _ (List.mem_append_right _ (List.mem_append_right _ (List.mem_append_right _ (List.mem_append_left _ (List.mem_of_getElem? (i := 187) rfl))))))) rfl, cp_in (List.mem_append_right _ (List.mem_append_right _ (List.mem_append_right _ (List.mem_append_right _ (List.mem_append_right _ (List.mem_append_left _ (List.mem_of_getElem? (i := 189) rfl))))))) rfl, cp_inS (List.mem_map.mpr ⟨(⟨"ConditionedProofsModel", "enter", "(II)V"⟩, 86), (List.mem_append_right _ (List.mem_append_right _ (List.mem_append_right _ (List.mem_append_right _ (List.mem_append_right _ (List.mem_append_left _ (List.mem_of_getElem? (i := 7) rfl))))))), rfl⟩) rfl⟩
theorem ml_M_342 : cp_lv "ConditionedProofsModel" 342 m_M_give 11 := ⟨by decide, rfl, cp_in (List.mem_append_right _ (List.mem_append_right _ (List.mem_append_right _ (List.mem_append_right _ (List.mem_append_right _ (List.mem_append_left _ (List.mem_of_getElem? (i := 195) rfl))))))) rfl, cp_in (List.mem_append_right _ (List.mem_append_right _ (List.mem_append_right _ (List.mem_append_right _ (List.mem_append_right _ (List.mem_append_left _ (List.mem_of_getElem? (i := 197) rfl))))))) rfl, cp_inS (List.mem_map.mpr ⟨(⟨"ConditionedProofsModel", "give", "(I)V"⟩, 86), (List.mem_append_right _ (List.mem_append_right _ (List.mem_append_right _ (List.mem_append_right _ (List.mem_append_right _ (List.mem_append_left _ (List.mem_of_getElem? (i := 9) rfl))))))), rfl⟩) rfl⟩
theorem ml_M_346 : cp_lv "ConditionedProofsModel" 346 m_M_bind 11 := ⟨by decide, rfl, cp_in (List.mem_append_right _ (List.mem_append_right _ (List.mem_append_right _ (List.mem_append_right _ (List.mem_append_right _ (List.mem_append_left _ (List.mem_of_getElem? (i := 183) rfl))))))) rfl, cp_in (List.mem_append_right _ (List.mem_append_right _ (List.mem_append_right _ (List.mem_append_right _ (List.mem_append_right _ (List.mem_append_left _ (List.mem_of_getElem? (i := 185) rfl))))))) rfl, cp_inS (List.mem_map.mpr ⟨(⟨"ConditionedProofsModel", "bind", "(III)V"⟩, 86), (List.mem_append_right _ (List.mem_append_right _ (List.mem_append_right _ (List.mem_append_right _ (List.mem_append_right _ (List.mem_append_left _ (List.mem_of_getElem? (i := 6) rfl))))))), rfl⟩) rfl⟩
theorem ml_M_349 : cp_lv "ConditionedProofsModel" 349 m_M_compare 11 := ⟨by decide, rfl, cp_in (List.mem_append_right _ (List.mem_append_right _ (List.mem_append_right _ (List.mem_append_right _ (List.mem_append_right _ (List.mem_append_left _ (List.mem_of_getElem? (i := 235) rfl))))))) rfl, cp_in (List.mem_append_right _ (List.mem_append_right _ (List.mem_append_right _ (List.mem_append_right _ (List.mem_append_right _ (List.mem_append_left _ (List.mem_of_getElem? (i := 237) rfl))))))) rfl, cp_inS (List.mem_map.mpr ⟨(⟨"ConditionedProofsModel", "compare", "(II)I"⟩, 86), (List.mem_append_right _ (List.mem_append_right _ (List.mem_append_right _ (List.mem_append_right _ (List.mem_append_right _ (List.mem_append_right _ (List.mem_append_left _ (List.mem_of_getElem? (i := 3) rfl)))))))), rfl⟩) rfl⟩
theorem ml_M_352 : cp_lv "ConditionedProofsModel" 352 m_M_meaning 11 := ⟨by decide, rfl, cp_in (List.mem_append_right _ (List.mem_append_right _ (List.mem_append_right _ (List.mem_append_right _ (List.mem_append_right _ (List.mem_append_left _ (List.mem_of_getElem? (i := 191) rfl))))))) rfl, cp_in (List.mem_append_right _ (List.mem_append_right _ (List.mem_append_right _ (List.mem_append_right _ (List.mem_append_right _ (List.mem_append_left _ (List.mem_of_getElem? (i := 193) rfl))))))) rfl, cp_inS (List.mem_map.mpr ⟨(⟨"ConditionedProofsModel", "meaning", "(II)I"⟩, 86), (List.mem_append_right _ (List.mem_append_right _ (List.mem_append_right _ (List.mem_append_right _ (List.mem_append_right _ (List.mem_append_left _ (List.mem_of_getElem? (i := 8) rfl))))))), rfl⟩) rfl⟩
theorem ml_M_355 : cp_lv "ConditionedProofsModel" 355 m_M_call 11 := ⟨by decide, rfl, cp_in (List.mem_append_right _ (List.mem_append_right _ (List.mem_append_right _ (List.mem_append_right _ (List.mem_append_right _ (List.mem_append_left _ (List.mem_of_getElem? (i := 199) rfl))))))) rfl, cp_in (List.mem_append_right _ (List.mem_append_right _ (List.mem_append_right _ (List.mem_append_right _ (List.mem_append_right _ (List.mem_append_left _ (List.mem_of_getElem? (i := 201) rfl))))))) rfl, cp_inS (List.mem_map.mpr ⟨(⟨"ConditionedProofsModel", "call", "(III)V"⟩, 86), (List.mem_append_right _ (List.mem_append_right _ (List.mem_append_right _ (List.mem_append_right _ (List.mem_append_right _ (List.mem_append_left _ (List.mem_of_getElem? (i := 10) rfl))))))), rfl⟩) rfl⟩
theorem ml_M_358 : cp_lv "ConditionedProofsModel" 358 m_M_add 11 := ⟨by decide, rfl, cp_in (List.mem_append_right _ (List.mem_append_right _ (List.mem_append_right _ (List.mem_append_right _ (List.mem_append_right _ (List.mem_append_left _ (List.mem_of_getElem? (i := 223) rfl))))))) rfl, cp_in (List.mem_append_right _ (List.mem_append_right _ (List.mem_append_right _ (List.mem_append_right _ (List.mem_append_right _ (List.mem_append_left _ (List.mem_of_getElem? (i := 225) rfl))))))) rfl, cp_inS (List.mem_map.mpr ⟨(⟨"ConditionedProofsModel", "add", "(III)V"⟩, 86), (List.mem_append_right _ (List.mem_append_right _ (List.mem_append_right _ (List.mem_append_right _ (List.mem_append_right _ (List.mem_append_right _ (List.mem_append_left _ (List.mem_of_getElem? (i := 0) rfl)))))))), rfl⟩) rfl⟩
theorem ml_M_361 : cp_lv "ConditionedProofsModel" 361 m_M_match 11 := ⟨by decide, rfl, cp_in (List.mem_append_right _ (List.mem_append_right _ (List.mem_append_right _ (List.mem_append_right _ (List.mem_append_right _ (List.mem_append_left _ (List.mem_of_getElem? (i := 227) rfl))))))) rfl, cp_in (List.mem_append_right _ (List.mem_append_right _ (List.mem_append_right _ (List.mem_append_right _ (List.mem_append_right _ (List.mem_append_left _ (List.mem_of_getElem? (i := 229) rfl))))))) rfl, cp_inS (List.mem_map.mpr ⟨(⟨"ConditionedProofsModel", "match", "(III)V"⟩, 86), (List.mem_append_right _ (List.mem_append_right _ (List.mem_append_right _ (List.mem_append_right _ (List.mem_append_right _ (List.mem_append_right _ (List.mem_append_left _ (List.mem_of_getElem? (i := 1) rfl)))))))), rfl⟩) rfl⟩
theorem ml_M_364 : cp_lv "ConditionedProofsModel" 364 m_M_choose 11 := ⟨by decide, rfl, cp_in (List.mem_append_right _ (List.mem_append_right _ (List.mem_append_right _ (List.mem_append_right _ (List.mem_append_right _ (List.mem_append_left _ (List.mem_of_getElem? (i := 231) rfl))))))) rfl, cp_in (List.mem_append_right _ (List.mem_append_right _ (List.mem_append_right _ (List.mem_append_right _ (List.mem_append_right _ (List.mem_append_left _ (List.mem_of_getElem? (i := 233) rfl))))))) rfl, cp_inS (List.mem_map.mpr ⟨(⟨"ConditionedProofsModel", "choose", "(III)V"⟩, 86), (List.mem_append_right _ (List.mem_append_right _ (List.mem_append_right _ (List.mem_append_right _ (List.mem_append_right _ (List.mem_append_right _ (List.mem_append_left _ (List.mem_of_getElem? (i := 2) rfl)))))))), rfl⟩) rfl⟩
theorem ml_M_370 : cp_lv "ConditionedProofsModel" 370 m_M_wrong 11 := ⟨by decide, rfl, cp_in (List.mem_append_right _ (List.mem_append_right _ (List.mem_append_right _ (List.mem_append_right _ (List.mem_append_right _ (List.mem_append_left _ (List.mem_of_getElem? (i := 147) rfl))))))) rfl, cp_in (List.mem_append_right _ (List.mem_append_right _ (List.mem_append_right _ (List.mem_append_right _ (List.mem_append_right _ (List.mem_append_left _ (List.mem_of_getElem? (i := 149) rfl))))))) rfl, cp_inS (List.mem_map.mpr ⟨(⟨"ConditionedProofsModel", "wrong", "(I)I"⟩, 86), (List.mem_append_right _ (List.mem_append_right _ (List.mem_append_right _ (List.mem_append_right _ (List.mem_append_left _ (List.mem_of_getElem? (i := 13) rfl)))))), rfl⟩) rfl⟩
theorem ml_M_376 : cp_lv "ConditionedProofsModel" 376 m_M_isConditioned 11 := ⟨by decide, rfl, cp_in (List.mem_append_right _ (List.mem_append_right _ (List.mem_append_right _ (List.mem_append_right _ (List.mem_append_right _ (List.mem_append_left _ (List.mem_of_getElem? (i := 155) rfl))))))) rfl, cp_in (List.mem_append_right _ (List.mem_append_right _ (List.mem_append_right _ (List.mem_append_right _ (List.mem_append_right _ (List.mem_append_left _ (List.mem_of_getElem? (i := 157) rfl))))))) rfl, cp_inS (List.mem_map.mpr ⟨(⟨"ConditionedProofsModel", "isConditioned", "(I)Z"⟩, 86), (List.mem_append_right _ (List.mem_append_right _ (List.mem_append_right _ (List.mem_append_right _ (List.mem_append_left _ (List.mem_of_getElem? (i := 15) rfl)))))), rfl⟩) rfl⟩
theorem ml_M_379 : cp_lv "ConditionedProofsModel" 379 m_M_valueOf 11 := ⟨by decide, rfl, cp_in (List.mem_append_right _ (List.mem_append_right _ (List.mem_append_right _ (List.mem_append_right _ (List.mem_append_right _ (List.mem_append_left _ (List.mem_of_getElem? (i := 167) rfl))))))) rfl, cp_in (List.mem_append_right _ (List.mem_append_right _ (List.mem_append_right _ (List.mem_append_right _ (List.mem_append_right _ (List.mem_append_left _ (List.mem_of_getElem? (i := 169) rfl))))))) rfl, cp_inS (List.mem_map.mpr ⟨(⟨"ConditionedProofsModel", "valueOf", "(II)I"⟩, 86), (List.mem_append_right _ (List.mem_append_right _ (List.mem_append_right _ (List.mem_append_right _ (List.mem_append_right _ (List.mem_append_left _ (List.mem_of_getElem? (i := 2) rfl))))))), rfl⟩) rfl⟩
theorem ml_M_382 : cp_lv "ConditionedProofsModel" 382 m_M_runs 11 := ⟨by decide, rfl, cp_in (List.mem_append_right _ (List.mem_append_right _ (List.mem_append_right _ (List.mem_append_right _ (List.mem_append_right _ (List.mem_append_left _ (List.mem_of_getElem? (i := 179) rfl))))))) rfl, cp_in (List.mem_append_right _ (List.mem_append_right _ (List.mem_append_right _ (List.mem_append_right _ (List.mem_append_right _ (List.mem_append_left _ (List.mem_of_getElem? (i := 181) rfl))))))) rfl, cp_inS (List.mem_map.mpr ⟨(⟨"ConditionedProofsModel", "runs", "(I)I"⟩, 86), (List.mem_append_right _ (List.mem_append_right _ (List.mem_append_right _ (List.mem_append_right _ (List.mem_append_right _ (List.mem_append_left _ (List.mem_of_getElem? (i := 5) rfl))))))), rfl⟩) rfl⟩
theorem ml_M_385 : cp_lv "ConditionedProofsModel" 385 m_M_makeSame 11 := ⟨by decide, rfl, cp_in (List.mem_append_right _ (List.mem_append_right _ (List.mem_append_right _ (List.mem_append_right _ (List.mem_append_right _ (List.mem_append_right _ (List.mem_of_getElem? (i := 11) rfl))))))) rfl, cp_in (List.mem_append_right _ (List.mem_append_right _ (List.mem_append_right _ (List.mem_append_right _ (List.mem_append_right _ (List.mem_append_right _ (List.mem_of_getElem? (i := 13) rfl))))))) rfl, cp_inS (List.mem_map.mpr ⟨(⟨"ConditionedProofsModel", "makeSame", "(II)Z"⟩, 86), (List.mem_append_right _ (List.mem_append_right _ (List.mem_append_right _ (List.mem_append_right _ (List.mem_append_right _ (List.mem_append_right _ (List.mem_append_left _ (List.mem_of_getElem? (i := 7) rfl)))))))), rfl⟩) rfl⟩
theorem ml_M_388 : cp_lv "ConditionedProofsModel" 388 m_M_condition 11 := ⟨by decide, rfl, cp_in (List.mem_append_right _ (List.mem_append_right _ (List.mem_append_right _ (List.mem_append_right _ (List.mem_append_right _ (List.mem_append_left _ (List.mem_of_getElem? (i := 163) rfl))))))) rfl, cp_in (List.mem_append_right _ (List.mem_append_right _ (List.mem_append_right _ (List.mem_append_right _ (List.mem_append_right _ (List.mem_append_left _ (List.mem_of_getElem? (i := 165) rfl))))))) rfl, cp_inS (List.mem_map.mpr ⟨(⟨"ConditionedProofsModel", "condition", "(II)Z"⟩, 86), (List.mem_append_right _ (List.mem_append_right _ (List.mem_append_right _ (List.mem_append_right _ (List.mem_append_right _ (List.mem_append_left _ (List.mem_of_getElem? (i := 1) rfl))))))), rfl⟩) rfl⟩
theorem ml_M_391 : cp_lv "ConditionedProofsModel" 391 m_M_settle 11 := ⟨by decide, rfl, cp_in (List.mem_append_right _ (List.mem_append_right _ (List.mem_append_right _ (List.mem_append_right _ (List.mem_append_right _ (List.mem_append_right _ (List.mem_of_getElem? (i := 19) rfl))))))) rfl, cp_in (List.mem_append_right _ (List.mem_append_right _ (List.mem_append_right _ (List.mem_append_right _ (List.mem_append_right _ (List.mem_append_right _ (List.mem_of_getElem? (i := 21) rfl))))))) rfl, cp_inS (List.mem_map.mpr ⟨(⟨"ConditionedProofsModel", "settle", "(I)V"⟩, 86), (List.mem_append_right _ (List.mem_append_right _ (List.mem_append_right _ (List.mem_append_right _ (List.mem_append_right _ (List.mem_append_right _ (List.mem_append_left _ (List.mem_of_getElem? (i := 9) rfl)))))))), rfl⟩) rfl⟩
theorem ml_M_394 : cp_lv "ConditionedProofsModel" 394 m_M_simple 11 := ⟨by decide, rfl, cp_in (List.mem_append_right _ (List.mem_append_right _ (List.mem_append_right _ (List.mem_append_right _ (List.mem_append_right _ (List.mem_append_left _ (List.mem_of_getElem? (i := 139) rfl))))))) rfl, cp_in (List.mem_append_right _ (List.mem_append_right _ (List.mem_append_right _ (List.mem_append_right _ (List.mem_append_right _ (List.mem_append_left _ (List.mem_of_getElem? (i := 141) rfl))))))) rfl, cp_inS (List.mem_map.mpr ⟨(⟨"ConditionedProofsModel", "simple", "(I)I"⟩, 86), (List.mem_append_right _ (List.mem_append_right _ (List.mem_append_right _ (List.mem_append_right _ (List.mem_append_left _ (List.mem_of_getElem? (i := 11) rfl)))))), rfl⟩) rfl⟩
theorem ml_M_397 : cp_lv "ConditionedProofsModel" 397 m_M_begin 11 := ⟨by decide, rfl, cp_in (List.mem_append_right _ (List.mem_append_right _ (List.mem_append_right _ (List.mem_append_right _ (List.mem_append_right _ (List.mem_append_left _ (List.mem_of_getElem? (i := 151) rfl))))))) rfl, cp_in (List.mem_append_right _ (List.mem_append_right _ (List.mem_append_right _ (List.mem_append_right _ (List.mem_append_right _ (List.mem_append_left _ (List.mem_of_getElem? (i := 153) rfl))))))) rfl, cp_inS (List.mem_map.mpr ⟨(⟨"ConditionedProofsModel", "begin", "(II)Z"⟩, 86), (List.mem_append_right _ (List.mem_append_right _ (List.mem_append_right _ (List.mem_append_right _ (List.mem_append_left _ (List.mem_of_getElem? (i := 14) rfl)))))), rfl⟩) rfl⟩
theorem ml_M_400 : cp_lv "ConditionedProofsModel" 400 m_M_goOn 11 := ⟨by decide, rfl, cp_in (List.mem_append_right _ (List.mem_append_right _ (List.mem_append_right _ (List.mem_append_right _ (List.mem_append_right _ (List.mem_append_left _ (List.mem_of_getElem? (i := 159) rfl))))))) rfl, cp_in (List.mem_append_right _ (List.mem_append_right _ (List.mem_append_right _ (List.mem_append_right _ (List.mem_append_right _ (List.mem_append_left _ (List.mem_of_getElem? (i := 161) rfl))))))) rfl, cp_inS (List.mem_map.mpr ⟨(⟨"ConditionedProofsModel", "goOn", "(I)I"⟩, 86), (List.mem_append_right _ (List.mem_append_right _ (List.mem_append_right _ (List.mem_append_right _ (List.mem_append_right _ (List.mem_append_left _ (List.mem_of_getElem? (i := 0) rfl))))))), rfl⟩) rfl⟩
theorem ml_M_403 : cp_lv "ConditionedProofsModel" 403 m_M_suits 11 := ⟨by decide, rfl, cp_in (List.mem_append_right _ (List.mem_append_right _ (List.mem_append_right _ (List.mem_append_right _ (List.mem_append_right _ (List.mem_append_right _ (List.mem_of_getElem? (i := 23) rfl))))))) rfl, cp_in (List.mem_append_right _ (List.mem_append_right _ (List.mem_append_right _ (List.mem_append_right _ (List.mem_append_right _ (List.mem_append_right _ (List.mem_of_getElem? (i := 25) rfl))))))) rfl, cp_inS (List.mem_map.mpr ⟨(⟨"ConditionedProofsModel", "suits", "(IIZ)Z"⟩, 86), (List.mem_append_right _ (List.mem_append_right _ (List.mem_append_right _ (List.mem_append_right _ (List.mem_append_right _ (List.mem_append_right _ (List.mem_append_left _ (List.mem_of_getElem? (i := 10) rfl)))))))), rfl⟩) rfl⟩
theorem ml_M_407 : cp_lv "ConditionedProofsModel" 407 m_M_typeOf 11 := ⟨by decide, rfl, cp_in (List.mem_append_right _ (List.mem_append_right _ (List.mem_append_right _ (List.mem_append_right _ (List.mem_append_right _ (List.mem_append_left _ (List.mem_of_getElem? (i := 135) rfl))))))) rfl, cp_in (List.mem_append_right _ (List.mem_append_right _ (List.mem_append_right _ (List.mem_append_right _ (List.mem_append_right _ (List.mem_append_left _ (List.mem_of_getElem? (i := 137) rfl))))))) rfl, cp_inS (List.mem_map.mpr ⟨(⟨"ConditionedProofsModel", "typeOf", "(I)I"⟩, 86), (List.mem_append_right _ (List.mem_append_right _ (List.mem_append_right _ (List.mem_append_right _ (List.mem_append_left _ (List.mem_of_getElem? (i := 10) rfl)))))), rfl⟩) rfl⟩
theorem ml_M_410 : cp_lv "ConditionedProofsModel" 410 m_M_nothing 11 := ⟨by decide, rfl, cp_in (List.mem_append_right _ (List.mem_append_right _ (List.mem_append_right _ (List.mem_append_right _ (List.mem_append_right _ (List.mem_append_left _ (List.mem_of_getElem? (i := 123) rfl))))))) rfl, cp_in (List.mem_append_right _ (List.mem_append_right _ (List.mem_append_right _ (List.mem_append_right _ (List.mem_append_right _ (List.mem_append_left _ (List.mem_of_getElem? (i := 125) rfl))))))) rfl, cp_inS (List.mem_map.mpr ⟨(⟨"ConditionedProofsModel", "nothing", "()V"⟩, 86), (List.mem_append_right _ (List.mem_append_right _ (List.mem_append_right _ (List.mem_append_right _ (List.mem_append_left _ (List.mem_of_getElem? (i := 7) rfl)))))), rfl⟩) rfl⟩
theorem ml_M_413 : cp_lv "ConditionedProofsModel" 413 m_M_noNames 11 := ⟨by decide, rfl, cp_in (List.mem_append_right _ (List.mem_append_right _ (List.mem_append_right _ (List.mem_append_right _ (List.mem_append_right _ (List.mem_append_left _ (List.mem_of_getElem? (i := 127) rfl))))))) rfl, cp_in (List.mem_append_right _ (List.mem_append_right _ (List.mem_append_right _ (List.mem_append_right _ (List.mem_append_right _ (List.mem_append_left _ (List.mem_of_getElem? (i := 129) rfl))))))) rfl, cp_inS (List.mem_map.mpr ⟨(⟨"ConditionedProofsModel", "noNames", "()V"⟩, 86), (List.mem_append_right _ (List.mem_append_right _ (List.mem_append_right _ (List.mem_append_right _ (List.mem_append_left _ (List.mem_of_getElem? (i := 8) rfl)))))), rfl⟩) rfl⟩
theorem ml_M_416 : cp_lv "ConditionedProofsModel" 416 m_M_isRightCondition 11 := ⟨by decide, rfl, cp_in (List.mem_append_right _ (List.mem_append_right _ (List.mem_append_right _ (List.mem_append_right _ (List.mem_append_right _ (List.mem_append_left _ (List.mem_of_getElem? (i := 131) rfl))))))) rfl, cp_in (List.mem_append_right _ (List.mem_append_right _ (List.mem_append_right _ (List.mem_append_right _ (List.mem_append_right _ (List.mem_append_left _ (List.mem_of_getElem? (i := 133) rfl))))))) rfl, cp_inS (List.mem_map.mpr ⟨(⟨"ConditionedProofsModel", "isRightCondition", "(I)Z"⟩, 86), (List.mem_append_right _ (List.mem_append_right _ (List.mem_append_right _ (List.mem_append_right _ (List.mem_append_left _ (List.mem_of_getElem? (i := 9) rfl)))))), rfl⟩) rfl⟩
theorem ml_M_419 : cp_lv "ConditionedProofsModel" 419 m_M_isType 11 := ⟨by decide, rfl, cp_in (List.mem_append_right _ (List.mem_append_right _ (List.mem_append_right _ (List.mem_append_right _ (List.mem_append_right _ (List.mem_append_right _ (List.mem_of_getElem? (i := 27) rfl))))))) rfl, cp_in (List.mem_append_right _ (List.mem_append_right _ (List.mem_append_right _ (List.mem_append_right _ (List.mem_append_right _ (List.mem_append_right _ (List.mem_of_getElem? (i := 29) rfl))))))) rfl, cp_inS (List.mem_map.mpr ⟨(⟨"ConditionedProofsModel", "isType", "(I)Z"⟩, 86), (List.mem_append_right _ (List.mem_append_right _ (List.mem_append_right _ (List.mem_append_right _ (List.mem_append_right _ (List.mem_append_right _ (List.mem_append_left _ (List.mem_of_getElem? (i := 11) rfl)))))))), rfl⟩) rfl⟩
theorem ml_M_425 : cp_lv "ConditionedProofsModel" 425 m_M_mayName 11 := ⟨by decide, rfl, cp_in (List.mem_append_right _ (List.mem_append_right _ (List.mem_append_right _ (List.mem_append_right _ (List.mem_append_right _ (List.mem_append_left _ (List.mem_of_getElem? (i := 62) rfl))))))) rfl, cp_in (List.mem_append_right _ (List.mem_append_right _ (List.mem_append_right _ (List.mem_append_right _ (List.mem_append_right _ (List.mem_append_left _ (List.mem_of_getElem? (i := 64) rfl))))))) rfl, cp_inS (List.mem_map.mpr ⟨(⟨"ConditionedProofsModel", "mayName", "(C)Z"⟩, 86), (List.mem_append_right _ (List.mem_append_right _ (List.mem_append_right _ (List.mem_append_left _ (List.mem_of_getElem? (i := 10) rfl))))), rfl⟩) rfl⟩
theorem ml_M_429 : cp_lv "ConditionedProofsModel" 429 m_M_read 11 := ⟨by decide, rfl, cp_in (List.mem_append_right _ (List.mem_append_right _ (List.mem_append_right _ (List.mem_append_right _ (List.mem_append_right _ (List.mem_append_left _ (List.mem_of_getElem? (i := 69) rfl))))))) rfl, cp_in (List.mem_append_right _ (List.mem_append_right _ (List.mem_append_right _ (List.mem_append_right _ (List.mem_append_right _ (List.mem_append_left _ (List.mem_of_getElem? (i := 71) rfl))))))) rfl, cp_inS (List.mem_map.mpr ⟨(⟨"ConditionedProofsModel", "read", "(III)I"⟩, 86), (List.mem_append_right _ (List.mem_append_right _ (List.mem_append_right _ (List.mem_append_left _ (List.mem_of_getElem? (i := 11) rfl))))), rfl⟩) rfl⟩
theorem ml_M_432 : cp_lv "ConditionedProofsModel" 432 m_M_isRight 11 := ⟨by decide, rfl, cp_in (List.mem_append_right _ (List.mem_append_right _ (List.mem_append_right _ (List.mem_append_right _ (List.mem_append_right _ (List.mem_append_left _ (List.mem_of_getElem? (i := 119) rfl))))))) rfl, cp_in (List.mem_append_right _ (List.mem_append_right _ (List.mem_append_right _ (List.mem_append_right _ (List.mem_append_right _ (List.mem_append_left _ (List.mem_of_getElem? (i := 121) rfl))))))) rfl, cp_inS (List.mem_map.mpr ⟨(⟨"ConditionedProofsModel", "isRight", "(I)Z"⟩, 86), (List.mem_append_right _ (List.mem_append_right _ (List.mem_append_right _ (List.mem_append_right _ (List.mem_append_left _ (List.mem_of_getElem? (i := 6) rfl)))))), rfl⟩) rfl⟩
theorem ml_M_435 : cp_lv "ConditionedProofsModel" 435 m_M_remember 11 := ⟨by decide, rfl, cp_in (List.mem_append_right _ (List.mem_append_right _ (List.mem_append_right _ (List.mem_append_right _ (List.mem_append_right _ (List.mem_append_right _ (List.mem_of_getElem? (i := 31) rfl))))))) rfl, cp_in (List.mem_append_right _ (List.mem_append_right _ (List.mem_append_right _ (List.mem_append_right _ (List.mem_append_right _ (List.mem_append_right _ (List.mem_of_getElem? (i := 33) rfl))))))) rfl, cp_inS (List.mem_map.mpr ⟨(⟨"ConditionedProofsModel", "remember", "(III)V"⟩, 86), (List.mem_append_right _ (List.mem_append_right _ (List.mem_append_right _ (List.mem_append_right _ (List.mem_append_right _ (List.mem_append_right _ (List.mem_append_left _ (List.mem_of_getElem? (i := 12) rfl)))))))), rfl⟩) rfl⟩
theorem ml_M_438 : cp_lv "ConditionedProofsModel" 438 m_M_isBound 11 := ⟨by decide, rfl, cp_in (List.mem_append_right _ (List.mem_append_right _ (List.mem_append_right _ (List.mem_append_right _ (List.mem_append_right _ (List.mem_append_right _ (List.mem_of_getElem? (i := 43) rfl))))))) rfl, cp_in (List.mem_append_right _ (List.mem_append_right _ (List.mem_append_right _ (List.mem_append_right _ (List.mem_append_right _ (List.mem_append_right _ (List.mem_of_getElem? (i := 45) rfl))))))) rfl, cp_inS (List.mem_map.mpr ⟨(⟨"ConditionedProofsModel", "isBound", "(III)Z"⟩, 86), (List.mem_append_right _ (List.mem_append_right _ (List.mem_append_right _ (List.mem_append_right _ (List.mem_append_right _ (List.mem_append_right _ (List.mem_append_left _ (List.mem_of_getElem? (i := 14) rfl)))))))), rfl⟩) rfl⟩
theorem ml_M_441 : cp_lv "ConditionedProofsModel" 441 m_M_isRightCode 11 := ⟨by decide, rfl, cp_in (List.mem_append_right _ (List.mem_append_right _ (List.mem_append_right _ (List.mem_append_right _ (List.mem_append_right _ (List.mem_append_right _ (List.mem_of_getElem? (i := 39) rfl))))))) rfl, cp_in (List.mem_append_right _ (List.mem_append_right _ (List.mem_append_right _ (List.mem_append_right _ (List.mem_append_right _ (List.mem_append_right _ (List.mem_of_getElem? (i := 41) rfl))))))) rfl, cp_inS (List.mem_map.mpr ⟨(⟨"ConditionedProofsModel", "isRightCode", "(III)Z"⟩, 86), (List.mem_append_right _ (List.mem_append_right _ (List.mem_append_right _ (List.mem_append_right _ (List.mem_append_right _ (List.mem_append_right _ (List.mem_append_left _ (List.mem_of_getElem? (i := 13) rfl)))))))), rfl⟩) rfl⟩
theorem ml_M_450 : cp_lv "ConditionedProofsModel" 450 m_M_draw 11 := ⟨by decide, rfl, cp_in (List.mem_append_right _ (List.mem_append_right _ (List.mem_append_right _ (List.mem_append_right _ (List.mem_append_right _ (List.mem_append_right _ (List.mem_of_getElem? (i := 51) rfl))))))) rfl, cp_in (List.mem_append_right _ (List.mem_append_right _ (List.mem_append_right _ (List.mem_append_right _ (List.mem_append_right _ (List.mem_append_right _ (List.mem_of_getElem? (i := 53) rfl))))))) rfl, cp_inS (List.mem_map.mpr ⟨(⟨"ConditionedProofsModel", "draw", "(I)I"⟩, 86), (List.mem_append_right _ (List.mem_append_right _ (List.mem_append_right _ (List.mem_append_right _ (List.mem_append_right _ (List.mem_append_right _ (List.mem_append_left _ (List.mem_of_getElem? (i := 15) rfl)))))))), rfl⟩) rfl⟩
theorem ml_M_459 : cp_lv "ConditionedProofsModel" 459 m_M_show 11 := ⟨by decide, rfl, cp_in (List.mem_append_right _ (List.mem_append_right _ (List.mem_append_right _ (List.mem_append_right _ (List.mem_append_right _ (List.mem_append_right _ (List.mem_of_getElem? (i := 60) rfl))))))) rfl, cp_in (List.mem_append_right _ (List.mem_append_right _ (List.mem_append_right _ (List.mem_append_right _ (List.mem_append_right _ (List.mem_append_right _ (List.mem_of_getElem? (i := 62) rfl))))))) rfl, cp_inS (List.mem_map.mpr ⟨(⟨"ConditionedProofsModel", "show", "(I)I"⟩, 86), (List.mem_append_right _ (List.mem_append_right _ (List.mem_append_right _ (List.mem_append_right _ (List.mem_append_right _ (List.mem_append_right _ (List.mem_append_right _ (List.mem_of_getElem? (i := 1) rfl)))))))), rfl⟩) rfl⟩
theorem cj_M_312 : Cond.constantLong "ConditionedProofsModel" 312 10 ∈ cp_WS := cp_in (List.mem_append_right _ (List.mem_append_right _ (List.mem_append_right _ (List.mem_append_right _ (List.mem_append_right _ (List.mem_append_right _ (List.mem_of_getElem? (i := 59) rfl))))))) rfl
theorem d_M_init_0 : decode m_M_init.2.1 0 = .ok (.aload_n 0, 1) := by decide +kernel
theorem d_M_init_1 : decode m_M_init.2.1 1 = .ok (.invokespecial 1, 3) := by decide +kernel
theorem d_M_init_4 : decode m_M_init.2.1 4 = .ok (.aload_n 0, 1) := by decide +kernel
theorem d_M_init_5 : decode m_M_init.2.1 5 = .ok (.bipush 80, 2) := by decide +kernel
theorem d_M_init_7 : decode m_M_init.2.1 7 = .ok (.newarray .int, 2) := by decide +kernel
theorem d_M_init_9 : decode m_M_init.2.1 9 = .ok (.putfield 7, 3) := by decide +kernel
theorem d_M_init_12 : decode m_M_init.2.1 12 = .ok (.aload_n 0, 1) := by decide +kernel
theorem d_M_init_13 : decode m_M_init.2.1 13 = .ok (.bipush 100, 2) := by decide +kernel
theorem d_M_init_15 : decode m_M_init.2.1 15 = .ok (.newarray .int, 2) := by decide +kernel
theorem d_M_init_17 : decode m_M_init.2.1 17 = .ok (.putfield 13, 3) := by decide +kernel
theorem d_M_init_20 : decode m_M_init.2.1 20 = .ok (.aload_n 0, 1) := by decide +kernel
theorem d_M_init_21 : decode m_M_init.2.1 21 = .ok (.bipush 110, 2) := by decide +kernel
theorem d_M_init_23 : decode m_M_init.2.1 23 = .ok (.newarray .int, 2) := by decide +kernel
theorem d_M_init_25 : decode m_M_init.2.1 25 = .ok (.putfield 16, 3) := by decide +kernel
theorem d_M_init_28 : decode m_M_init.2.1 28 = .ok (.aload_n 0, 1) := by decide +kernel
theorem d_M_init_29 : decode m_M_init.2.1 29 = .ok (.bipush 26, 2) := by decide +kernel
theorem d_M_init_31 : decode m_M_init.2.1 31 = .ok (.newarray .int, 2) := by decide +kernel
theorem d_M_init_33 : decode m_M_init.2.1 33 = .ok (.putfield 19, 3) := by decide +kernel
theorem d_M_init_36 : decode m_M_init.2.1 36 = .ok (.aload_n 0, 1) := by decide +kernel
theorem d_M_init_37 : decode m_M_init.2.1 37 = .ok (.bipush 26, 2) := by decide +kernel
theorem d_M_init_39 : decode m_M_init.2.1 39 = .ok (.newarray .int, 2) := by decide +kernel
theorem d_M_init_41 : decode m_M_init.2.1 41 = .ok (.putfield 22, 3) := by decide +kernel
theorem d_M_init_44 : decode m_M_init.2.1 44 = .ok (.aload_n 0, 1) := by decide +kernel
theorem d_M_init_45 : decode m_M_init.2.1 45 = .ok (.bipush 26, 2) := by decide +kernel
theorem d_M_init_47 : decode m_M_init.2.1 47 = .ok (.newarray .int, 2) := by decide +kernel
theorem d_M_init_49 : decode m_M_init.2.1 49 = .ok (.putfield 25, 3) := by decide +kernel
theorem d_M_init_52 : decode m_M_init.2.1 52 = .ok (.aload_n 0, 1) := by decide +kernel
theorem d_M_init_53 : decode m_M_init.2.1 53 = .ok (.bipush 26, 2) := by decide +kernel
theorem d_M_init_55 : decode m_M_init.2.1 55 = .ok (.newarray .int, 2) := by decide +kernel
theorem d_M_init_57 : decode m_M_init.2.1 57 = .ok (.putfield 28, 3) := by decide +kernel
theorem d_M_init_60 : decode m_M_init.2.1 60 = .ok (.aload_n 0, 1) := by decide +kernel
theorem d_M_init_61 : decode m_M_init.2.1 61 = .ok (.bipush 26, 2) := by decide +kernel
theorem d_M_init_63 : decode m_M_init.2.1 63 = .ok (.newarray .int, 2) := by decide +kernel
theorem d_M_init_65 : decode m_M_init.2.1 65 = .ok (.putfield 31, 3) := by decide +kernel
theorem d_M_init_68 : decode m_M_init.2.1 68 = .ok (.aload_n 0, 1) := by decide +kernel
theorem d_M_init_69 : decode m_M_init.2.1 69 = .ok (.bipush 26, 2) := by decide +kernel
theorem d_M_init_71 : decode m_M_init.2.1 71 = .ok (.newarray .int, 2) := by decide +kernel
theorem d_M_init_73 : decode m_M_init.2.1 73 = .ok (.putfield 34, 3) := by decide +kernel
theorem d_M_init_76 : decode m_M_init.2.1 76 = .ok (.aload_n 0, 1) := by decide +kernel
theorem d_M_init_77 : decode m_M_init.2.1 77 = .ok (.bipush 26, 2) := by decide +kernel
theorem d_M_init_79 : decode m_M_init.2.1 79 = .ok (.newarray .int, 2) := by decide +kernel
theorem d_M_init_81 : decode m_M_init.2.1 81 = .ok (.putfield 37, 3) := by decide +kernel
theorem d_M_init_84 : decode m_M_init.2.1 84 = .ok (.aload_n 0, 1) := by decide +kernel
theorem d_M_init_85 : decode m_M_init.2.1 85 = .ok (.bipush 104, 2) := by decide +kernel
theorem d_M_init_87 : decode m_M_init.2.1 87 = .ok (.newarray .int, 2) := by decide +kernel
theorem d_M_init_89 : decode m_M_init.2.1 89 = .ok (.putfield 40, 3) := by decide +kernel
theorem d_M_init_92 : decode m_M_init.2.1 92 = .ok (.aload_n 0, 1) := by decide +kernel
theorem d_M_init_93 : decode m_M_init.2.1 93 = .ok (.bipush 26, 2) := by decide +kernel
theorem d_M_init_95 : decode m_M_init.2.1 95 = .ok (.newarray .int, 2) := by decide +kernel
theorem d_M_init_97 : decode m_M_init.2.1 97 = .ok (.putfield 43, 3) := by decide +kernel
theorem d_M_init_100 : decode m_M_init.2.1 100 = .ok (.aload_n 0, 1) := by decide +kernel
theorem d_M_init_101 : decode m_M_init.2.1 101 = .ok (.sipush 2720, 3) := by decide +kernel
theorem d_M_init_104 : decode m_M_init.2.1 104 = .ok (.newarray .int, 2) := by decide +kernel
theorem d_M_init_106 : decode m_M_init.2.1 106 = .ok (.putfield 46, 3) := by decide +kernel
theorem d_M_init_109 : decode m_M_init.2.1 109 = .ok (.aload_n 0, 1) := by decide +kernel
theorem d_M_init_110 : decode m_M_init.2.1 110 = .ok (.sipush 2720, 3) := by decide +kernel
theorem d_M_init_113 : decode m_M_init.2.1 113 = .ok (.newarray .int, 2) := by decide +kernel
theorem d_M_init_115 : decode m_M_init.2.1 115 = .ok (.putfield 49, 3) := by decide +kernel
theorem d_M_init_118 : decode m_M_init.2.1 118 = .ok (.aload_n 0, 1) := by decide +kernel
theorem d_M_init_119 : decode m_M_init.2.1 119 = .ok (.sipush 2720, 3) := by decide +kernel
theorem d_M_init_122 : decode m_M_init.2.1 122 = .ok (.newarray .int, 2) := by decide +kernel
theorem d_M_init_124 : decode m_M_init.2.1 124 = .ok (.putfield 52, 3) := by decide +kernel
theorem d_M_init_127 : decode m_M_init.2.1 127 = .ok (.aload_n 0, 1) := by decide +kernel
theorem d_M_init_128 : decode m_M_init.2.1 128 = .ok (.bipush 82, 2) := by decide +kernel
theorem d_M_init_130 : decode m_M_init.2.1 130 = .ok (.newarray .int, 2) := by decide +kernel
theorem d_M_init_132 : decode m_M_init.2.1 132 = .ok (.putfield 55, 3) := by decide +kernel
theorem d_M_init_135 : decode m_M_init.2.1 135 = .ok (.aload_n 0, 1) := by decide +kernel
theorem d_M_init_136 : decode m_M_init.2.1 136 = .ok (.bipush 82, 2) := by decide +kernel
theorem d_M_init_138 : decode m_M_init.2.1 138 = .ok (.newarray .int, 2) := by decide +kernel
theorem d_M_init_140 : decode m_M_init.2.1 140 = .ok (.putfield 58, 3) := by decide +kernel
theorem d_M_init_143 : decode m_M_init.2.1 143 = .ok (.aload_n 0, 1) := by decide +kernel
theorem d_M_init_144 : decode m_M_init.2.1 144 = .ok (.sipush 180, 3) := by decide +kernel
theorem d_M_init_147 : decode m_M_init.2.1 147 = .ok (.newarray .int, 2) := by decide +kernel
theorem d_M_init_149 : decode m_M_init.2.1 149 = .ok (.putfield 61, 3) := by decide +kernel
theorem d_M_init_152 : decode m_M_init.2.1 152 = .ok (.aload_n 0, 1) := by decide +kernel
theorem d_M_init_153 : decode m_M_init.2.1 153 = .ok (.sipush 180, 3) := by decide +kernel
theorem d_M_init_156 : decode m_M_init.2.1 156 = .ok (.newarray .int, 2) := by decide +kernel
theorem d_M_init_158 : decode m_M_init.2.1 158 = .ok (.putfield 64, 3) := by decide +kernel
theorem d_M_init_161 : decode m_M_init.2.1 161 = .ok (.aload_n 0, 1) := by decide +kernel
theorem d_M_init_162 : decode m_M_init.2.1 162 = .ok (.sipush 180, 3) := by decide +kernel
theorem d_M_init_165 : decode m_M_init.2.1 165 = .ok (.newarray .int, 2) := by decide +kernel
theorem d_M_init_167 : decode m_M_init.2.1 167 = .ok (.putfield 67, 3) := by decide +kernel
theorem d_M_init_170 : decode m_M_init.2.1 170 = .ok (.aload_n 0, 1) := by decide +kernel
theorem d_M_init_171 : decode m_M_init.2.1 171 = .ok (.sipush 180, 3) := by decide +kernel
theorem d_M_init_174 : decode m_M_init.2.1 174 = .ok (.newarray .int, 2) := by decide +kernel
theorem d_M_init_176 : decode m_M_init.2.1 176 = .ok (.putfield 70, 3) := by decide +kernel
theorem d_M_init_179 : decode m_M_init.2.1 179 = .ok (.aload_n 0, 1) := by decide +kernel
theorem d_M_init_180 : decode m_M_init.2.1 180 = .ok (.sipush 180, 3) := by decide +kernel
theorem d_M_init_183 : decode m_M_init.2.1 183 = .ok (.newarray .int, 2) := by decide +kernel
theorem d_M_init_185 : decode m_M_init.2.1 185 = .ok (.putfield 73, 3) := by decide +kernel
theorem d_M_init_188 : decode m_M_init.2.1 188 = .ok (.aload_n 0, 1) := by decide +kernel
theorem d_M_init_189 : decode m_M_init.2.1 189 = .ok (.sipush 400, 3) := by decide +kernel
theorem d_M_init_192 : decode m_M_init.2.1 192 = .ok (.newarray .int, 2) := by decide +kernel
theorem d_M_init_194 : decode m_M_init.2.1 194 = .ok (.putfield 76, 3) := by decide +kernel
theorem d_M_init_197 : decode m_M_init.2.1 197 = .ok (.aload_n 0, 1) := by decide +kernel
theorem d_M_init_198 : decode m_M_init.2.1 198 = .ok (.sipush 400, 3) := by decide +kernel
theorem d_M_init_201 : decode m_M_init.2.1 201 = .ok (.newarray .int, 2) := by decide +kernel
theorem d_M_init_203 : decode m_M_init.2.1 203 = .ok (.putfield 79, 3) := by decide +kernel
theorem d_M_init_206 : decode m_M_init.2.1 206 = .ok (.aload_n 0, 1) := by decide +kernel
theorem d_M_init_207 : decode m_M_init.2.1 207 = .ok (.sipush 400, 3) := by decide +kernel
theorem d_M_init_210 : decode m_M_init.2.1 210 = .ok (.newarray .int, 2) := by decide +kernel
theorem d_M_init_212 : decode m_M_init.2.1 212 = .ok (.putfield 82, 3) := by decide +kernel
theorem d_M_init_215 : decode m_M_init.2.1 215 = .ok (.aload_n 0, 1) := by decide +kernel
theorem d_M_init_216 : decode m_M_init.2.1 216 = .ok (.sipush 6000, 3) := by decide +kernel
theorem d_M_init_219 : decode m_M_init.2.1 219 = .ok (.newarray .int, 2) := by decide +kernel
theorem d_M_init_221 : decode m_M_init.2.1 221 = .ok (.putfield 85, 3) := by decide +kernel
theorem d_M_init_224 : decode m_M_init.2.1 224 = .ok (.aload_n 0, 1) := by decide +kernel
theorem d_M_init_225 : decode m_M_init.2.1 225 = .ok (.sipush 6000, 3) := by decide +kernel
theorem d_M_init_228 : decode m_M_init.2.1 228 = .ok (.newarray .int, 2) := by decide +kernel
theorem d_M_init_230 : decode m_M_init.2.1 230 = .ok (.putfield 88, 3) := by decide +kernel
theorem d_M_init_233 : decode m_M_init.2.1 233 = .ok (.aload_n 0, 1) := by decide +kernel
theorem d_M_init_234 : decode m_M_init.2.1 234 = .ok (.sipush 6000, 3) := by decide +kernel
theorem d_M_init_237 : decode m_M_init.2.1 237 = .ok (.newarray .int, 2) := by decide +kernel
theorem d_M_init_239 : decode m_M_init.2.1 239 = .ok (.putfield 91, 3) := by decide +kernel
theorem d_M_init_242 : decode m_M_init.2.1 242 = .ok (.aload_n 0, 1) := by decide +kernel
theorem d_M_init_243 : decode m_M_init.2.1 243 = .ok (.sipush 6000, 3) := by decide +kernel
theorem d_M_init_246 : decode m_M_init.2.1 246 = .ok (.newarray .int, 2) := by decide +kernel
theorem d_M_init_248 : decode m_M_init.2.1 248 = .ok (.putfield 94, 3) := by decide +kernel
theorem d_M_init_251 : decode m_M_init.2.1 251 = .ok (.aload_n 0, 1) := by decide +kernel
theorem d_M_init_252 : decode m_M_init.2.1 252 = .ok (.sipush 6000, 3) := by decide +kernel
theorem d_M_init_255 : decode m_M_init.2.1 255 = .ok (.newarray .int, 2) := by decide +kernel
theorem d_M_init_257 : decode m_M_init.2.1 257 = .ok (.putfield 97, 3) := by decide +kernel
theorem d_M_init_260 : decode m_M_init.2.1 260 = .ok (.aload_n 0, 1) := by decide +kernel
theorem d_M_init_261 : decode m_M_init.2.1 261 = .ok (.bipush 110, 2) := by decide +kernel
theorem d_M_init_263 : decode m_M_init.2.1 263 = .ok (.newarray .int, 2) := by decide +kernel
theorem d_M_init_265 : decode m_M_init.2.1 265 = .ok (.putfield 100, 3) := by decide +kernel
theorem d_M_init_268 : decode m_M_init.2.1 268 = .ok (.aload_n 0, 1) := by decide +kernel
theorem d_M_init_269 : decode m_M_init.2.1 269 = .ok (.sipush 1001, 3) := by decide +kernel
theorem d_M_init_272 : decode m_M_init.2.1 272 = .ok (.newarray .int, 2) := by decide +kernel
theorem d_M_init_274 : decode m_M_init.2.1 274 = .ok (.putfield 103, 3) := by decide +kernel
theorem d_M_init_277 : decode m_M_init.2.1 277 = .ok (.aload_n 0, 1) := by decide +kernel
theorem d_M_init_278 : decode m_M_init.2.1 278 = .ok (.sipush 1001, 3) := by decide +kernel
theorem d_M_init_281 : decode m_M_init.2.1 281 = .ok (.newarray .int, 2) := by decide +kernel
theorem d_M_init_283 : decode m_M_init.2.1 283 = .ok (.putfield 106, 3) := by decide +kernel
theorem d_M_init_286 : decode m_M_init.2.1 286 = .ok (.aload_n 0, 1) := by decide +kernel
theorem d_M_init_287 : decode m_M_init.2.1 287 = .ok (.sipush 1001, 3) := by decide +kernel
theorem d_M_init_290 : decode m_M_init.2.1 290 = .ok (.newarray .int, 2) := by decide +kernel
theorem d_M_init_292 : decode m_M_init.2.1 292 = .ok (.putfield 109, 3) := by decide +kernel
theorem d_M_init_295 : decode m_M_init.2.1 295 = .ok (.aload_n 0, 1) := by decide +kernel
theorem d_M_init_296 : decode m_M_init.2.1 296 = .ok (.sipush 210, 3) := by decide +kernel
theorem d_M_init_299 : decode m_M_init.2.1 299 = .ok (.newarray .int, 2) := by decide +kernel
theorem d_M_init_301 : decode m_M_init.2.1 301 = .ok (.putfield 112, 3) := by decide +kernel
theorem d_M_init_304 : decode m_M_init.2.1 304 = .ok (.aload_n 0, 1) := by decide +kernel
theorem d_M_init_305 : decode m_M_init.2.1 305 = .ok (.sipush 210, 3) := by decide +kernel
theorem d_M_init_308 : decode m_M_init.2.1 308 = .ok (.newarray .int, 2) := by decide +kernel
theorem d_M_init_310 : decode m_M_init.2.1 310 = .ok (.putfield 115, 3) := by decide +kernel
theorem d_M_init_313 : decode m_M_init.2.1 313 = .ok (.aload_n 0, 1) := by decide +kernel
theorem d_M_init_314 : decode m_M_init.2.1 314 = .ok (.sipush 260, 3) := by decide +kernel
theorem d_M_init_317 : decode m_M_init.2.1 317 = .ok (.newarray .int, 2) := by decide +kernel
theorem d_M_init_319 : decode m_M_init.2.1 319 = .ok (.putfield 118, 3) := by decide +kernel
theorem d_M_init_322 : decode m_M_init.2.1 322 = .ok (.aload_n 0, 1) := by decide +kernel
theorem d_M_init_323 : decode m_M_init.2.1 323 = .ok (.bipush 26, 2) := by decide +kernel
theorem d_M_init_325 : decode m_M_init.2.1 325 = .ok (.newarray .int, 2) := by decide +kernel
theorem d_M_init_327 : decode m_M_init.2.1 327 = .ok (.putfield 121, 3) := by decide +kernel
theorem d_M_init_330 : decode m_M_init.2.1 330 = .ok (.aload_n 0, 1) := by decide +kernel
theorem d_M_init_331 : decode m_M_init.2.1 331 = .ok (.bipush 10, 2) := by decide +kernel
theorem d_M_init_333 : decode m_M_init.2.1 333 = .ok (.newarray .int, 2) := by decide +kernel
theorem d_M_init_335 : decode m_M_init.2.1 335 = .ok (.putfield 124, 3) := by decide +kernel
theorem d_M_init_338 : decode m_M_init.2.1 338 = .ok (.aload_n 0, 1) := by decide +kernel
theorem d_M_init_339 : decode m_M_init.2.1 339 = .ok (.bipush 10, 2) := by decide +kernel
theorem d_M_init_341 : decode m_M_init.2.1 341 = .ok (.newarray .int, 2) := by decide +kernel
theorem d_M_init_343 : decode m_M_init.2.1 343 = .ok (.putfield 127, 3) := by decide +kernel
theorem d_M_init_346 : decode m_M_init.2.1 346 = .ok (.aload_n 0, 1) := by decide +kernel
theorem d_M_init_347 : decode m_M_init.2.1 347 = .ok (.bipush 10, 2) := by decide +kernel
theorem d_M_init_349 : decode m_M_init.2.1 349 = .ok (.newarray .int, 2) := by decide +kernel
theorem d_M_init_351 : decode m_M_init.2.1 351 = .ok (.putfield 130, 3) := by decide +kernel
theorem d_M_init_354 : decode m_M_init.2.1 354 = .ok (.aload_n 0, 1) := by decide +kernel
theorem d_M_init_355 : decode m_M_init.2.1 355 = .ok (.bipush 10, 2) := by decide +kernel
theorem d_M_init_357 : decode m_M_init.2.1 357 = .ok (.newarray .int, 2) := by decide +kernel
theorem d_M_init_359 : decode m_M_init.2.1 359 = .ok (.putfield 133, 3) := by decide +kernel
theorem d_M_init_362 : decode m_M_init.2.1 362 = .ok (.aload_n 0, 1) := by decide +kernel
theorem d_M_init_363 : decode m_M_init.2.1 363 = .ok (.bipush 10, 2) := by decide +kernel
theorem d_M_init_365 : decode m_M_init.2.1 365 = .ok (.newarray .int, 2) := by decide +kernel
theorem d_M_init_367 : decode m_M_init.2.1 367 = .ok (.putfield 136, 3) := by decide +kernel
theorem d_M_init_370 : decode m_M_init.2.1 370 = .ok (.aload_n 0, 1) := by decide +kernel
theorem d_M_init_371 : decode m_M_init.2.1 371 = .ok (.bipush 10, 2) := by decide +kernel
theorem d_M_init_373 : decode m_M_init.2.1 373 = .ok (.newarray .int, 2) := by decide +kernel
theorem d_M_init_375 : decode m_M_init.2.1 375 = .ok (.putfield 139, 3) := by decide +kernel
theorem d_M_init_378 : decode m_M_init.2.1 378 = .ok (.aload_n 0, 1) := by decide +kernel
theorem d_M_init_379 : decode m_M_init.2.1 379 = .ok (.bipush 6, 2) := by decide +kernel
theorem d_M_init_381 : decode m_M_init.2.1 381 = .ok (.newarray .int, 2) := by decide +kernel
theorem d_M_init_383 : decode m_M_init.2.1 383 = .ok (.putfield 142, 3) := by decide +kernel
theorem d_M_init_386 : decode m_M_init.2.1 386 = .ok (.aload_n 0, 1) := by decide +kernel
theorem d_M_init_387 : decode m_M_init.2.1 387 = .ok (.bipush 32, 2) := by decide +kernel
theorem d_M_init_389 : decode m_M_init.2.1 389 = .ok (.newarray .int, 2) := by decide +kernel
theorem d_M_init_391 : decode m_M_init.2.1 391 = .ok (.putfield 145, 3) := by decide +kernel
theorem d_M_init_394 : decode m_M_init.2.1 394 = .ok (.aload_n 0, 1) := by decide +kernel
theorem d_M_init_395 : decode m_M_init.2.1 395 = .ok (.bipush 32, 2) := by decide +kernel
theorem d_M_init_397 : decode m_M_init.2.1 397 = .ok (.newarray .int, 2) := by decide +kernel
theorem d_M_init_399 : decode m_M_init.2.1 399 = .ok (.putfield 148, 3) := by decide +kernel
theorem d_M_init_402 : decode m_M_init.2.1 402 = .ok (.aload_n 0, 1) := by decide +kernel
theorem d_M_init_403 : decode m_M_init.2.1 403 = .ok (.bipush 32, 2) := by decide +kernel
theorem d_M_init_405 : decode m_M_init.2.1 405 = .ok (.newarray .int, 2) := by decide +kernel
theorem d_M_init_407 : decode m_M_init.2.1 407 = .ok (.putfield 151, 3) := by decide +kernel
theorem d_M_init_410 : decode m_M_init.2.1 410 = .ok (.aload_n 0, 1) := by decide +kernel
theorem d_M_init_411 : decode m_M_init.2.1 411 = .ok (.sipush 256, 3) := by decide +kernel
theorem d_M_init_414 : decode m_M_init.2.1 414 = .ok (.newarray .int, 2) := by decide +kernel
theorem d_M_init_416 : decode m_M_init.2.1 416 = .ok (.putfield 154, 3) := by decide +kernel
theorem d_M_init_419 : decode m_M_init.2.1 419 = .ok (.aload_n 0, 1) := by decide +kernel
theorem d_M_init_420 : decode m_M_init.2.1 420 = .ok (.sipush 620, 3) := by decide +kernel
theorem d_M_init_423 : decode m_M_init.2.1 423 = .ok (.newarray .int, 2) := by decide +kernel
theorem d_M_init_425 : decode m_M_init.2.1 425 = .ok (.putfield 157, 3) := by decide +kernel
theorem d_M_init_428 : decode m_M_init.2.1 428 = .ok (.aload_n 0, 1) := by decide +kernel
theorem d_M_init_429 : decode m_M_init.2.1 429 = .ok (.sipush 620, 3) := by decide +kernel
theorem d_M_init_432 : decode m_M_init.2.1 432 = .ok (.newarray .int, 2) := by decide +kernel
theorem d_M_init_434 : decode m_M_init.2.1 434 = .ok (.putfield 160, 3) := by decide +kernel
theorem d_M_init_437 : decode m_M_init.2.1 437 = .ok (.aload_n 0, 1) := by decide +kernel
theorem d_M_init_438 : decode m_M_init.2.1 438 = .ok (.sipush 620, 3) := by decide +kernel
theorem d_M_init_441 : decode m_M_init.2.1 441 = .ok (.newarray .int, 2) := by decide +kernel
theorem d_M_init_443 : decode m_M_init.2.1 443 = .ok (.putfield 163, 3) := by decide +kernel
theorem d_M_init_446 : decode m_M_init.2.1 446 = .ok (.aload_n 0, 1) := by decide +kernel
theorem d_M_init_447 : decode m_M_init.2.1 447 = .ok (.bipush 101, 2) := by decide +kernel
theorem d_M_init_449 : decode m_M_init.2.1 449 = .ok (.newarray .int, 2) := by decide +kernel
theorem d_M_init_451 : decode m_M_init.2.1 451 = .ok (.putfield 166, 3) := by decide +kernel
theorem d_M_init_454 : decode m_M_init.2.1 454 = .ok (.aload_n 0, 1) := by decide +kernel
theorem d_M_init_455 : decode m_M_init.2.1 455 = .ok (.bipush 101, 2) := by decide +kernel
theorem d_M_init_457 : decode m_M_init.2.1 457 = .ok (.newarray .int, 2) := by decide +kernel
theorem d_M_init_459 : decode m_M_init.2.1 459 = .ok (.putfield 169, 3) := by decide +kernel
theorem d_M_init_462 : decode m_M_init.2.1 462 = .ok (.aload_n 0, 1) := by decide +kernel
theorem d_M_init_463 : decode m_M_init.2.1 463 = .ok (.bipush 101, 2) := by decide +kernel
theorem d_M_init_465 : decode m_M_init.2.1 465 = .ok (.newarray .int, 2) := by decide +kernel
theorem d_M_init_467 : decode m_M_init.2.1 467 = .ok (.putfield 172, 3) := by decide +kernel
theorem d_M_init_470 : decode m_M_init.2.1 470 = .ok (.aload_n 0, 1) := by decide +kernel
theorem d_M_init_471 : decode m_M_init.2.1 471 = .ok (.bipush 101, 2) := by decide +kernel
theorem d_M_init_473 : decode m_M_init.2.1 473 = .ok (.newarray .int, 2) := by decide +kernel
theorem d_M_init_475 : decode m_M_init.2.1 475 = .ok (.putfield 175, 3) := by decide +kernel
theorem d_M_init_478 : decode m_M_init.2.1 478 = .ok (.aload_n 0, 1) := by decide +kernel
theorem d_M_init_479 : decode m_M_init.2.1 479 = .ok (.bipush 101, 2) := by decide +kernel
theorem d_M_init_481 : decode m_M_init.2.1 481 = .ok (.newarray .int, 2) := by decide +kernel
theorem d_M_init_483 : decode m_M_init.2.1 483 = .ok (.putfield 178, 3) := by decide +kernel
theorem d_M_init_486 : decode m_M_init.2.1 486 = .ok (.aload_n 0, 1) := by decide +kernel
theorem d_M_init_487 : decode m_M_init.2.1 487 = .ok (.bipush 101, 2) := by decide +kernel
theorem d_M_init_489 : decode m_M_init.2.1 489 = .ok (.newarray .int, 2) := by decide +kernel
theorem d_M_init_491 : decode m_M_init.2.1 491 = .ok (.putfield 181, 3) := by decide +kernel
theorem d_M_init_494 : decode m_M_init.2.1 494 = .ok (.return_, 1) := by decide +kernel
theorem d_M_thrown_0 : decode m_M_thrown.2.1 0 = .ok (.aload_n 0, 1) := by decide +kernel
theorem d_M_thrown_1 : decode m_M_thrown.2.1 1 = .ok (.getfield 184, 3) := by decide +kernel
theorem d_M_thrown_4 : decode m_M_thrown.2.1 4 = .ok (.ireturn, 1) := by decide +kernel
theorem d_M_isVariable_0 : decode m_M_isVariable.2.1 0 = .ok (.iload_n 0, 1) := by decide +kernel
theorem d_M_isVariable_1 : decode m_M_isVariable.2.1 1 = .ok (.bipush 97, 2) := by decide +kernel
theorem d_M_isVariable_3 : decode m_M_isVariable.2.1 3 = .ok (.if_icmp .lt 13, 3) := by decide +kernel
theorem d_M_isVariable_6 : decode m_M_isVariable.2.1 6 = .ok (.iload_n 0, 1) := by decide +kernel
theorem d_M_isVariable_7 : decode m_M_isVariable.2.1 7 = .ok (.bipush 122, 2) := by decide +kernel
theorem d_M_isVariable_9 : decode m_M_isVariable.2.1 9 = .ok (.if_icmp .gt 7, 3) := by decide +kernel
theorem d_M_isVariable_12 : decode m_M_isVariable.2.1 12 = .ok (.iconst 1, 1) := by decide +kernel
theorem d_M_isVariable_13 : decode m_M_isVariable.2.1 13 = .ok (.goto 4, 3) := by decide +kernel
theorem d_M_isVariable_16 : decode m_M_isVariable.2.1 16 = .ok (.iconst 0, 1) := by decide +kernel
theorem d_M_isVariable_17 : decode m_M_isVariable.2.1 17 = .ok (.ireturn, 1) := by decide +kernel
theorem d_M_isLetter_0 : decode m_M_isLetter.2.1 0 = .ok (.iload_n 0, 1) := by decide +kernel
theorem d_M_isLetter_1 : decode m_M_isLetter.2.1 1 = .ok (.bipush 65, 2) := by decide +kernel
theorem d_M_isLetter_3 : decode m_M_isLetter.2.1 3 = .ok (.if_icmp .lt 13, 3) := by decide +kernel
theorem d_M_isLetter_6 : decode m_M_isLetter.2.1 6 = .ok (.iload_n 0, 1) := by decide +kernel
theorem d_M_isLetter_7 : decode m_M_isLetter.2.1 7 = .ok (.bipush 90, 2) := by decide +kernel
theorem d_M_isLetter_9 : decode m_M_isLetter.2.1 9 = .ok (.if_icmp .gt 7, 3) := by decide +kernel
theorem d_M_isLetter_12 : decode m_M_isLetter.2.1 12 = .ok (.iconst 1, 1) := by decide +kernel
theorem d_M_isLetter_13 : decode m_M_isLetter.2.1 13 = .ok (.goto 4, 3) := by decide +kernel
theorem d_M_isLetter_16 : decode m_M_isLetter.2.1 16 = .ok (.iconst 0, 1) := by decide +kernel
theorem d_M_isLetter_17 : decode m_M_isLetter.2.1 17 = .ok (.ireturn, 1) := by decide +kernel
theorem d_M_isDigit_0 : decode m_M_isDigit.2.1 0 = .ok (.iload_n 0, 1) := by decide +kernel
theorem d_M_isDigit_1 : decode m_M_isDigit.2.1 1 = .ok (.bipush 48, 2) := by decide +kernel
theorem d_M_isDigit_3 : decode m_M_isDigit.2.1 3 = .ok (.if_icmp .lt 13, 3) := by decide +kernel
theorem d_M_isDigit_6 : decode m_M_isDigit.2.1 6 = .ok (.iload_n 0, 1) := by decide +kernel
theorem d_M_isDigit_7 : decode m_M_isDigit.2.1 7 = .ok (.bipush 57, 2) := by decide +kernel
theorem d_M_isDigit_9 : decode m_M_isDigit.2.1 9 = .ok (.if_icmp .gt 7, 3) := by decide +kernel
theorem d_M_isDigit_12 : decode m_M_isDigit.2.1 12 = .ok (.iconst 1, 1) := by decide +kernel
theorem d_M_isDigit_13 : decode m_M_isDigit.2.1 13 = .ok (.goto 4, 3) := by decide +kernel
theorem d_M_isDigit_16 : decode m_M_isDigit.2.1 16 = .ok (.iconst 0, 1) := by decide +kernel
theorem d_M_isDigit_17 : decode m_M_isDigit.2.1 17 = .ok (.ireturn, 1) := by decide +kernel
theorem d_M_type_0 : decode m_M_type.2.1 0 = .ok (.aload_n 0, 1) := by decide +kernel
theorem d_M_type_1 : decode m_M_type.2.1 1 = .ok (.iconst 0, 1) := by decide +kernel
theorem d_M_type_2 : decode m_M_type.2.1 2 = .ok (.putfield 184, 3) := by decide +kernel
theorem d_M_type_5 : decode m_M_type.2.1 5 = .ok (.iload_n 1, 1) := by decide +kernel
theorem d_M_type_6 : decode m_M_type.2.1 6 = .ok (.bipush 32, 2) := by decide +kernel
theorem d_M_type_8 : decode m_M_type.2.1 8 = .ok (.if_icmp .lt 18, 3) := by decide +kernel
theorem d_M_type_11 : decode m_M_type.2.1 11 = .ok (.iload_n 1, 1) := by decide +kernel
theorem d_M_type_12 : decode m_M_type.2.1 12 = .ok (.bipush 126, 2) := by decide +kernel
theorem d_M_type_14 : decode m_M_type.2.1 14 = .ok (.if_icmp .gt 12, 3) := by decide +kernel
theorem d_M_type_17 : decode m_M_type.2.1 17 = .ok (.aload_n 0, 1) := by decide +kernel
theorem d_M_type_18 : decode m_M_type.2.1 18 = .ok (.getfield 188, 3) := by decide +kernel
theorem d_M_type_21 : decode m_M_type.2.1 21 = .ok (.bipush 80, 2) := by decide +kernel
theorem d_M_type_23 : decode m_M_type.2.1 23 = .ok (.if_icmp .ne 5, 3) := by decide +kernel
theorem d_M_type_26 : decode m_M_type.2.1 26 = .ok (.iconst 0, 1) := by decide +kernel
theorem d_M_type_27 : decode m_M_type.2.1 27 = .ok (.ireturn, 1) := by decide +kernel
theorem d_M_type_28 : decode m_M_type.2.1 28 = .ok (.aload_n 0, 1) := by decide +kernel
theorem d_M_type_29 : decode m_M_type.2.1 29 = .ok (.getfield 7, 3) := by decide +kernel
theorem d_M_type_32 : decode m_M_type.2.1 32 = .ok (.aload_n 0, 1) := by decide +kernel
theorem d_M_type_33 : decode m_M_type.2.1 33 = .ok (.getfield 188, 3) := by decide +kernel
theorem d_M_type_36 : decode m_M_type.2.1 36 = .ok (.iload_n 1, 1) := by decide +kernel
theorem d_M_type_37 : decode m_M_type.2.1 37 = .ok (.iastore, 1) := by decide +kernel
theorem d_M_type_38 : decode m_M_type.2.1 38 = .ok (.aload_n 0, 1) := by decide +kernel
theorem d_M_type_39 : decode m_M_type.2.1 39 = .ok (.dup, 1) := by decide +kernel
theorem d_M_type_40 : decode m_M_type.2.1 40 = .ok (.getfield 188, 3) := by decide +kernel
theorem d_M_type_43 : decode m_M_type.2.1 43 = .ok (.iconst 1, 1) := by decide +kernel
theorem d_M_type_44 : decode m_M_type.2.1 44 = .ok (.iadd, 1) := by decide +kernel
theorem d_M_type_45 : decode m_M_type.2.1 45 = .ok (.putfield 188, 3) := by decide +kernel
theorem d_M_type_48 : decode m_M_type.2.1 48 = .ok (.iconst 1, 1) := by decide +kernel
theorem d_M_type_49 : decode m_M_type.2.1 49 = .ok (.ireturn, 1) := by decide +kernel
theorem d_M_wipe_0 : decode m_M_wipe.2.1 0 = .ok (.aload_n 0, 1) := by decide +kernel
theorem d_M_wipe_1 : decode m_M_wipe.2.1 1 = .ok (.iconst 0, 1) := by decide +kernel
theorem d_M_wipe_2 : decode m_M_wipe.2.1 2 = .ok (.putfield 184, 3) := by decide +kernel
theorem d_M_wipe_5 : decode m_M_wipe.2.1 5 = .ok (.aload_n 0, 1) := by decide +kernel
theorem d_M_wipe_6 : decode m_M_wipe.2.1 6 = .ok (.getfield 188, 3) := by decide +kernel
theorem d_M_wipe_9 : decode m_M_wipe.2.1 9 = .ok (.istore_n 1, 1) := by decide +kernel
theorem d_M_wipe_10 : decode m_M_wipe.2.1 10 = .ok (.aload_n 0, 1) := by decide +kernel
theorem d_M_wipe_11 : decode m_M_wipe.2.1 11 = .ok (.iconst 0, 1) := by decide +kernel
theorem d_M_wipe_12 : decode m_M_wipe.2.1 12 = .ok (.putfield 188, 3) := by decide +kernel
theorem d_M_wipe_15 : decode m_M_wipe.2.1 15 = .ok (.iload_n 1, 1) := by decide +kernel
theorem d_M_wipe_16 : decode m_M_wipe.2.1 16 = .ok (.ireturn, 1) := by decide +kernel
theorem d_M_push_0 : decode m_M_push.2.1 0 = .ok (.aload_n 0, 1) := by decide +kernel
theorem d_M_push_1 : decode m_M_push.2.1 1 = .ok (.getfield 76, 3) := by decide +kernel
theorem d_M_push_4 : decode m_M_push.2.1 4 = .ok (.aload_n 0, 1) := by decide +kernel
theorem d_M_push_5 : decode m_M_push.2.1 5 = .ok (.getfield 191, 3) := by decide +kernel
theorem d_M_push_8 : decode m_M_push.2.1 8 = .ok (.iload_n 1, 1) := by decide +kernel
theorem d_M_push_9 : decode m_M_push.2.1 9 = .ok (.iastore, 1) := by decide +kernel
theorem d_M_push_10 : decode m_M_push.2.1 10 = .ok (.aload_n 0, 1) := by decide +kernel
theorem d_M_push_11 : decode m_M_push.2.1 11 = .ok (.getfield 79, 3) := by decide +kernel
theorem d_M_push_14 : decode m_M_push.2.1 14 = .ok (.aload_n 0, 1) := by decide +kernel
theorem d_M_push_15 : decode m_M_push.2.1 15 = .ok (.getfield 191, 3) := by decide +kernel
theorem d_M_push_18 : decode m_M_push.2.1 18 = .ok (.iload_n 2, 1) := by decide +kernel
theorem d_M_push_19 : decode m_M_push.2.1 19 = .ok (.iastore, 1) := by decide +kernel
theorem d_M_push_20 : decode m_M_push.2.1 20 = .ok (.aload_n 0, 1) := by decide +kernel
theorem d_M_push_21 : decode m_M_push.2.1 21 = .ok (.getfield 82, 3) := by decide +kernel
theorem d_M_push_24 : decode m_M_push.2.1 24 = .ok (.aload_n 0, 1) := by decide +kernel
theorem d_M_push_25 : decode m_M_push.2.1 25 = .ok (.getfield 191, 3) := by decide +kernel
theorem d_M_push_28 : decode m_M_push.2.1 28 = .ok (.iload_n 3, 1) := by decide +kernel
theorem d_M_push_29 : decode m_M_push.2.1 29 = .ok (.iastore, 1) := by decide +kernel
theorem d_M_push_30 : decode m_M_push.2.1 30 = .ok (.aload_n 0, 1) := by decide +kernel
theorem d_M_push_31 : decode m_M_push.2.1 31 = .ok (.dup, 1) := by decide +kernel
theorem d_M_push_32 : decode m_M_push.2.1 32 = .ok (.getfield 191, 3) := by decide +kernel
theorem d_M_push_35 : decode m_M_push.2.1 35 = .ok (.iconst 1, 1) := by decide +kernel
theorem d_M_push_36 : decode m_M_push.2.1 36 = .ok (.iadd, 1) := by decide +kernel
theorem d_M_push_37 : decode m_M_push.2.1 37 = .ok (.putfield 191, 3) := by decide +kernel
theorem d_M_push_40 : decode m_M_push.2.1 40 = .ok (.return_, 1) := by decide +kernel
theorem d_M_node_0 : decode m_M_node.2.1 0 = .ok (.aload_n 0, 1) := by decide +kernel
theorem d_M_node_1 : decode m_M_node.2.1 1 = .ok (.getfield 46, 3) := by decide +kernel
theorem d_M_node_4 : decode m_M_node.2.1 4 = .ok (.aload_n 0, 1) := by decide +kernel
theorem d_M_node_5 : decode m_M_node.2.1 5 = .ok (.getfield 194, 3) := by decide +kernel
theorem d_M_node_8 : decode m_M_node.2.1 8 = .ok (.iload_n 1, 1) := by decide +kernel
theorem d_M_node_9 : decode m_M_node.2.1 9 = .ok (.iastore, 1) := by decide +kernel
theorem d_M_node_10 : decode m_M_node.2.1 10 = .ok (.aload_n 0, 1) := by decide +kernel
theorem d_M_node_11 : decode m_M_node.2.1 11 = .ok (.getfield 49, 3) := by decide +kernel
theorem d_M_node_14 : decode m_M_node.2.1 14 = .ok (.aload_n 0, 1) := by decide +kernel
theorem d_M_node_15 : decode m_M_node.2.1 15 = .ok (.getfield 194, 3) := by decide +kernel
theorem d_M_node_18 : decode m_M_node.2.1 18 = .ok (.iload_n 2, 1) := by decide +kernel
theorem d_M_node_19 : decode m_M_node.2.1 19 = .ok (.iastore, 1) := by decide +kernel
theorem d_M_node_20 : decode m_M_node.2.1 20 = .ok (.aload_n 0, 1) := by decide +kernel
theorem d_M_node_21 : decode m_M_node.2.1 21 = .ok (.getfield 52, 3) := by decide +kernel
theorem d_M_node_24 : decode m_M_node.2.1 24 = .ok (.aload_n 0, 1) := by decide +kernel
theorem d_M_node_25 : decode m_M_node.2.1 25 = .ok (.getfield 194, 3) := by decide +kernel
theorem d_M_node_28 : decode m_M_node.2.1 28 = .ok (.iconst 0, 1) := by decide +kernel
theorem d_M_node_29 : decode m_M_node.2.1 29 = .ok (.iastore, 1) := by decide +kernel
theorem d_M_node_30 : decode m_M_node.2.1 30 = .ok (.aload_n 0, 1) := by decide +kernel
theorem d_M_node_31 : decode m_M_node.2.1 31 = .ok (.getfield 194, 3) := by decide +kernel
theorem d_M_node_34 : decode m_M_node.2.1 34 = .ok (.aload_n 0, 1) := by decide +kernel
theorem d_M_node_35 : decode m_M_node.2.1 35 = .ok (.getfield 197, 3) := by decide +kernel
theorem d_M_node_38 : decode m_M_node.2.1 38 = .ok (.if_icmp .lt 47, 3) := by decide +kernel
theorem d_M_node_41 : decode m_M_node.2.1 41 = .ok (.aload_n 0, 1) := by decide +kernel
theorem d_M_node_42 : decode m_M_node.2.1 42 = .ok (.getfield 194, 3) := by decide +kernel
theorem d_M_node_45 : decode m_M_node.2.1 45 = .ok (.aload_n 0, 1) := by decide +kernel
theorem d_M_node_46 : decode m_M_node.2.1 46 = .ok (.getfield 197, 3) := by decide +kernel
theorem d_M_node_49 : decode m_M_node.2.1 49 = .ok (.isub, 1) := by decide +kernel
theorem d_M_node_50 : decode m_M_node.2.1 50 = .ok (.bipush 82, 2) := by decide +kernel
theorem d_M_node_52 : decode m_M_node.2.1 52 = .ok (.if_icmp .ge 33, 3) := by decide +kernel
theorem d_M_node_55 : decode m_M_node.2.1 55 = .ok (.aload_n 0, 1) := by decide +kernel
theorem d_M_node_56 : decode m_M_node.2.1 56 = .ok (.getfield 55, 3) := by decide +kernel
theorem d_M_node_59 : decode m_M_node.2.1 59 = .ok (.aload_n 0, 1) := by decide +kernel
theorem d_M_node_60 : decode m_M_node.2.1 60 = .ok (.getfield 194, 3) := by decide +kernel
theorem d_M_node_63 : decode m_M_node.2.1 63 = .ok (.aload_n 0, 1) := by decide +kernel
theorem d_M_node_64 : decode m_M_node.2.1 64 = .ok (.getfield 197, 3) := by decide +kernel
theorem d_M_node_67 : decode m_M_node.2.1 67 = .ok (.isub, 1) := by decide +kernel
theorem d_M_node_68 : decode m_M_node.2.1 68 = .ok (.iload_n 3, 1) := by decide +kernel
theorem d_M_node_69 : decode m_M_node.2.1 69 = .ok (.iastore, 1) := by decide +kernel
theorem d_M_node_70 : decode m_M_node.2.1 70 = .ok (.aload_n 0, 1) := by decide +kernel
theorem d_M_node_71 : decode m_M_node.2.1 71 = .ok (.getfield 58, 3) := by decide +kernel
theorem d_M_node_74 : decode m_M_node.2.1 74 = .ok (.aload_n 0, 1) := by decide +kernel
theorem d_M_node_75 : decode m_M_node.2.1 75 = .ok (.getfield 194, 3) := by decide +kernel
theorem d_M_node_78 : decode m_M_node.2.1 78 = .ok (.aload_n 0, 1) := by decide +kernel
theorem d_M_node_79 : decode m_M_node.2.1 79 = .ok (.getfield 197, 3) := by decide +kernel
theorem d_M_node_82 : decode m_M_node.2.1 82 = .ok (.isub, 1) := by decide +kernel
theorem d_M_node_83 : decode m_M_node.2.1 83 = .ok (.iconst (-1), 1) := by decide +kernel
theorem d_M_node_84 : decode m_M_node.2.1 84 = .ok (.iastore, 1) := by decide +kernel
theorem d_M_node_85 : decode m_M_node.2.1 85 = .ok (.aload_n 0, 1) := by decide +kernel
theorem d_M_node_86 : decode m_M_node.2.1 86 = .ok (.dup, 1) := by decide +kernel
theorem d_M_node_87 : decode m_M_node.2.1 87 = .ok (.getfield 194, 3) := by decide +kernel
theorem d_M_node_90 : decode m_M_node.2.1 90 = .ok (.iconst 1, 1) := by decide +kernel
theorem d_M_node_91 : decode m_M_node.2.1 91 = .ok (.iadd, 1) := by decide +kernel
theorem d_M_node_92 : decode m_M_node.2.1 92 = .ok (.putfield 194, 3) := by decide +kernel
theorem d_M_node_95 : decode m_M_node.2.1 95 = .ok (.aload_n 0, 1) := by decide +kernel
theorem d_M_node_96 : decode m_M_node.2.1 96 = .ok (.getfield 194, 3) := by decide +kernel
theorem d_M_node_99 : decode m_M_node.2.1 99 = .ok (.iconst 1, 1) := by decide +kernel
theorem d_M_node_100 : decode m_M_node.2.1 100 = .ok (.isub, 1) := by decide +kernel
theorem d_M_node_101 : decode m_M_node.2.1 101 = .ok (.ireturn, 1) := by decide +kernel
theorem d_M_below_0 : decode m_M_below.2.1 0 = .ok (.aload_n 0, 1) := by decide +kernel
theorem d_M_below_1 : decode m_M_below.2.1 1 = .ok (.getfield 46, 3) := by decide +kernel
theorem d_M_below_4 : decode m_M_below.2.1 4 = .ok (.iload_n 1, 1) := by decide +kernel
theorem d_M_below_5 : decode m_M_below.2.1 5 = .ok (.iaload, 1) := by decide +kernel
theorem d_M_below_6 : decode m_M_below.2.1 6 = .ok (.tableswitch 72 5 13 #[50, 57, 57, 61, 59, 72, 72, 72, 50], 50) := by decide +kernel
theorem d_M_below_56 : decode m_M_below.2.1 56 = .ok (.aload_n 0, 1) := by decide +kernel
theorem d_M_below_57 : decode m_M_below.2.1 57 = .ok (.getfield 52, 3) := by decide +kernel
theorem d_M_below_60 : decode m_M_below.2.1 60 = .ok (.iload_n 1, 1) := by decide +kernel
theorem d_M_below_61 : decode m_M_below.2.1 61 = .ok (.iaload, 1) := by decide +kernel
theorem d_M_below_62 : decode m_M_below.2.1 62 = .ok (.ireturn, 1) := by decide +kernel
theorem d_M_below_63 : decode m_M_below.2.1 63 = .ok (.iconst 2, 1) := by decide +kernel
theorem d_M_below_64 : decode m_M_below.2.1 64 = .ok (.ireturn, 1) := by decide +kernel
theorem d_M_below_65 : decode m_M_below.2.1 65 = .ok (.iconst 4, 1) := by decide +kernel
theorem d_M_below_66 : decode m_M_below.2.1 66 = .ok (.ireturn, 1) := by decide +kernel
theorem d_M_below_67 : decode m_M_below.2.1 67 = .ok (.iconst 1, 1) := by decide +kernel
theorem d_M_below_68 : decode m_M_below.2.1 68 = .ok (.iconst 2, 1) := by decide +kernel
theorem d_M_below_69 : decode m_M_below.2.1 69 = .ok (.aload_n 0, 1) := by decide +kernel
theorem d_M_below_70 : decode m_M_below.2.1 70 = .ok (.getfield 52, 3) := by decide +kernel
theorem d_M_below_73 : decode m_M_below.2.1 73 = .ok (.iload_n 1, 1) := by decide +kernel
theorem d_M_below_74 : decode m_M_below.2.1 74 = .ok (.iaload, 1) := by decide +kernel
theorem d_M_below_75 : decode m_M_below.2.1 75 = .ok (.imul, 1) := by decide +kernel
theorem d_M_below_76 : decode m_M_below.2.1 76 = .ok (.iadd, 1) := by decide +kernel
theorem d_M_below_77 : decode m_M_below.2.1 77 = .ok (.ireturn, 1) := by decide +kernel
theorem d_M_below_78 : decode m_M_below.2.1 78 = .ok (.iconst 0, 1) := by decide +kernel
theorem d_M_below_79 : decode m_M_below.2.1 79 = .ok (.ireturn, 1) := by decide +kernel
theorem d_M_behind_0 : decode m_M_behind.2.1 0 = .ok (.iconst 1, 1) := by decide +kernel
theorem d_M_behind_1 : decode m_M_behind.2.1 1 = .ok (.istore_n 2, 1) := by decide +kernel
theorem d_M_behind_2 : decode m_M_behind.2.1 2 = .ok (.iload_n 1, 1) := by decide +kernel
theorem d_M_behind_3 : decode m_M_behind.2.1 3 = .ok (.istore_n 3, 1) := by decide +kernel
theorem d_M_behind_4 : decode m_M_behind.2.1 4 = .ok (.iload_n 2, 1) := by decide +kernel
theorem d_M_behind_5 : decode m_M_behind.2.1 5 = .ok (.ifCond .le 19, 3) := by decide +kernel
theorem d_M_behind_8 : decode m_M_behind.2.1 8 = .ok (.iload_n 2, 1) := by decide +kernel
theorem d_M_behind_9 : decode m_M_behind.2.1 9 = .ok (.iconst 1, 1) := by decide +kernel
theorem d_M_behind_10 : decode m_M_behind.2.1 10 = .ok (.isub, 1) := by decide +kernel
theorem d_M_behind_11 : decode m_M_behind.2.1 11 = .ok (.aload_n 0, 1) := by decide +kernel
theorem d_M_behind_12 : decode m_M_behind.2.1 12 = .ok (.iload_n 3, 1) := by decide +kernel
theorem d_M_behind_13 : decode m_M_behind.2.1 13 = .ok (.invokevirtual 200, 3) := by decide +kernel
theorem d_M_behind_16 : decode m_M_behind.2.1 16 = .ok (.iadd, 1) := by decide +kernel
theorem d_M_behind_17 : decode m_M_behind.2.1 17 = .ok (.istore_n 2, 1) := by decide +kernel
theorem d_M_behind_18 : decode m_M_behind.2.1 18 = .ok (.iinc 3 1, 3) := by decide +kernel
theorem d_M_behind_21 : decode m_M_behind.2.1 21 = .ok (.goto (-17), 3) := by decide +kernel
theorem d_M_behind_24 : decode m_M_behind.2.1 24 = .ok (.iload_n 3, 1) := by decide +kernel
theorem d_M_behind_25 : decode m_M_behind.2.1 25 = .ok (.ireturn, 1) := by decide +kernel
theorem d_M_beginTerm_0 : decode m_M_beginTerm.2.1 0 = .ok (.iload_n 1, 1) := by decide +kernel
theorem d_M_beginTerm_1 : decode m_M_beginTerm.2.1 1 = .ok (.invokestatic 204, 3) := by decide +kernel
theorem d_M_beginTerm_4 : decode m_M_beginTerm.2.1 4 = .ok (.ifCond .ne 10, 3) := by decide +kernel
theorem d_M_beginTerm_7 : decode m_M_beginTerm.2.1 7 = .ok (.iload_n 1, 1) := by decide +kernel
theorem d_M_beginTerm_8 : decode m_M_beginTerm.2.1 8 = .ok (.invokestatic 208, 3) := by decide +kernel
theorem d_M_beginTerm_11 : decode m_M_beginTerm.2.1 11 = .ok (.ifCond .eq 41, 3) := by decide +kernel
theorem d_M_beginTerm_14 : decode m_M_beginTerm.2.1 14 = .ok (.aload_n 0, 1) := by decide +kernel
theorem d_M_beginTerm_15 : decode m_M_beginTerm.2.1 15 = .ok (.iload_n 1, 1) := by decide +kernel
theorem d_M_beginTerm_16 : decode m_M_beginTerm.2.1 16 = .ok (.invokestatic 204, 3) := by decide +kernel
theorem d_M_beginTerm_19 : decode m_M_beginTerm.2.1 19 = .ok (.ifCond .eq 7, 3) := by decide +kernel
theorem d_M_beginTerm_22 : decode m_M_beginTerm.2.1 22 = .ok (.iconst 1, 1) := by decide +kernel
theorem d_M_beginTerm_23 : decode m_M_beginTerm.2.1 23 = .ok (.goto 4, 3) := by decide +kernel
theorem d_M_beginTerm_26 : decode m_M_beginTerm.2.1 26 = .ok (.iconst 2, 1) := by decide +kernel
theorem d_M_beginTerm_27 : decode m_M_beginTerm.2.1 27 = .ok (.iload_n 1, 1) := by decide +kernel
theorem d_M_beginTerm_28 : decode m_M_beginTerm.2.1 28 = .ok (.invokestatic 204, 3) := by decide +kernel
theorem d_M_beginTerm_31 : decode m_M_beginTerm.2.1 31 = .ok (.ifCond .eq 10, 3) := by decide +kernel
theorem d_M_beginTerm_34 : decode m_M_beginTerm.2.1 34 = .ok (.iload_n 1, 1) := by decide +kernel
theorem d_M_beginTerm_35 : decode m_M_beginTerm.2.1 35 = .ok (.bipush 97, 2) := by decide +kernel
theorem d_M_beginTerm_37 : decode m_M_beginTerm.2.1 37 = .ok (.isub, 1) := by decide +kernel
theorem d_M_beginTerm_38 : decode m_M_beginTerm.2.1 38 = .ok (.goto 7, 3) := by decide +kernel
theorem d_M_beginTerm_41 : decode m_M_beginTerm.2.1 41 = .ok (.iload_n 1, 1) := by decide +kernel
theorem d_M_beginTerm_42 : decode m_M_beginTerm.2.1 42 = .ok (.bipush 48, 2) := by decide +kernel
theorem d_M_beginTerm_44 : decode m_M_beginTerm.2.1 44 = .ok (.isub, 1) := by decide +kernel
theorem d_M_beginTerm_45 : decode m_M_beginTerm.2.1 45 = .ok (.iload_n 2, 1) := by decide +kernel
theorem d_M_beginTerm_46 : decode m_M_beginTerm.2.1 46 = .ok (.invokevirtual 211, 3) := by decide +kernel
theorem d_M_beginTerm_49 : decode m_M_beginTerm.2.1 49 = .ok (.pop, 1) := by decide +kernel
theorem d_M_beginTerm_50 : decode m_M_beginTerm.2.1 50 = .ok (.iconst 1, 1) := by decide +kernel
theorem d_M_beginTerm_51 : decode m_M_beginTerm.2.1 51 = .ok (.ireturn, 1) := by decide +kernel
theorem d_M_beginTerm_52 : decode m_M_beginTerm.2.1 52 = .ok (.iload_n 1, 1) := by decide +kernel
theorem d_M_beginTerm_53 : decode m_M_beginTerm.2.1 53 = .ok (.bipush 35, 2) := by decide +kernel
theorem d_M_beginTerm_55 : decode m_M_beginTerm.2.1 55 = .ok (.if_icmp .eq 16, 3) := by decide +kernel
theorem d_M_beginTerm_58 : decode m_M_beginTerm.2.1 58 = .ok (.iload_n 1, 1) := by decide +kernel
theorem d_M_beginTerm_59 : decode m_M_beginTerm.2.1 59 = .ok (.bipush 95, 2) := by decide +kernel
theorem d_M_beginTerm_61 : decode m_M_beginTerm.2.1 61 = .ok (.if_icmp .ne 30, 3) := by decide +kernel
theorem d_M_beginTerm_64 : decode m_M_beginTerm.2.1 64 = .ok (.iload_n 3, 1) := by decide +kernel
theorem d_M_beginTerm_65 : decode m_M_beginTerm.2.1 65 = .ok (.iconst 2, 1) := by decide +kernel
theorem d_M_beginTerm_66 : decode m_M_beginTerm.2.1 66 = .ok (.irem, 1) := by decide +kernel
theorem d_M_beginTerm_67 : decode m_M_beginTerm.2.1 67 = .ok (.iconst 1, 1) := by decide +kernel
theorem d_M_beginTerm_68 : decode m_M_beginTerm.2.1 68 = .ok (.if_icmp .ne 23, 3) := by decide +kernel
theorem d_M_beginTerm_71 : decode m_M_beginTerm.2.1 71 = .ok (.aload_n 0, 1) := by decide +kernel
theorem d_M_beginTerm_72 : decode m_M_beginTerm.2.1 72 = .ok (.iload_n 1, 1) := by decide +kernel
theorem d_M_beginTerm_73 : decode m_M_beginTerm.2.1 73 = .ok (.bipush 35, 2) := by decide +kernel
theorem d_M_beginTerm_75 : decode m_M_beginTerm.2.1 75 = .ok (.if_icmp .ne 7, 3) := by decide +kernel
theorem d_M_beginTerm_78 : decode m_M_beginTerm.2.1 78 = .ok (.iconst 3, 1) := by decide +kernel
theorem d_M_beginTerm_79 : decode m_M_beginTerm.2.1 79 = .ok (.goto 4, 3) := by decide +kernel
theorem d_M_beginTerm_82 : decode m_M_beginTerm.2.1 82 = .ok (.iconst 4, 1) := by decide +kernel
theorem d_M_beginTerm_83 : decode m_M_beginTerm.2.1 83 = .ok (.iconst 0, 1) := by decide +kernel
theorem d_M_beginTerm_84 : decode m_M_beginTerm.2.1 84 = .ok (.iload_n 2, 1) := by decide +kernel
theorem d_M_beginTerm_85 : decode m_M_beginTerm.2.1 85 = .ok (.invokevirtual 211, 3) := by decide +kernel
theorem d_M_beginTerm_88 : decode m_M_beginTerm.2.1 88 = .ok (.pop, 1) := by decide +kernel
theorem d_M_beginTerm_89 : decode m_M_beginTerm.2.1 89 = .ok (.iconst 1, 1) := by decide +kernel
theorem d_M_beginTerm_90 : decode m_M_beginTerm.2.1 90 = .ok (.ireturn, 1) := by decide +kernel
theorem d_M_beginTerm_91 : decode m_M_beginTerm.2.1 91 = .ok (.iload_n 1, 1) := by decide +kernel
theorem d_M_beginTerm_92 : decode m_M_beginTerm.2.1 92 = .ok (.invokestatic 215, 3) := by decide +kernel
theorem d_M_beginTerm_95 : decode m_M_beginTerm.2.1 95 = .ok (.ifCond .eq 23, 3) := by decide +kernel
theorem d_M_beginTerm_98 : decode m_M_beginTerm.2.1 98 = .ok (.aload_n 0, 1) := by decide +kernel
theorem d_M_beginTerm_99 : decode m_M_beginTerm.2.1 99 = .ok (.sipush 201, 3) := by decide +kernel
theorem d_M_beginTerm_102 : decode m_M_beginTerm.2.1 102 = .ok (.aload_n 0, 1) := by decide +kernel
theorem d_M_beginTerm_103 : decode m_M_beginTerm.2.1 103 = .ok (.iconst 5, 1) := by decide +kernel
theorem d_M_beginTerm_104 : decode m_M_beginTerm.2.1 104 = .ok (.iload_n 1, 1) := by decide +kernel
theorem d_M_beginTerm_105 : decode m_M_beginTerm.2.1 105 = .ok (.bipush 65, 2) := by decide +kernel
theorem d_M_beginTerm_107 : decode m_M_beginTerm.2.1 107 = .ok (.isub, 1) := by decide +kernel
theorem d_M_beginTerm_108 : decode m_M_beginTerm.2.1 108 = .ok (.iload_n 2, 1) := by decide +kernel
theorem d_M_beginTerm_109 : decode m_M_beginTerm.2.1 109 = .ok (.invokevirtual 211, 3) := by decide +kernel
theorem d_M_beginTerm_112 : decode m_M_beginTerm.2.1 112 = .ok (.iload_n 3, 1) := by decide +kernel
theorem d_M_beginTerm_113 : decode m_M_beginTerm.2.1 113 = .ok (.invokevirtual 218, 3) := by decide +kernel
theorem d_M_beginTerm_116 : decode m_M_beginTerm.2.1 116 = .ok (.iconst 1, 1) := by decide +kernel
theorem d_M_beginTerm_117 : decode m_M_beginTerm.2.1 117 = .ok (.ireturn, 1) := by decide +kernel
theorem d_M_beginTerm_118 : decode m_M_beginTerm.2.1 118 = .ok (.iconst 0, 1) := by decide +kernel
theorem d_M_beginTerm_119 : decode m_M_beginTerm.2.1 119 = .ok (.ireturn, 1) := by decide +kernel
theorem d_M_beginCode_0 : decode m_M_beginCode.2.1 0 = .ok (.iload_n 1, 1) := by decide +kernel
theorem d_M_beginCode_1 : decode m_M_beginCode.2.1 1 = .ok (.invokestatic 204, 3) := by decide +kernel
theorem d_M_beginCode_4 : decode m_M_beginCode.2.1 4 = .ok (.ifCond .ne 16, 3) := by decide +kernel
theorem d_M_beginCode_7 : decode m_M_beginCode.2.1 7 = .ok (.iload_n 1, 1) := by decide +kernel
theorem d_M_beginCode_8 : decode m_M_beginCode.2.1 8 = .ok (.invokestatic 208, 3) := by decide +kernel
theorem d_M_beginCode_11 : decode m_M_beginCode.2.1 11 = .ok (.ifCond .ne 9, 3) := by decide +kernel
theorem d_M_beginCode_14 : decode m_M_beginCode.2.1 14 = .ok (.iload_n 1, 1) := by decide +kernel
theorem d_M_beginCode_15 : decode m_M_beginCode.2.1 15 = .ok (.bipush 126, 2) := by decide +kernel
theorem d_M_beginCode_17 : decode m_M_beginCode.2.1 17 = .ok (.if_icmp .ne 52, 3) := by decide +kernel
theorem d_M_beginCode_20 : decode m_M_beginCode.2.1 20 = .ok (.aload_n 0, 1) := by decide +kernel
theorem d_M_beginCode_21 : decode m_M_beginCode.2.1 21 = .ok (.iload_n 1, 1) := by decide +kernel
theorem d_M_beginCode_22 : decode m_M_beginCode.2.1 22 = .ok (.invokestatic 204, 3) := by decide +kernel
theorem d_M_beginCode_25 : decode m_M_beginCode.2.1 25 = .ok (.ifCond .eq 7, 3) := by decide +kernel
theorem d_M_beginCode_28 : decode m_M_beginCode.2.1 28 = .ok (.iconst 1, 1) := by decide +kernel
theorem d_M_beginCode_29 : decode m_M_beginCode.2.1 29 = .ok (.goto 15, 3) := by decide +kernel
theorem d_M_beginCode_32 : decode m_M_beginCode.2.1 32 = .ok (.iload_n 1, 1) := by decide +kernel
theorem d_M_beginCode_33 : decode m_M_beginCode.2.1 33 = .ok (.bipush 126, 2) := by decide +kernel
theorem d_M_beginCode_35 : decode m_M_beginCode.2.1 35 = .ok (.if_icmp .ne 8, 3) := by decide +kernel
theorem d_M_beginCode_38 : decode m_M_beginCode.2.1 38 = .ok (.bipush 10, 2) := by decide +kernel
theorem d_M_beginCode_40 : decode m_M_beginCode.2.1 40 = .ok (.goto 4, 3) := by decide +kernel
theorem d_M_beginCode_43 : decode m_M_beginCode.2.1 43 = .ok (.iconst 2, 1) := by decide +kernel
theorem d_M_beginCode_44 : decode m_M_beginCode.2.1 44 = .ok (.iload_n 1, 1) := by decide +kernel
theorem d_M_beginCode_45 : decode m_M_beginCode.2.1 45 = .ok (.invokestatic 204, 3) := by decide +kernel
theorem d_M_beginCode_48 : decode m_M_beginCode.2.1 48 = .ok (.ifCond .eq 10, 3) := by decide +kernel
theorem d_M_beginCode_51 : decode m_M_beginCode.2.1 51 = .ok (.iload_n 1, 1) := by decide +kernel
theorem d_M_beginCode_52 : decode m_M_beginCode.2.1 52 = .ok (.bipush 97, 2) := by decide +kernel
theorem d_M_beginCode_54 : decode m_M_beginCode.2.1 54 = .ok (.isub, 1) := by decide +kernel
theorem d_M_beginCode_55 : decode m_M_beginCode.2.1 55 = .ok (.goto 7, 3) := by decide +kernel
theorem d_M_beginCode_58 : decode m_M_beginCode.2.1 58 = .ok (.iload_n 1, 1) := by decide +kernel
theorem d_M_beginCode_59 : decode m_M_beginCode.2.1 59 = .ok (.bipush 48, 2) := by decide +kernel
theorem d_M_beginCode_61 : decode m_M_beginCode.2.1 61 = .ok (.isub, 1) := by decide +kernel
theorem d_M_beginCode_62 : decode m_M_beginCode.2.1 62 = .ok (.iload_n 2, 1) := by decide +kernel
theorem d_M_beginCode_63 : decode m_M_beginCode.2.1 63 = .ok (.invokevirtual 211, 3) := by decide +kernel
theorem d_M_beginCode_66 : decode m_M_beginCode.2.1 66 = .ok (.pop, 1) := by decide +kernel
theorem d_M_beginCode_67 : decode m_M_beginCode.2.1 67 = .ok (.iconst 1, 1) := by decide +kernel
theorem d_M_beginCode_68 : decode m_M_beginCode.2.1 68 = .ok (.ireturn, 1) := by decide +kernel
theorem d_M_beginCode_69 : decode m_M_beginCode.2.1 69 = .ok (.iload_n 1, 1) := by decide +kernel
theorem d_M_beginCode_70 : decode m_M_beginCode.2.1 70 = .ok (.invokestatic 215, 3) := by decide +kernel
theorem d_M_beginCode_73 : decode m_M_beginCode.2.1 73 = .ok (.ifCond .eq 23, 3) := by decide +kernel
theorem d_M_beginCode_76 : decode m_M_beginCode.2.1 76 = .ok (.aload_n 0, 1) := by decide +kernel
theorem d_M_beginCode_77 : decode m_M_beginCode.2.1 77 = .ok (.sipush 211, 3) := by decide +kernel
theorem d_M_beginCode_80 : decode m_M_beginCode.2.1 80 = .ok (.aload_n 0, 1) := by decide +kernel
theorem d_M_beginCode_81 : decode m_M_beginCode.2.1 81 = .ok (.iconst 5, 1) := by decide +kernel
theorem d_M_beginCode_82 : decode m_M_beginCode.2.1 82 = .ok (.iload_n 1, 1) := by decide +kernel
theorem d_M_beginCode_83 : decode m_M_beginCode.2.1 83 = .ok (.bipush 65, 2) := by decide +kernel
theorem d_M_beginCode_85 : decode m_M_beginCode.2.1 85 = .ok (.isub, 1) := by decide +kernel
theorem d_M_beginCode_86 : decode m_M_beginCode.2.1 86 = .ok (.iload_n 2, 1) := by decide +kernel
theorem d_M_beginCode_87 : decode m_M_beginCode.2.1 87 = .ok (.invokevirtual 211, 3) := by decide +kernel
theorem d_M_beginCode_90 : decode m_M_beginCode.2.1 90 = .ok (.iload_n 3, 1) := by decide +kernel
theorem d_M_beginCode_91 : decode m_M_beginCode.2.1 91 = .ok (.invokevirtual 218, 3) := by decide +kernel
theorem d_M_beginCode_94 : decode m_M_beginCode.2.1 94 = .ok (.iconst 1, 1) := by decide +kernel
theorem d_M_beginCode_95 : decode m_M_beginCode.2.1 95 = .ok (.ireturn, 1) := by decide +kernel
theorem d_M_beginCode_96 : decode m_M_beginCode.2.1 96 = .ok (.iload_n 3, 1) := by decide +kernel
theorem d_M_beginCode_97 : decode m_M_beginCode.2.1 97 = .ok (.bipush 12, 2) := by decide +kernel
theorem d_M_beginCode_99 : decode m_M_beginCode.2.1 99 = .ok (.if_icmp .ne 5, 3) := by decide +kernel
theorem d_M_beginCode_102 : decode m_M_beginCode.2.1 102 = .ok (.iconst 0, 1) := by decide +kernel
theorem d_M_beginCode_103 : decode m_M_beginCode.2.1 103 = .ok (.ireturn, 1) := by decide +kernel
theorem d_M_beginCode_104 : decode m_M_beginCode.2.1 104 = .ok (.iload_n 1, 1) := by decide +kernel
theorem d_M_beginCode_105 : decode m_M_beginCode.2.1 105 = .ok (.bipush 43, 2) := by decide +kernel
theorem d_M_beginCode_107 : decode m_M_beginCode.2.1 107 = .ok (.if_icmp .eq 9, 3) := by decide +kernel
theorem d_M_beginCode_110 : decode m_M_beginCode.2.1 110 = .ok (.iload_n 1, 1) := by decide +kernel
theorem d_M_beginCode_111 : decode m_M_beginCode.2.1 111 = .ok (.bipush 45, 2) := by decide +kernel
theorem d_M_beginCode_113 : decode m_M_beginCode.2.1 113 = .ok (.if_icmp .ne 47, 3) := by decide +kernel
theorem d_M_beginCode_116 : decode m_M_beginCode.2.1 116 = .ok (.aload_n 0, 1) := by decide +kernel
theorem d_M_beginCode_117 : decode m_M_beginCode.2.1 117 = .ok (.iload_n 1, 1) := by decide +kernel
theorem d_M_beginCode_118 : decode m_M_beginCode.2.1 118 = .ok (.bipush 43, 2) := by decide +kernel
theorem d_M_beginCode_120 : decode m_M_beginCode.2.1 120 = .ok (.if_icmp .ne 8, 3) := by decide +kernel
theorem d_M_beginCode_123 : decode m_M_beginCode.2.1 123 = .ok (.bipush 6, 2) := by decide +kernel
theorem d_M_beginCode_125 : decode m_M_beginCode.2.1 125 = .ok (.goto 5, 3) := by decide +kernel
theorem d_M_beginCode_128 : decode m_M_beginCode.2.1 128 = .ok (.bipush 7, 2) := by decide +kernel
theorem d_M_beginCode_130 : decode m_M_beginCode.2.1 130 = .ok (.iconst 0, 1) := by decide +kernel
theorem d_M_beginCode_131 : decode m_M_beginCode.2.1 131 = .ok (.iload_n 2, 1) := by decide +kernel
theorem d_M_beginCode_132 : decode m_M_beginCode.2.1 132 = .ok (.invokevirtual 211, 3) := by decide +kernel
theorem d_M_beginCode_135 : decode m_M_beginCode.2.1 135 = .ok (.pop, 1) := by decide +kernel
theorem d_M_beginCode_136 : decode m_M_beginCode.2.1 136 = .ok (.aload_n 0, 1) := by decide +kernel
theorem d_M_beginCode_137 : decode m_M_beginCode.2.1 137 = .ok (.sipush 210, 3) := by decide +kernel
theorem d_M_beginCode_140 : decode m_M_beginCode.2.1 140 = .ok (.iload_n 3, 1) := by decide +kernel
theorem d_M_beginCode_141 : decode m_M_beginCode.2.1 141 = .ok (.iconst 1, 1) := by decide +kernel
theorem d_M_beginCode_142 : decode m_M_beginCode.2.1 142 = .ok (.iadd, 1) := by decide +kernel
theorem d_M_beginCode_143 : decode m_M_beginCode.2.1 143 = .ok (.iconst 0, 1) := by decide +kernel
theorem d_M_beginCode_144 : decode m_M_beginCode.2.1 144 = .ok (.invokevirtual 218, 3) := by decide +kernel
theorem d_M_beginCode_147 : decode m_M_beginCode.2.1 147 = .ok (.aload_n 0, 1) := by decide +kernel
theorem d_M_beginCode_148 : decode m_M_beginCode.2.1 148 = .ok (.sipush 210, 3) := by decide +kernel
theorem d_M_beginCode_151 : decode m_M_beginCode.2.1 151 = .ok (.iload_n 3, 1) := by decide +kernel
theorem d_M_beginCode_152 : decode m_M_beginCode.2.1 152 = .ok (.iconst 1, 1) := by decide +kernel
theorem d_M_beginCode_153 : decode m_M_beginCode.2.1 153 = .ok (.iadd, 1) := by decide +kernel
theorem d_M_beginCode_154 : decode m_M_beginCode.2.1 154 = .ok (.iconst 0, 1) := by decide +kernel
theorem d_M_beginCode_155 : decode m_M_beginCode.2.1 155 = .ok (.invokevirtual 218, 3) := by decide +kernel
theorem d_M_beginCode_158 : decode m_M_beginCode.2.1 158 = .ok (.iconst 1, 1) := by decide +kernel
theorem d_M_beginCode_159 : decode m_M_beginCode.2.1 159 = .ok (.ireturn, 1) := by decide +kernel
theorem d_M_beginCode_160 : decode m_M_beginCode.2.1 160 = .ok (.iload_n 1, 1) := by decide +kernel
theorem d_M_beginCode_161 : decode m_M_beginCode.2.1 161 = .ok (.bipush 123, 2) := by decide +kernel
theorem d_M_beginCode_163 : decode m_M_beginCode.2.1 163 = .ok (.if_icmp .ne 32, 3) := by decide +kernel
theorem d_M_beginCode_166 : decode m_M_beginCode.2.1 166 = .ok (.aload_n 0, 1) := by decide +kernel
theorem d_M_beginCode_167 : decode m_M_beginCode.2.1 167 = .ok (.sipush 213, 3) := by decide +kernel
theorem d_M_beginCode_170 : decode m_M_beginCode.2.1 170 = .ok (.aload_n 0, 1) := by decide +kernel
theorem d_M_beginCode_171 : decode m_M_beginCode.2.1 171 = .ok (.bipush 8, 2) := by decide +kernel
theorem d_M_beginCode_173 : decode m_M_beginCode.2.1 173 = .ok (.iconst 0, 1) := by decide +kernel
theorem d_M_beginCode_174 : decode m_M_beginCode.2.1 174 = .ok (.iload_n 2, 1) := by decide +kernel
theorem d_M_beginCode_175 : decode m_M_beginCode.2.1 175 = .ok (.invokevirtual 211, 3) := by decide +kernel
theorem d_M_beginCode_178 : decode m_M_beginCode.2.1 178 = .ok (.iload_n 3, 1) := by decide +kernel
theorem d_M_beginCode_179 : decode m_M_beginCode.2.1 179 = .ok (.invokevirtual 218, 3) := by decide +kernel
theorem d_M_beginCode_182 : decode m_M_beginCode.2.1 182 = .ok (.aload_n 0, 1) := by decide +kernel
theorem d_M_beginCode_183 : decode m_M_beginCode.2.1 183 = .ok (.sipush 210, 3) := by decide +kernel
theorem d_M_beginCode_186 : decode m_M_beginCode.2.1 186 = .ok (.iload_n 3, 1) := by decide +kernel
theorem d_M_beginCode_187 : decode m_M_beginCode.2.1 187 = .ok (.iconst 1, 1) := by decide +kernel
theorem d_M_beginCode_188 : decode m_M_beginCode.2.1 188 = .ok (.iadd, 1) := by decide +kernel
theorem d_M_beginCode_189 : decode m_M_beginCode.2.1 189 = .ok (.iconst 0, 1) := by decide +kernel
theorem d_M_beginCode_190 : decode m_M_beginCode.2.1 190 = .ok (.invokevirtual 218, 3) := by decide +kernel
theorem d_M_beginCode_193 : decode m_M_beginCode.2.1 193 = .ok (.iconst 1, 1) := by decide +kernel
theorem d_M_beginCode_194 : decode m_M_beginCode.2.1 194 = .ok (.ireturn, 1) := by decide +kernel
theorem d_M_beginCode_195 : decode m_M_beginCode.2.1 195 = .ok (.iload_n 1, 1) := by decide +kernel
theorem d_M_beginCode_196 : decode m_M_beginCode.2.1 196 = .ok (.bipush 91, 2) := by decide +kernel
theorem d_M_beginCode_198 : decode m_M_beginCode.2.1 198 = .ok (.if_icmp .eq 5, 3) := by decide +kernel
theorem d_M_beginCode_201 : decode m_M_beginCode.2.1 201 = .ok (.iconst 0, 1) := by decide +kernel
theorem d_M_beginCode_202 : decode m_M_beginCode.2.1 202 = .ok (.ireturn, 1) := by decide +kernel
theorem d_M_beginCode_203 : decode m_M_beginCode.2.1 203 = .ok (.aload_n 0, 1) := by decide +kernel
theorem d_M_beginCode_204 : decode m_M_beginCode.2.1 204 = .ok (.bipush 9, 2) := by decide +kernel
theorem d_M_beginCode_206 : decode m_M_beginCode.2.1 206 = .ok (.iconst 0, 1) := by decide +kernel
theorem d_M_beginCode_207 : decode m_M_beginCode.2.1 207 = .ok (.iload_n 2, 1) := by decide +kernel
theorem d_M_beginCode_208 : decode m_M_beginCode.2.1 208 = .ok (.invokevirtual 211, 3) := by decide +kernel
theorem d_M_beginCode_211 : decode m_M_beginCode.2.1 211 = .ok (.istore 4, 2) := by decide +kernel
theorem d_M_beginCode_213 : decode m_M_beginCode.2.1 213 = .ok (.aload_n 0, 1) := by decide +kernel
theorem d_M_beginCode_214 : decode m_M_beginCode.2.1 214 = .ok (.bipush 93, 2) := by decide +kernel
theorem d_M_beginCode_216 : decode m_M_beginCode.2.1 216 = .ok (.iconst 0, 1) := by decide +kernel
theorem d_M_beginCode_217 : decode m_M_beginCode.2.1 217 = .ok (.iconst 0, 1) := by decide +kernel
theorem d_M_beginCode_218 : decode m_M_beginCode.2.1 218 = .ok (.invokevirtual 218, 3) := by decide +kernel
theorem d_M_beginCode_221 : decode m_M_beginCode.2.1 221 = .ok (.aload_n 0, 1) := by decide +kernel
theorem d_M_beginCode_222 : decode m_M_beginCode.2.1 222 = .ok (.sipush 210, 3) := by decide +kernel
theorem d_M_beginCode_225 : decode m_M_beginCode.2.1 225 = .ok (.iload_n 3, 1) := by decide +kernel
theorem d_M_beginCode_226 : decode m_M_beginCode.2.1 226 = .ok (.iconst 1, 1) := by decide +kernel
theorem d_M_beginCode_227 : decode m_M_beginCode.2.1 227 = .ok (.iadd, 1) := by decide +kernel
theorem d_M_beginCode_228 : decode m_M_beginCode.2.1 228 = .ok (.iconst 0, 1) := by decide +kernel
theorem d_M_beginCode_229 : decode m_M_beginCode.2.1 229 = .ok (.invokevirtual 218, 3) := by decide +kernel
theorem d_M_beginCode_232 : decode m_M_beginCode.2.1 232 = .ok (.aload_n 0, 1) := by decide +kernel
theorem d_M_beginCode_233 : decode m_M_beginCode.2.1 233 = .ok (.bipush 58, 2) := by decide +kernel
theorem d_M_beginCode_235 : decode m_M_beginCode.2.1 235 = .ok (.iconst 0, 1) := by decide +kernel
theorem d_M_beginCode_236 : decode m_M_beginCode.2.1 236 = .ok (.iconst 0, 1) := by decide +kernel
theorem d_M_beginCode_237 : decode m_M_beginCode.2.1 237 = .ok (.invokevirtual 218, 3) := by decide +kernel
theorem d_M_beginCode_240 : decode m_M_beginCode.2.1 240 = .ok (.aload_n 0, 1) := by decide +kernel
theorem d_M_beginCode_241 : decode m_M_beginCode.2.1 241 = .ok (.sipush 210, 3) := by decide +kernel
theorem d_M_beginCode_244 : decode m_M_beginCode.2.1 244 = .ok (.iload_n 3, 1) := by decide +kernel
theorem d_M_beginCode_245 : decode m_M_beginCode.2.1 245 = .ok (.iconst 1, 1) := by decide +kernel
theorem d_M_beginCode_246 : decode m_M_beginCode.2.1 246 = .ok (.iadd, 1) := by decide +kernel
theorem d_M_beginCode_247 : decode m_M_beginCode.2.1 247 = .ok (.iconst 0, 1) := by decide +kernel
theorem d_M_beginCode_248 : decode m_M_beginCode.2.1 248 = .ok (.invokevirtual 218, 3) := by decide +kernel
theorem d_M_beginCode_251 : decode m_M_beginCode.2.1 251 = .ok (.aload_n 0, 1) := by decide +kernel
theorem d_M_beginCode_252 : decode m_M_beginCode.2.1 252 = .ok (.bipush 63, 2) := by decide +kernel
theorem d_M_beginCode_254 : decode m_M_beginCode.2.1 254 = .ok (.iconst 0, 1) := by decide +kernel
theorem d_M_beginCode_255 : decode m_M_beginCode.2.1 255 = .ok (.iconst 0, 1) := by decide +kernel
theorem d_M_beginCode_256 : decode m_M_beginCode.2.1 256 = .ok (.invokevirtual 218, 3) := by decide +kernel
theorem d_M_beginCode_259 : decode m_M_beginCode.2.1 259 = .ok (.aload_n 0, 1) := by decide +kernel
theorem d_M_beginCode_260 : decode m_M_beginCode.2.1 260 = .ok (.sipush 210, 3) := by decide +kernel
theorem d_M_beginCode_263 : decode m_M_beginCode.2.1 263 = .ok (.iload_n 3, 1) := by decide +kernel
theorem d_M_beginCode_264 : decode m_M_beginCode.2.1 264 = .ok (.iconst 1, 1) := by decide +kernel
theorem d_M_beginCode_265 : decode m_M_beginCode.2.1 265 = .ok (.iadd, 1) := by decide +kernel
theorem d_M_beginCode_266 : decode m_M_beginCode.2.1 266 = .ok (.iconst 0, 1) := by decide +kernel
theorem d_M_beginCode_267 : decode m_M_beginCode.2.1 267 = .ok (.invokevirtual 218, 3) := by decide +kernel
theorem d_M_beginCode_270 : decode m_M_beginCode.2.1 270 = .ok (.aload_n 0, 1) := by decide +kernel
theorem d_M_beginCode_271 : decode m_M_beginCode.2.1 271 = .ok (.sipush 217, 3) := by decide +kernel
theorem d_M_beginCode_274 : decode m_M_beginCode.2.1 274 = .ok (.iload 4, 2) := by decide +kernel
theorem d_M_beginCode_276 : decode m_M_beginCode.2.1 276 = .ok (.iconst 0, 1) := by decide +kernel
theorem d_M_beginCode_277 : decode m_M_beginCode.2.1 277 = .ok (.invokevirtual 218, 3) := by decide +kernel
theorem d_M_beginCode_280 : decode m_M_beginCode.2.1 280 = .ok (.aload_n 0, 1) := by decide +kernel
theorem d_M_beginCode_281 : decode m_M_beginCode.2.1 281 = .ok (.sipush 210, 3) := by decide +kernel
theorem d_M_beginCode_284 : decode m_M_beginCode.2.1 284 = .ok (.iload_n 3, 1) := by decide +kernel
theorem d_M_beginCode_285 : decode m_M_beginCode.2.1 285 = .ok (.iconst 1, 1) := by decide +kernel
theorem d_M_beginCode_286 : decode m_M_beginCode.2.1 286 = .ok (.iadd, 1) := by decide +kernel
theorem d_M_beginCode_287 : decode m_M_beginCode.2.1 287 = .ok (.iconst 0, 1) := by decide +kernel
theorem d_M_beginCode_288 : decode m_M_beginCode.2.1 288 = .ok (.invokevirtual 218, 3) := by decide +kernel
theorem d_M_beginCode_291 : decode m_M_beginCode.2.1 291 = .ok (.iconst 1, 1) := by decide +kernel
theorem d_M_beginCode_292 : decode m_M_beginCode.2.1 292 = .ok (.ireturn, 1) := by decide +kernel
theorem d_M_part_0 : decode m_M_part.2.1 0 = .ok (.aload_n 0, 1) := by decide +kernel
theorem d_M_part_1 : decode m_M_part.2.1 1 = .ok (.getfield 61, 3) := by decide +kernel
theorem d_M_part_4 : decode m_M_part.2.1 4 = .ok (.aload_n 0, 1) := by decide +kernel
theorem d_M_part_5 : decode m_M_part.2.1 5 = .ok (.getfield 222, 3) := by decide +kernel
theorem d_M_part_8 : decode m_M_part.2.1 8 = .ok (.iload_n 1, 1) := by decide +kernel
theorem d_M_part_9 : decode m_M_part.2.1 9 = .ok (.iastore, 1) := by decide +kernel
theorem d_M_part_10 : decode m_M_part.2.1 10 = .ok (.aload_n 0, 1) := by decide +kernel
theorem d_M_part_11 : decode m_M_part.2.1 11 = .ok (.getfield 64, 3) := by decide +kernel
theorem d_M_part_14 : decode m_M_part.2.1 14 = .ok (.aload_n 0, 1) := by decide +kernel
theorem d_M_part_15 : decode m_M_part.2.1 15 = .ok (.getfield 222, 3) := by decide +kernel
theorem d_M_part_18 : decode m_M_part.2.1 18 = .ok (.iload_n 2, 1) := by decide +kernel
theorem d_M_part_19 : decode m_M_part.2.1 19 = .ok (.iastore, 1) := by decide +kernel
theorem d_M_part_20 : decode m_M_part.2.1 20 = .ok (.aload_n 0, 1) := by decide +kernel
theorem d_M_part_21 : decode m_M_part.2.1 21 = .ok (.getfield 67, 3) := by decide +kernel
theorem d_M_part_24 : decode m_M_part.2.1 24 = .ok (.aload_n 0, 1) := by decide +kernel
theorem d_M_part_25 : decode m_M_part.2.1 25 = .ok (.getfield 222, 3) := by decide +kernel
theorem d_M_part_28 : decode m_M_part.2.1 28 = .ok (.aload_n 0, 1) := by decide +kernel
theorem d_M_part_29 : decode m_M_part.2.1 29 = .ok (.getfield 194, 3) := by decide +kernel
theorem d_M_part_32 : decode m_M_part.2.1 32 = .ok (.iastore, 1) := by decide +kernel
theorem d_M_part_33 : decode m_M_part.2.1 33 = .ok (.aload_n 0, 1) := by decide +kernel
theorem d_M_part_34 : decode m_M_part.2.1 34 = .ok (.getfield 70, 3) := by decide +kernel
theorem d_M_part_37 : decode m_M_part.2.1 37 = .ok (.aload_n 0, 1) := by decide +kernel
theorem d_M_part_38 : decode m_M_part.2.1 38 = .ok (.getfield 222, 3) := by decide +kernel
theorem d_M_part_41 : decode m_M_part.2.1 41 = .ok (.iload_n 3, 1) := by decide +kernel
theorem d_M_part_42 : decode m_M_part.2.1 42 = .ok (.iastore, 1) := by decide +kernel
theorem d_M_part_43 : decode m_M_part.2.1 43 = .ok (.aload_n 0, 1) := by decide +kernel
theorem d_M_part_44 : decode m_M_part.2.1 44 = .ok (.getfield 73, 3) := by decide +kernel
theorem d_M_part_47 : decode m_M_part.2.1 47 = .ok (.aload_n 0, 1) := by decide +kernel
theorem d_M_part_48 : decode m_M_part.2.1 48 = .ok (.getfield 222, 3) := by decide +kernel
theorem d_M_part_51 : decode m_M_part.2.1 51 = .ok (.iload 4, 2) := by decide +kernel
theorem d_M_part_53 : decode m_M_part.2.1 53 = .ok (.iastore, 1) := by decide +kernel
theorem d_M_part_54 : decode m_M_part.2.1 54 = .ok (.aload_n 0, 1) := by decide +kernel
theorem d_M_part_55 : decode m_M_part.2.1 55 = .ok (.dup, 1) := by decide +kernel
theorem d_M_part_56 : decode m_M_part.2.1 56 = .ok (.getfield 222, 3) := by decide +kernel
theorem d_M_part_59 : decode m_M_part.2.1 59 = .ok (.iconst 1, 1) := by decide +kernel
theorem d_M_part_60 : decode m_M_part.2.1 60 = .ok (.iadd, 1) := by decide +kernel
theorem d_M_part_61 : decode m_M_part.2.1 61 = .ok (.putfield 222, 3) := by decide +kernel
theorem d_M_part_64 : decode m_M_part.2.1 64 = .ok (.aload_n 0, 1) := by decide +kernel
theorem d_M_part_65 : decode m_M_part.2.1 65 = .ok (.getfield 222, 3) := by decide +kernel
theorem d_M_part_68 : decode m_M_part.2.1 68 = .ok (.iconst 1, 1) := by decide +kernel
theorem d_M_part_69 : decode m_M_part.2.1 69 = .ok (.isub, 1) := by decide +kernel
theorem d_M_part_70 : decode m_M_part.2.1 70 = .ok (.ireturn, 1) := by decide +kernel
theorem d_M_beginPart_0 : decode m_M_beginPart.2.1 0 = .ok (.aload_n 0, 1) := by decide +kernel
theorem d_M_beginPart_1 : decode m_M_beginPart.2.1 1 = .ok (.sipush 205, 3) := by decide +kernel
theorem d_M_beginPart_4 : decode m_M_beginPart.2.1 4 = .ok (.iload_n 3, 1) := by decide +kernel
theorem d_M_beginPart_5 : decode m_M_beginPart.2.1 5 = .ok (.iconst 1, 1) := by decide +kernel
theorem d_M_beginPart_6 : decode m_M_beginPart.2.1 6 = .ok (.iadd, 1) := by decide +kernel
theorem d_M_beginPart_7 : decode m_M_beginPart.2.1 7 = .ok (.iconst 0, 1) := by decide +kernel
theorem d_M_beginPart_8 : decode m_M_beginPart.2.1 8 = .ok (.invokevirtual 218, 3) := by decide +kernel
theorem d_M_beginPart_11 : decode m_M_beginPart.2.1 11 = .ok (.iload_n 1, 1) := by decide +kernel
theorem d_M_beginPart_12 : decode m_M_beginPart.2.1 12 = .ok (.invokestatic 204, 3) := by decide +kernel
theorem d_M_beginPart_15 : decode m_M_beginPart.2.1 15 = .ok (.ifCond .eq 34, 3) := by decide +kernel
theorem d_M_beginPart_18 : decode m_M_beginPart.2.1 18 = .ok (.aload_n 0, 1) := by decide +kernel
theorem d_M_beginPart_19 : decode m_M_beginPart.2.1 19 = .ok (.iconst 0, 1) := by decide +kernel
theorem d_M_beginPart_20 : decode m_M_beginPart.2.1 20 = .ok (.iload_n 1, 1) := by decide +kernel
theorem d_M_beginPart_21 : decode m_M_beginPart.2.1 21 = .ok (.bipush 97, 2) := by decide +kernel
theorem d_M_beginPart_23 : decode m_M_beginPart.2.1 23 = .ok (.isub, 1) := by decide +kernel
theorem d_M_beginPart_24 : decode m_M_beginPart.2.1 24 = .ok (.iconst 1, 1) := by decide +kernel
theorem d_M_beginPart_25 : decode m_M_beginPart.2.1 25 = .ok (.iload_n 2, 1) := by decide +kernel
theorem d_M_beginPart_26 : decode m_M_beginPart.2.1 26 = .ok (.invokevirtual 225, 3) := by decide +kernel
theorem d_M_beginPart_29 : decode m_M_beginPart.2.1 29 = .ok (.pop, 1) := by decide +kernel
theorem d_M_beginPart_30 : decode m_M_beginPart.2.1 30 = .ok (.aload_n 0, 1) := by decide +kernel
theorem d_M_beginPart_31 : decode m_M_beginPart.2.1 31 = .ok (.sipush 200, 3) := by decide +kernel
theorem d_M_beginPart_34 : decode m_M_beginPart.2.1 34 = .ok (.iconst 2, 1) := by decide +kernel
theorem d_M_beginPart_35 : decode m_M_beginPart.2.1 35 = .ok (.iconst 0, 1) := by decide +kernel
theorem d_M_beginPart_36 : decode m_M_beginPart.2.1 36 = .ok (.invokevirtual 218, 3) := by decide +kernel
theorem d_M_beginPart_39 : decode m_M_beginPart.2.1 39 = .ok (.aload_n 0, 1) := by decide +kernel
theorem d_M_beginPart_40 : decode m_M_beginPart.2.1 40 = .ok (.bipush 58, 2) := by decide +kernel
theorem d_M_beginPart_42 : decode m_M_beginPart.2.1 42 = .ok (.iconst 0, 1) := by decide +kernel
theorem d_M_beginPart_43 : decode m_M_beginPart.2.1 43 = .ok (.iconst 0, 1) := by decide +kernel
theorem d_M_beginPart_44 : decode m_M_beginPart.2.1 44 = .ok (.invokevirtual 218, 3) := by decide +kernel
theorem d_M_beginPart_47 : decode m_M_beginPart.2.1 47 = .ok (.iconst 1, 1) := by decide +kernel
theorem d_M_beginPart_48 : decode m_M_beginPart.2.1 48 = .ok (.ireturn, 1) := by decide +kernel
theorem d_M_beginPart_49 : decode m_M_beginPart.2.1 49 = .ok (.iload_n 1, 1) := by decide +kernel
theorem d_M_beginPart_50 : decode m_M_beginPart.2.1 50 = .ok (.bipush 35, 2) := by decide +kernel
theorem d_M_beginPart_52 : decode m_M_beginPart.2.1 52 = .ok (.if_icmp .eq 10, 3) := by decide +kernel
theorem d_M_beginPart_55 : decode m_M_beginPart.2.1 55 = .ok (.iload_n 1, 1) := by decide +kernel
theorem d_M_beginPart_56 : decode m_M_beginPart.2.1 56 = .ok (.invokestatic 215, 3) := by decide +kernel
theorem d_M_beginPart_59 : decode m_M_beginPart.2.1 59 = .ok (.ifCond .eq 20, 3) := by decide +kernel
theorem d_M_beginPart_62 : decode m_M_beginPart.2.1 62 = .ok (.aload_n 0, 1) := by decide +kernel
theorem d_M_beginPart_63 : decode m_M_beginPart.2.1 63 = .ok (.iconst 1, 1) := by decide +kernel
theorem d_M_beginPart_64 : decode m_M_beginPart.2.1 64 = .ok (.iconst (-1), 1) := by decide +kernel
theorem d_M_beginPart_65 : decode m_M_beginPart.2.1 65 = .ok (.iconst 1, 1) := by decide +kernel
theorem d_M_beginPart_66 : decode m_M_beginPart.2.1 66 = .ok (.iload_n 2, 1) := by decide +kernel
theorem d_M_beginPart_67 : decode m_M_beginPart.2.1 67 = .ok (.invokevirtual 225, 3) := by decide +kernel
theorem d_M_beginPart_70 : decode m_M_beginPart.2.1 70 = .ok (.pop, 1) := by decide +kernel
theorem d_M_beginPart_71 : decode m_M_beginPart.2.1 71 = .ok (.aload_n 0, 1) := by decide +kernel
theorem d_M_beginPart_72 : decode m_M_beginPart.2.1 72 = .ok (.iload_n 1, 1) := by decide +kernel
theorem d_M_beginPart_73 : decode m_M_beginPart.2.1 73 = .ok (.iload_n 2, 1) := by decide +kernel
theorem d_M_beginPart_74 : decode m_M_beginPart.2.1 74 = .ok (.iconst 2, 1) := by decide +kernel
theorem d_M_beginPart_75 : decode m_M_beginPart.2.1 75 = .ok (.invokevirtual 229, 3) := by decide +kernel
theorem d_M_beginPart_78 : decode m_M_beginPart.2.1 78 = .ok (.ireturn, 1) := by decide +kernel
theorem d_M_beginPart_79 : decode m_M_beginPart.2.1 79 = .ok (.iload_n 1, 1) := by decide +kernel
theorem d_M_beginPart_80 : decode m_M_beginPart.2.1 80 = .ok (.bipush 63, 2) := by decide +kernel
theorem d_M_beginPart_82 : decode m_M_beginPart.2.1 82 = .ok (.if_icmp .eq 5, 3) := by decide +kernel
theorem d_M_beginPart_85 : decode m_M_beginPart.2.1 85 = .ok (.iconst 0, 1) := by decide +kernel
theorem d_M_beginPart_86 : decode m_M_beginPart.2.1 86 = .ok (.ireturn, 1) := by decide +kernel
theorem d_M_beginPart_87 : decode m_M_beginPart.2.1 87 = .ok (.aload_n 0, 1) := by decide +kernel
theorem d_M_beginPart_88 : decode m_M_beginPart.2.1 88 = .ok (.iconst 2, 1) := by decide +kernel
theorem d_M_beginPart_89 : decode m_M_beginPart.2.1 89 = .ok (.iconst (-1), 1) := by decide +kernel
theorem d_M_beginPart_90 : decode m_M_beginPart.2.1 90 = .ok (.iconst 1, 1) := by decide +kernel
theorem d_M_beginPart_91 : decode m_M_beginPart.2.1 91 = .ok (.iload_n 2, 1) := by decide +kernel
theorem d_M_beginPart_92 : decode m_M_beginPart.2.1 92 = .ok (.invokevirtual 225, 3) := by decide +kernel
theorem d_M_beginPart_95 : decode m_M_beginPart.2.1 95 = .ok (.istore 4, 2) := by decide +kernel
theorem d_M_beginPart_97 : decode m_M_beginPart.2.1 97 = .ok (.aload_n 0, 1) := by decide +kernel
theorem d_M_beginPart_98 : decode m_M_beginPart.2.1 98 = .ok (.sipush 200, 3) := by decide +kernel
theorem d_M_beginPart_101 : decode m_M_beginPart.2.1 101 = .ok (.iconst 2, 1) := by decide +kernel
theorem d_M_beginPart_102 : decode m_M_beginPart.2.1 102 = .ok (.iconst 0, 1) := by decide +kernel
theorem d_M_beginPart_103 : decode m_M_beginPart.2.1 103 = .ok (.invokevirtual 218, 3) := by decide +kernel
theorem d_M_beginPart_106 : decode m_M_beginPart.2.1 106 = .ok (.aload_n 0, 1) := by decide +kernel
theorem d_M_beginPart_107 : decode m_M_beginPart.2.1 107 = .ok (.bipush 61, 2) := by decide +kernel
theorem d_M_beginPart_109 : decode m_M_beginPart.2.1 109 = .ok (.iconst 0, 1) := by decide +kernel
theorem d_M_beginPart_110 : decode m_M_beginPart.2.1 110 = .ok (.iconst 0, 1) := by decide +kernel
theorem d_M_beginPart_111 : decode m_M_beginPart.2.1 111 = .ok (.invokevirtual 218, 3) := by decide +kernel
theorem d_M_beginPart_114 : decode m_M_beginPart.2.1 114 = .ok (.aload_n 0, 1) := by decide +kernel
theorem d_M_beginPart_115 : decode m_M_beginPart.2.1 115 = .ok (.sipush 208, 3) := by decide +kernel
theorem d_M_beginPart_118 : decode m_M_beginPart.2.1 118 = .ok (.iload 4, 2) := by decide +kernel
theorem d_M_beginPart_120 : decode m_M_beginPart.2.1 120 = .ok (.iconst 0, 1) := by decide +kernel
theorem d_M_beginPart_121 : decode m_M_beginPart.2.1 121 = .ok (.invokevirtual 218, 3) := by decide +kernel
theorem d_M_beginPart_124 : decode m_M_beginPart.2.1 124 = .ok (.aload_n 0, 1) := by decide +kernel
theorem d_M_beginPart_125 : decode m_M_beginPart.2.1 125 = .ok (.sipush 200, 3) := by decide +kernel
theorem d_M_beginPart_128 : decode m_M_beginPart.2.1 128 = .ok (.iconst 2, 1) := by decide +kernel
theorem d_M_beginPart_129 : decode m_M_beginPart.2.1 129 = .ok (.iconst 0, 1) := by decide +kernel
theorem d_M_beginPart_130 : decode m_M_beginPart.2.1 130 = .ok (.invokevirtual 218, 3) := by decide +kernel
theorem d_M_beginPart_133 : decode m_M_beginPart.2.1 133 = .ok (.aload_n 0, 1) := by decide +kernel
theorem d_M_beginPart_134 : decode m_M_beginPart.2.1 134 = .ok (.bipush 40, 2) := by decide +kernel
theorem d_M_beginPart_136 : decode m_M_beginPart.2.1 136 = .ok (.iconst 0, 1) := by decide +kernel
theorem d_M_beginPart_137 : decode m_M_beginPart.2.1 137 = .ok (.iconst 0, 1) := by decide +kernel
theorem d_M_beginPart_138 : decode m_M_beginPart.2.1 138 = .ok (.invokevirtual 218, 3) := by decide +kernel
theorem d_M_beginPart_141 : decode m_M_beginPart.2.1 141 = .ok (.aload_n 0, 1) := by decide +kernel
theorem d_M_beginPart_142 : decode m_M_beginPart.2.1 142 = .ok (.sipush 207, 3) := by decide +kernel
theorem d_M_beginPart_145 : decode m_M_beginPart.2.1 145 = .ok (.iload 4, 2) := by decide +kernel
theorem d_M_beginPart_147 : decode m_M_beginPart.2.1 147 = .ok (.iconst 0, 1) := by decide +kernel
theorem d_M_beginPart_148 : decode m_M_beginPart.2.1 148 = .ok (.invokevirtual 218, 3) := by decide +kernel
theorem d_M_beginPart_151 : decode m_M_beginPart.2.1 151 = .ok (.iconst 1, 1) := by decide +kernel
theorem d_M_beginPart_152 : decode m_M_beginPart.2.1 152 = .ok (.ireturn, 1) := by decide +kernel
theorem d_M_beginPattern_0 : decode m_M_beginPattern.2.1 0 = .ok (.iload_n 1, 1) := by decide +kernel
theorem d_M_beginPattern_1 : decode m_M_beginPattern.2.1 1 = .ok (.invokestatic 215, 3) := by decide +kernel
theorem d_M_beginPattern_4 : decode m_M_beginPattern.2.1 4 = .ok (.ifCond .eq 24, 3) := by decide +kernel
theorem d_M_beginPattern_7 : decode m_M_beginPattern.2.1 7 = .ok (.aload_n 0, 1) := by decide +kernel
theorem d_M_beginPattern_8 : decode m_M_beginPattern.2.1 8 = .ok (.sipush 215, 3) := by decide +kernel
theorem d_M_beginPattern_11 : decode m_M_beginPattern.2.1 11 = .ok (.aload_n 0, 1) := by decide +kernel
theorem d_M_beginPattern_12 : decode m_M_beginPattern.2.1 12 = .ok (.bipush 13, 2) := by decide +kernel
theorem d_M_beginPattern_14 : decode m_M_beginPattern.2.1 14 = .ok (.iload_n 1, 1) := by decide +kernel
theorem d_M_beginPattern_15 : decode m_M_beginPattern.2.1 15 = .ok (.bipush 65, 2) := by decide +kernel
theorem d_M_beginPattern_17 : decode m_M_beginPattern.2.1 17 = .ok (.isub, 1) := by decide +kernel
theorem d_M_beginPattern_18 : decode m_M_beginPattern.2.1 18 = .ok (.iload_n 2, 1) := by decide +kernel
theorem d_M_beginPattern_19 : decode m_M_beginPattern.2.1 19 = .ok (.invokevirtual 211, 3) := by decide +kernel
theorem d_M_beginPattern_22 : decode m_M_beginPattern.2.1 22 = .ok (.iconst 0, 1) := by decide +kernel
theorem d_M_beginPattern_23 : decode m_M_beginPattern.2.1 23 = .ok (.invokevirtual 218, 3) := by decide +kernel
theorem d_M_beginPattern_26 : decode m_M_beginPattern.2.1 26 = .ok (.iconst 1, 1) := by decide +kernel
theorem d_M_beginPattern_27 : decode m_M_beginPattern.2.1 27 = .ok (.ireturn, 1) := by decide +kernel
theorem d_M_beginPattern_28 : decode m_M_beginPattern.2.1 28 = .ok (.iload_n 1, 1) := by decide +kernel
theorem d_M_beginPattern_29 : decode m_M_beginPattern.2.1 29 = .ok (.bipush 95, 2) := by decide +kernel
theorem d_M_beginPattern_31 : decode m_M_beginPattern.2.1 31 = .ok (.if_icmp .eq 12, 3) := by decide +kernel
theorem d_M_beginPattern_34 : decode m_M_beginPattern.2.1 34 = .ok (.iload_n 1, 1) := by decide +kernel
theorem d_M_beginPattern_35 : decode m_M_beginPattern.2.1 35 = .ok (.invokestatic 208, 3) := by decide +kernel
theorem d_M_beginPattern_38 : decode m_M_beginPattern.2.1 38 = .ok (.ifCond .ne 5, 3) := by decide +kernel
theorem d_M_beginPattern_41 : decode m_M_beginPattern.2.1 41 = .ok (.iconst 0, 1) := by decide +kernel
theorem d_M_beginPattern_42 : decode m_M_beginPattern.2.1 42 = .ok (.ireturn, 1) := by decide +kernel
theorem d_M_beginPattern_43 : decode m_M_beginPattern.2.1 43 = .ok (.aload_n 0, 1) := by decide +kernel
theorem d_M_beginPattern_44 : decode m_M_beginPattern.2.1 44 = .ok (.iload_n 1, 1) := by decide +kernel
theorem d_M_beginPattern_45 : decode m_M_beginPattern.2.1 45 = .ok (.bipush 95, 2) := by decide +kernel
theorem d_M_beginPattern_47 : decode m_M_beginPattern.2.1 47 = .ok (.if_icmp .ne 8, 3) := by decide +kernel
theorem d_M_beginPattern_50 : decode m_M_beginPattern.2.1 50 = .ok (.bipush 11, 2) := by decide +kernel
theorem d_M_beginPattern_52 : decode m_M_beginPattern.2.1 52 = .ok (.goto 5, 3) := by decide +kernel
theorem d_M_beginPattern_55 : decode m_M_beginPattern.2.1 55 = .ok (.bipush 12, 2) := by decide +kernel
theorem d_M_beginPattern_57 : decode m_M_beginPattern.2.1 57 = .ok (.iload_n 1, 1) := by decide +kernel
theorem d_M_beginPattern_58 : decode m_M_beginPattern.2.1 58 = .ok (.bipush 48, 2) := by decide +kernel
theorem d_M_beginPattern_60 : decode m_M_beginPattern.2.1 60 = .ok (.isub, 1) := by decide +kernel
theorem d_M_beginPattern_61 : decode m_M_beginPattern.2.1 61 = .ok (.iload_n 2, 1) := by decide +kernel
theorem d_M_beginPattern_62 : decode m_M_beginPattern.2.1 62 = .ok (.invokevirtual 211, 3) := by decide +kernel
theorem d_M_beginPattern_65 : decode m_M_beginPattern.2.1 65 = .ok (.pop, 1) := by decide +kernel
theorem d_M_beginPattern_66 : decode m_M_beginPattern.2.1 66 = .ok (.iconst 1, 1) := by decide +kernel
theorem d_M_beginPattern_67 : decode m_M_beginPattern.2.1 67 = .ok (.ireturn, 1) := by decide +kernel
theorem d_M_take_0 : decode m_M_take.2.1 0 = .ok (.aload_n 0, 1) := by decide +kernel
theorem d_M_take_1 : decode m_M_take.2.1 1 = .ok (.getfield 191, 3) := by decide +kernel
theorem d_M_take_4 : decode m_M_take.2.1 4 = .ok (.ifCond .le 168, 3) := by decide +kernel
theorem d_M_take_7 : decode m_M_take.2.1 7 = .ok (.aload_n 0, 1) := by decide +kernel
theorem d_M_take_8 : decode m_M_take.2.1 8 = .ok (.dup, 1) := by decide +kernel
theorem d_M_take_9 : decode m_M_take.2.1 9 = .ok (.getfield 191, 3) := by decide +kernel
theorem d_M_take_12 : decode m_M_take.2.1 12 = .ok (.iconst 1, 1) := by decide +kernel
theorem d_M_take_13 : decode m_M_take.2.1 13 = .ok (.isub, 1) := by decide +kernel
theorem d_M_take_14 : decode m_M_take.2.1 14 = .ok (.putfield 191, 3) := by decide +kernel
theorem d_M_take_17 : decode m_M_take.2.1 17 = .ok (.aload_n 0, 1) := by decide +kernel
theorem d_M_take_18 : decode m_M_take.2.1 18 = .ok (.getfield 76, 3) := by decide +kernel
theorem d_M_take_21 : decode m_M_take.2.1 21 = .ok (.aload_n 0, 1) := by decide +kernel
theorem d_M_take_22 : decode m_M_take.2.1 22 = .ok (.getfield 191, 3) := by decide +kernel
theorem d_M_take_25 : decode m_M_take.2.1 25 = .ok (.iaload, 1) := by decide +kernel
theorem d_M_take_26 : decode m_M_take.2.1 26 = .ok (.istore_n 3, 1) := by decide +kernel
theorem d_M_take_27 : decode m_M_take.2.1 27 = .ok (.aload_n 0, 1) := by decide +kernel
theorem d_M_take_28 : decode m_M_take.2.1 28 = .ok (.getfield 79, 3) := by decide +kernel
theorem d_M_take_31 : decode m_M_take.2.1 31 = .ok (.aload_n 0, 1) := by decide +kernel
theorem d_M_take_32 : decode m_M_take.2.1 32 = .ok (.getfield 191, 3) := by decide +kernel
theorem d_M_take_35 : decode m_M_take.2.1 35 = .ok (.iaload, 1) := by decide +kernel
theorem d_M_take_36 : decode m_M_take.2.1 36 = .ok (.istore 4, 2) := by decide +kernel
theorem d_M_take_38 : decode m_M_take.2.1 38 = .ok (.aload_n 0, 1) := by decide +kernel
theorem d_M_take_39 : decode m_M_take.2.1 39 = .ok (.getfield 82, 3) := by decide +kernel
theorem d_M_take_42 : decode m_M_take.2.1 42 = .ok (.aload_n 0, 1) := by decide +kernel
theorem d_M_take_43 : decode m_M_take.2.1 43 = .ok (.getfield 191, 3) := by decide +kernel
theorem d_M_take_46 : decode m_M_take.2.1 46 = .ok (.iaload, 1) := by decide +kernel
theorem d_M_take_47 : decode m_M_take.2.1 47 = .ok (.istore 5, 2) := by decide +kernel
theorem d_M_take_49 : decode m_M_take.2.1 49 = .ok (.iload_n 3, 1) := by decide +kernel
theorem d_M_take_50 : decode m_M_take.2.1 50 = .ok (.sipush 201, 3) := by decide +kernel
theorem d_M_take_53 : decode m_M_take.2.1 53 = .ok (.if_icmp .ne 18, 3) := by decide +kernel
theorem d_M_take_56 : decode m_M_take.2.1 56 = .ok (.iload_n 1, 1) := by decide +kernel
theorem d_M_take_57 : decode m_M_take.2.1 57 = .ok (.bipush 40, 2) := by decide +kernel
theorem d_M_take_59 : decode m_M_take.2.1 59 = .ok (.if_icmp .ne 45, 3) := by decide +kernel
theorem d_M_take_62 : decode m_M_take.2.1 62 = .ok (.iload 5, 2) := by decide +kernel
theorem d_M_take_64 : decode m_M_take.2.1 64 = .ok (.iconst 2, 1) := by decide +kernel
theorem d_M_take_65 : decode m_M_take.2.1 65 = .ok (.idiv, 1) := by decide +kernel
theorem d_M_take_66 : decode m_M_take.2.1 66 = .ok (.bipush 8, 2) := by decide +kernel
theorem d_M_take_68 : decode m_M_take.2.1 68 = .ok (.if_icmp .eq 36, 3) := by decide +kernel
theorem d_M_take_71 : decode m_M_take.2.1 71 = .ok (.iload_n 3, 1) := by decide +kernel
theorem d_M_take_72 : decode m_M_take.2.1 72 = .ok (.sipush 211, 3) := by decide +kernel
theorem d_M_take_75 : decode m_M_take.2.1 75 = .ok (.if_icmp .ne 16, 3) := by decide +kernel
theorem d_M_take_78 : decode m_M_take.2.1 78 = .ok (.iload_n 1, 1) := by decide +kernel
theorem d_M_take_79 : decode m_M_take.2.1 79 = .ok (.bipush 40, 2) := by decide +kernel
theorem d_M_take_81 : decode m_M_take.2.1 81 = .ok (.if_icmp .ne 23, 3) := by decide +kernel
theorem d_M_take_84 : decode m_M_take.2.1 84 = .ok (.iload 5, 2) := by decide +kernel
theorem d_M_take_86 : decode m_M_take.2.1 86 = .ok (.bipush 12, 2) := by decide +kernel
theorem d_M_take_88 : decode m_M_take.2.1 88 = .ok (.if_icmp .eq 16, 3) := by decide +kernel
theorem d_M_take_91 : decode m_M_take.2.1 91 = .ok (.iload_n 3, 1) := by decide +kernel
theorem d_M_take_92 : decode m_M_take.2.1 92 = .ok (.sipush 215, 3) := by decide +kernel
theorem d_M_take_95 : decode m_M_take.2.1 95 = .ok (.if_icmp .ne 13, 3) := by decide +kernel
theorem d_M_take_98 : decode m_M_take.2.1 98 = .ok (.iload_n 1, 1) := by decide +kernel
theorem d_M_take_99 : decode m_M_take.2.1 99 = .ok (.bipush 40, 2) := by decide +kernel
theorem d_M_take_101 : decode m_M_take.2.1 101 = .ok (.if_icmp .eq 7, 3) := by decide +kernel
theorem d_M_take_104 : decode m_M_take.2.1 104 = .ok (.iconst 1, 1) := by decide +kernel
theorem d_M_take_105 : decode m_M_take.2.1 105 = .ok (.goto 4, 3) := by decide +kernel
theorem d_M_take_108 : decode m_M_take.2.1 108 = .ok (.iconst 0, 1) := by decide +kernel
theorem d_M_take_109 : decode m_M_take.2.1 109 = .ok (.istore 6, 2) := by decide +kernel
theorem d_M_take_111 : decode m_M_take.2.1 111 = .ok (.iload 6, 2) := by decide +kernel
theorem d_M_take_113 : decode m_M_take.2.1 113 = .ok (.ifCond .ne 56, 3) := by decide +kernel
theorem d_M_take_116 : decode m_M_take.2.1 116 = .ok (.iload_n 3, 1) := by decide +kernel
theorem d_M_take_117 : decode m_M_take.2.1 117 = .ok (.sipush 200, 3) := by decide +kernel
theorem d_M_take_120 : decode m_M_take.2.1 120 = .ok (.if_icmp .ge 16, 3) := by decide +kernel
theorem d_M_take_123 : decode m_M_take.2.1 123 = .ok (.iload_n 1, 1) := by decide +kernel
theorem d_M_take_124 : decode m_M_take.2.1 124 = .ok (.iload_n 3, 1) := by decide +kernel
theorem d_M_take_125 : decode m_M_take.2.1 125 = .ok (.if_icmp .ne 7, 3) := by decide +kernel
theorem d_M_take_128 : decode m_M_take.2.1 128 = .ok (.iconst 1, 1) := by decide +kernel
theorem d_M_take_129 : decode m_M_take.2.1 129 = .ok (.goto 39, 3) := by decide +kernel
theorem d_M_take_132 : decode m_M_take.2.1 132 = .ok (.iconst 0, 1) := by decide +kernel
theorem d_M_take_133 : decode m_M_take.2.1 133 = .ok (.goto 35, 3) := by decide +kernel
theorem d_M_take_136 : decode m_M_take.2.1 136 = .ok (.iload_n 3, 1) := by decide +kernel
theorem d_M_take_137 : decode m_M_take.2.1 137 = .ok (.sipush 209, 3) := by decide +kernel
theorem d_M_take_140 : decode m_M_take.2.1 140 = .ok (.if_icmp .ge 17, 3) := by decide +kernel
theorem d_M_take_143 : decode m_M_take.2.1 143 = .ok (.aload_n 0, 1) := by decide +kernel
theorem d_M_take_144 : decode m_M_take.2.1 144 = .ok (.iload_n 3, 1) := by decide +kernel
theorem d_M_take_145 : decode m_M_take.2.1 145 = .ok (.iload 4, 2) := by decide +kernel
theorem d_M_take_147 : decode m_M_take.2.1 147 = .ok (.iload 5, 2) := by decide +kernel
theorem d_M_take_149 : decode m_M_take.2.1 149 = .ok (.iload_n 1, 1) := by decide +kernel
theorem d_M_take_150 : decode m_M_take.2.1 150 = .ok (.iload_n 2, 1) := by decide +kernel
theorem d_M_take_151 : decode m_M_take.2.1 151 = .ok (.invokevirtual 233, 3) := by decide +kernel
theorem d_M_take_154 : decode m_M_take.2.1 154 = .ok (.goto 14, 3) := by decide +kernel
theorem d_M_take_157 : decode m_M_take.2.1 157 = .ok (.aload_n 0, 1) := by decide +kernel
theorem d_M_take_158 : decode m_M_take.2.1 158 = .ok (.iload_n 3, 1) := by decide +kernel
theorem d_M_take_159 : decode m_M_take.2.1 159 = .ok (.iload 4, 2) := by decide +kernel
theorem d_M_take_161 : decode m_M_take.2.1 161 = .ok (.iload 5, 2) := by decide +kernel
theorem d_M_take_163 : decode m_M_take.2.1 163 = .ok (.iload_n 1, 1) := by decide +kernel
theorem d_M_take_164 : decode m_M_take.2.1 164 = .ok (.iload_n 2, 1) := by decide +kernel
theorem d_M_take_165 : decode m_M_take.2.1 165 = .ok (.invokevirtual 237, 3) := by decide +kernel
theorem d_M_take_168 : decode m_M_take.2.1 168 = .ok (.ireturn, 1) := by decide +kernel
theorem d_M_take_169 : decode m_M_take.2.1 169 = .ok (.goto (-169), 3) := by decide +kernel
theorem d_M_take_172 : decode m_M_take.2.1 172 = .ok (.iconst 0, 1) := by decide +kernel
theorem d_M_take_173 : decode m_M_take.2.1 173 = .ok (.ireturn, 1) := by decide +kernel
theorem d_M_takeDeclared_0 : decode m_M_takeDeclared.2.1 0 = .ok (.iload_n 1, 1) := by decide +kernel
theorem d_M_takeDeclared_1 : decode m_M_takeDeclared.2.1 1 = .ok (.tableswitch 303 200 207 #[47, 59, 88, 141, 169, 179, 233, 278], 47) := by decide +kernel
theorem d_M_takeDeclared_48 : decode m_M_takeDeclared.2.1 48 = .ok (.aload_n 0, 1) := by decide +kernel
theorem d_M_takeDeclared_49 : decode m_M_takeDeclared.2.1 49 = .ok (.iload 4, 2) := by decide +kernel
theorem d_M_takeDeclared_51 : decode m_M_takeDeclared.2.1 51 = .ok (.iload 5, 2) := by decide +kernel
theorem d_M_takeDeclared_53 : decode m_M_takeDeclared.2.1 53 = .ok (.iload_n 2, 1) := by decide +kernel
theorem d_M_takeDeclared_54 : decode m_M_takeDeclared.2.1 54 = .ok (.iload_n 3, 1) := by decide +kernel
theorem d_M_takeDeclared_55 : decode m_M_takeDeclared.2.1 55 = .ok (.iadd, 1) := by decide +kernel
theorem d_M_takeDeclared_56 : decode m_M_takeDeclared.2.1 56 = .ok (.invokevirtual 229, 3) := by decide +kernel
theorem d_M_takeDeclared_59 : decode m_M_takeDeclared.2.1 59 = .ok (.ireturn, 1) := by decide +kernel
theorem d_M_takeDeclared_60 : decode m_M_takeDeclared.2.1 60 = .ok (.aload_n 0, 1) := by decide +kernel
theorem d_M_takeDeclared_61 : decode m_M_takeDeclared.2.1 61 = .ok (.getfield 52, 3) := by decide +kernel
theorem d_M_takeDeclared_64 : decode m_M_takeDeclared.2.1 64 = .ok (.iload_n 2, 1) := by decide +kernel
theorem d_M_takeDeclared_65 : decode m_M_takeDeclared.2.1 65 = .ok (.iconst 1, 1) := by decide +kernel
theorem d_M_takeDeclared_66 : decode m_M_takeDeclared.2.1 66 = .ok (.iastore, 1) := by decide +kernel
theorem d_M_takeDeclared_67 : decode m_M_takeDeclared.2.1 67 = .ok (.aload_n 0, 1) := by decide +kernel
theorem d_M_takeDeclared_68 : decode m_M_takeDeclared.2.1 68 = .ok (.sipush 202, 3) := by decide +kernel
theorem d_M_takeDeclared_71 : decode m_M_takeDeclared.2.1 71 = .ok (.iload_n 2, 1) := by decide +kernel
theorem d_M_takeDeclared_72 : decode m_M_takeDeclared.2.1 72 = .ok (.iload_n 3, 1) := by decide +kernel
theorem d_M_takeDeclared_73 : decode m_M_takeDeclared.2.1 73 = .ok (.invokevirtual 218, 3) := by decide +kernel
theorem d_M_takeDeclared_76 : decode m_M_takeDeclared.2.1 76 = .ok (.aload_n 0, 1) := by decide +kernel
theorem d_M_takeDeclared_77 : decode m_M_takeDeclared.2.1 77 = .ok (.sipush 200, 3) := by decide +kernel
theorem d_M_takeDeclared_80 : decode m_M_takeDeclared.2.1 80 = .ok (.iload_n 3, 1) := by decide +kernel
theorem d_M_takeDeclared_81 : decode m_M_takeDeclared.2.1 81 = .ok (.iconst 2, 1) := by decide +kernel
theorem d_M_takeDeclared_82 : decode m_M_takeDeclared.2.1 82 = .ok (.iadd, 1) := by decide +kernel
theorem d_M_takeDeclared_83 : decode m_M_takeDeclared.2.1 83 = .ok (.iconst 0, 1) := by decide +kernel
theorem d_M_takeDeclared_84 : decode m_M_takeDeclared.2.1 84 = .ok (.invokevirtual 218, 3) := by decide +kernel
theorem d_M_takeDeclared_87 : decode m_M_takeDeclared.2.1 87 = .ok (.iconst 1, 1) := by decide +kernel
theorem d_M_takeDeclared_88 : decode m_M_takeDeclared.2.1 88 = .ok (.ireturn, 1) := by decide +kernel
theorem d_M_takeDeclared_89 : decode m_M_takeDeclared.2.1 89 = .ok (.iload 4, 2) := by decide +kernel
theorem d_M_takeDeclared_91 : decode m_M_takeDeclared.2.1 91 = .ok (.bipush 41, 2) := by decide +kernel
theorem d_M_takeDeclared_93 : decode m_M_takeDeclared.2.1 93 = .ok (.if_icmp .ne 5, 3) := by decide +kernel
theorem d_M_takeDeclared_96 : decode m_M_takeDeclared.2.1 96 = .ok (.iconst 1, 1) := by decide +kernel
theorem d_M_takeDeclared_97 : decode m_M_takeDeclared.2.1 97 = .ok (.ireturn, 1) := by decide +kernel
theorem d_M_takeDeclared_98 : decode m_M_takeDeclared.2.1 98 = .ok (.aload_n 0, 1) := by decide +kernel
theorem d_M_takeDeclared_99 : decode m_M_takeDeclared.2.1 99 = .ok (.getfield 52, 3) := by decide +kernel
theorem d_M_takeDeclared_102 : decode m_M_takeDeclared.2.1 102 = .ok (.iload_n 2, 1) := by decide +kernel
theorem d_M_takeDeclared_103 : decode m_M_takeDeclared.2.1 103 = .ok (.iaload, 1) := by decide +kernel
theorem d_M_takeDeclared_104 : decode m_M_takeDeclared.2.1 104 = .ok (.bipush 6, 2) := by decide +kernel
theorem d_M_takeDeclared_106 : decode m_M_takeDeclared.2.1 106 = .ok (.if_icmp .ne 5, 3) := by decide +kernel
theorem d_M_takeDeclared_109 : decode m_M_takeDeclared.2.1 109 = .ok (.iconst 0, 1) := by decide +kernel
theorem d_M_takeDeclared_110 : decode m_M_takeDeclared.2.1 110 = .ok (.ireturn, 1) := by decide +kernel
theorem d_M_takeDeclared_111 : decode m_M_takeDeclared.2.1 111 = .ok (.aload_n 0, 1) := by decide +kernel
theorem d_M_takeDeclared_112 : decode m_M_takeDeclared.2.1 112 = .ok (.getfield 52, 3) := by decide +kernel
theorem d_M_takeDeclared_115 : decode m_M_takeDeclared.2.1 115 = .ok (.iload_n 2, 1) := by decide +kernel
theorem d_M_takeDeclared_116 : decode m_M_takeDeclared.2.1 116 = .ok (.dup2, 1) := by decide +kernel
theorem d_M_takeDeclared_117 : decode m_M_takeDeclared.2.1 117 = .ok (.iaload, 1) := by decide +kernel
theorem d_M_takeDeclared_118 : decode m_M_takeDeclared.2.1 118 = .ok (.iconst 1, 1) := by decide +kernel
theorem d_M_takeDeclared_119 : decode m_M_takeDeclared.2.1 119 = .ok (.iadd, 1) := by decide +kernel
theorem d_M_takeDeclared_120 : decode m_M_takeDeclared.2.1 120 = .ok (.iastore, 1) := by decide +kernel
theorem d_M_takeDeclared_121 : decode m_M_takeDeclared.2.1 121 = .ok (.aload_n 0, 1) := by decide +kernel
theorem d_M_takeDeclared_122 : decode m_M_takeDeclared.2.1 122 = .ok (.sipush 202, 3) := by decide +kernel
theorem d_M_takeDeclared_125 : decode m_M_takeDeclared.2.1 125 = .ok (.iload_n 2, 1) := by decide +kernel
theorem d_M_takeDeclared_126 : decode m_M_takeDeclared.2.1 126 = .ok (.iload_n 3, 1) := by decide +kernel
theorem d_M_takeDeclared_127 : decode m_M_takeDeclared.2.1 127 = .ok (.invokevirtual 218, 3) := by decide +kernel
theorem d_M_takeDeclared_130 : decode m_M_takeDeclared.2.1 130 = .ok (.aload_n 0, 1) := by decide +kernel
theorem d_M_takeDeclared_131 : decode m_M_takeDeclared.2.1 131 = .ok (.iload 4, 2) := by decide +kernel
theorem d_M_takeDeclared_133 : decode m_M_takeDeclared.2.1 133 = .ok (.iload 5, 2) := by decide +kernel
theorem d_M_takeDeclared_135 : decode m_M_takeDeclared.2.1 135 = .ok (.iload_n 3, 1) := by decide +kernel
theorem d_M_takeDeclared_136 : decode m_M_takeDeclared.2.1 136 = .ok (.iconst 2, 1) := by decide +kernel
theorem d_M_takeDeclared_137 : decode m_M_takeDeclared.2.1 137 = .ok (.iadd, 1) := by decide +kernel
theorem d_M_takeDeclared_138 : decode m_M_takeDeclared.2.1 138 = .ok (.invokevirtual 229, 3) := by decide +kernel
theorem d_M_takeDeclared_141 : decode m_M_takeDeclared.2.1 141 = .ok (.ireturn, 1) := by decide +kernel
theorem d_M_takeDeclared_142 : decode m_M_takeDeclared.2.1 142 = .ok (.iload 4, 2) := by decide +kernel
theorem d_M_takeDeclared_144 : decode m_M_takeDeclared.2.1 144 = .ok (.bipush 62, 2) := by decide +kernel
theorem d_M_takeDeclared_146 : decode m_M_takeDeclared.2.1 146 = .ok (.if_icmp .ne 14, 3) := by decide +kernel
theorem d_M_takeDeclared_149 : decode m_M_takeDeclared.2.1 149 = .ok (.aload_n 0, 1) := by decide +kernel
theorem d_M_takeDeclared_150 : decode m_M_takeDeclared.2.1 150 = .ok (.sipush 206, 3) := by decide +kernel
theorem d_M_takeDeclared_153 : decode m_M_takeDeclared.2.1 153 = .ok (.iconst 0, 1) := by decide +kernel
theorem d_M_takeDeclared_154 : decode m_M_takeDeclared.2.1 154 = .ok (.iconst 0, 1) := by decide +kernel
theorem d_M_takeDeclared_155 : decode m_M_takeDeclared.2.1 155 = .ok (.invokevirtual 218, 3) := by decide +kernel
theorem d_M_takeDeclared_158 : decode m_M_takeDeclared.2.1 158 = .ok (.iconst 1, 1) := by decide +kernel
theorem d_M_takeDeclared_159 : decode m_M_takeDeclared.2.1 159 = .ok (.ireturn, 1) := by decide +kernel
theorem d_M_takeDeclared_160 : decode m_M_takeDeclared.2.1 160 = .ok (.aload_n 0, 1) := by decide +kernel
theorem d_M_takeDeclared_161 : decode m_M_takeDeclared.2.1 161 = .ok (.iload 4, 2) := by decide +kernel
theorem d_M_takeDeclared_163 : decode m_M_takeDeclared.2.1 163 = .ok (.iload 5, 2) := by decide +kernel
theorem d_M_takeDeclared_165 : decode m_M_takeDeclared.2.1 165 = .ok (.iconst 0, 1) := by decide +kernel
theorem d_M_takeDeclared_166 : decode m_M_takeDeclared.2.1 166 = .ok (.invokevirtual 240, 3) := by decide +kernel
theorem d_M_takeDeclared_169 : decode m_M_takeDeclared.2.1 169 = .ok (.ireturn, 1) := by decide +kernel
theorem d_M_takeDeclared_170 : decode m_M_takeDeclared.2.1 170 = .ok (.aload_n 0, 1) := by decide +kernel
theorem d_M_takeDeclared_171 : decode m_M_takeDeclared.2.1 171 = .ok (.iload 4, 2) := by decide +kernel
theorem d_M_takeDeclared_173 : decode m_M_takeDeclared.2.1 173 = .ok (.iload 5, 2) := by decide +kernel
theorem d_M_takeDeclared_175 : decode m_M_takeDeclared.2.1 175 = .ok (.iload_n 2, 1) := by decide +kernel
theorem d_M_takeDeclared_176 : decode m_M_takeDeclared.2.1 176 = .ok (.invokevirtual 240, 3) := by decide +kernel
theorem d_M_takeDeclared_179 : decode m_M_takeDeclared.2.1 179 = .ok (.ireturn, 1) := by decide +kernel
theorem d_M_takeDeclared_180 : decode m_M_takeDeclared.2.1 180 = .ok (.iload 4, 2) := by decide +kernel
theorem d_M_takeDeclared_182 : decode m_M_takeDeclared.2.1 182 = .ok (.bipush 62, 2) := by decide +kernel
theorem d_M_takeDeclared_184 : decode m_M_takeDeclared.2.1 184 = .ok (.if_icmp .ne 15, 3) := by decide +kernel
theorem d_M_takeDeclared_187 : decode m_M_takeDeclared.2.1 187 = .ok (.aload_n 0, 1) := by decide +kernel
theorem d_M_takeDeclared_188 : decode m_M_takeDeclared.2.1 188 = .ok (.sipush 206, 3) := by decide +kernel
theorem d_M_takeDeclared_191 : decode m_M_takeDeclared.2.1 191 = .ok (.iconst 0, 1) := by decide +kernel
theorem d_M_takeDeclared_192 : decode m_M_takeDeclared.2.1 192 = .ok (.iconst 0, 1) := by decide +kernel
theorem d_M_takeDeclared_193 : decode m_M_takeDeclared.2.1 193 = .ok (.invokevirtual 218, 3) := by decide +kernel
theorem d_M_takeDeclared_196 : decode m_M_takeDeclared.2.1 196 = .ok (.goto 12, 3) := by decide +kernel
theorem d_M_takeDeclared_199 : decode m_M_takeDeclared.2.1 199 = .ok (.aload_n 0, 1) := by decide +kernel
theorem d_M_takeDeclared_200 : decode m_M_takeDeclared.2.1 200 = .ok (.sipush 204, 3) := by decide +kernel
theorem d_M_takeDeclared_203 : decode m_M_takeDeclared.2.1 203 = .ok (.iload_n 2, 1) := by decide +kernel
theorem d_M_takeDeclared_204 : decode m_M_takeDeclared.2.1 204 = .ok (.iconst 0, 1) := by decide +kernel
theorem d_M_takeDeclared_205 : decode m_M_takeDeclared.2.1 205 = .ok (.invokevirtual 218, 3) := by decide +kernel
theorem d_M_takeDeclared_208 : decode m_M_takeDeclared.2.1 208 = .ok (.iload 4, 2) := by decide +kernel
theorem d_M_takeDeclared_210 : decode m_M_takeDeclared.2.1 210 = .ok (.bipush 62, 2) := by decide +kernel
theorem d_M_takeDeclared_212 : decode m_M_takeDeclared.2.1 212 = .ok (.if_icmp .eq 16, 3) := by decide +kernel
theorem d_M_takeDeclared_215 : decode m_M_takeDeclared.2.1 215 = .ok (.iload 4, 2) := by decide +kernel
theorem d_M_takeDeclared_217 : decode m_M_takeDeclared.2.1 217 = .ok (.bipush 44, 2) := by decide +kernel
theorem d_M_takeDeclared_219 : decode m_M_takeDeclared.2.1 219 = .ok (.if_icmp .ne 13, 3) := by decide +kernel
theorem d_M_takeDeclared_222 : decode m_M_takeDeclared.2.1 222 = .ok (.iload_n 2, 1) := by decide +kernel
theorem d_M_takeDeclared_223 : decode m_M_takeDeclared.2.1 223 = .ok (.bipush 6, 2) := by decide +kernel
theorem d_M_takeDeclared_225 : decode m_M_takeDeclared.2.1 225 = .ok (.if_icmp .ge 7, 3) := by decide +kernel
theorem d_M_takeDeclared_228 : decode m_M_takeDeclared.2.1 228 = .ok (.iconst 1, 1) := by decide +kernel
theorem d_M_takeDeclared_229 : decode m_M_takeDeclared.2.1 229 = .ok (.goto 4, 3) := by decide +kernel
theorem d_M_takeDeclared_232 : decode m_M_takeDeclared.2.1 232 = .ok (.iconst 0, 1) := by decide +kernel
theorem d_M_takeDeclared_233 : decode m_M_takeDeclared.2.1 233 = .ok (.ireturn, 1) := by decide +kernel
theorem d_M_takeDeclared_234 : decode m_M_takeDeclared.2.1 234 = .ok (.aload_n 0, 1) := by decide +kernel
theorem d_M_takeDeclared_235 : decode m_M_takeDeclared.2.1 235 = .ok (.iload 4, 2) := by decide +kernel
theorem d_M_takeDeclared_237 : decode m_M_takeDeclared.2.1 237 = .ok (.bipush 42, 2) := by decide +kernel
theorem d_M_takeDeclared_239 : decode m_M_takeDeclared.2.1 239 = .ok (.if_icmp .ne 8, 3) := by decide +kernel
theorem d_M_takeDeclared_242 : decode m_M_takeDeclared.2.1 242 = .ok (.bipush (-2), 2) := by decide +kernel
theorem d_M_takeDeclared_244 : decode m_M_takeDeclared.2.1 244 = .ok (.goto 7, 3) := by decide +kernel
theorem d_M_takeDeclared_247 : decode m_M_takeDeclared.2.1 247 = .ok (.aload_n 0, 1) := by decide +kernel
theorem d_M_takeDeclared_248 : decode m_M_takeDeclared.2.1 248 = .ok (.getfield 194, 3) := by decide +kernel
theorem d_M_takeDeclared_251 : decode m_M_takeDeclared.2.1 251 = .ok (.putfield 243, 3) := by decide +kernel
theorem d_M_takeDeclared_254 : decode m_M_takeDeclared.2.1 254 = .ok (.iload 4, 2) := by decide +kernel
theorem d_M_takeDeclared_256 : decode m_M_takeDeclared.2.1 256 = .ok (.bipush 42, 2) := by decide +kernel
theorem d_M_takeDeclared_258 : decode m_M_takeDeclared.2.1 258 = .ok (.if_icmp .eq 15, 3) := by decide +kernel
theorem d_M_takeDeclared_261 : decode m_M_takeDeclared.2.1 261 = .ok (.aload_n 0, 1) := by decide +kernel
theorem d_M_takeDeclared_262 : decode m_M_takeDeclared.2.1 262 = .ok (.iload 4, 2) := by decide +kernel
theorem d_M_takeDeclared_264 : decode m_M_takeDeclared.2.1 264 = .ok (.iload 5, 2) := by decide +kernel
theorem d_M_takeDeclared_266 : decode m_M_takeDeclared.2.1 266 = .ok (.iconst 2, 1) := by decide +kernel
theorem d_M_takeDeclared_267 : decode m_M_takeDeclared.2.1 267 = .ok (.invokevirtual 229, 3) := by decide +kernel
theorem d_M_takeDeclared_270 : decode m_M_takeDeclared.2.1 270 = .ok (.ifCond .eq 7, 3) := by decide +kernel
theorem d_M_takeDeclared_273 : decode m_M_takeDeclared.2.1 273 = .ok (.iconst 1, 1) := by decide +kernel
theorem d_M_takeDeclared_274 : decode m_M_takeDeclared.2.1 274 = .ok (.goto 4, 3) := by decide +kernel
theorem d_M_takeDeclared_277 : decode m_M_takeDeclared.2.1 277 = .ok (.iconst 0, 1) := by decide +kernel
theorem d_M_takeDeclared_278 : decode m_M_takeDeclared.2.1 278 = .ok (.ireturn, 1) := by decide +kernel
theorem d_M_takeDeclared_279 : decode m_M_takeDeclared.2.1 279 = .ok (.aload_n 0, 1) := by decide +kernel
theorem d_M_takeDeclared_280 : decode m_M_takeDeclared.2.1 280 = .ok (.getfield 64, 3) := by decide +kernel
theorem d_M_takeDeclared_283 : decode m_M_takeDeclared.2.1 283 = .ok (.iload_n 2, 1) := by decide +kernel
theorem d_M_takeDeclared_284 : decode m_M_takeDeclared.2.1 284 = .ok (.iload 4, 2) := by decide +kernel
theorem d_M_takeDeclared_286 : decode m_M_takeDeclared.2.1 286 = .ok (.bipush 65, 2) := by decide +kernel
theorem d_M_takeDeclared_288 : decode m_M_takeDeclared.2.1 288 = .ok (.isub, 1) := by decide +kernel
theorem d_M_takeDeclared_289 : decode m_M_takeDeclared.2.1 289 = .ok (.iastore, 1) := by decide +kernel
theorem d_M_takeDeclared_290 : decode m_M_takeDeclared.2.1 290 = .ok (.aload_n 0, 1) := by decide +kernel
theorem d_M_takeDeclared_291 : decode m_M_takeDeclared.2.1 291 = .ok (.getfield 73, 3) := by decide +kernel
theorem d_M_takeDeclared_294 : decode m_M_takeDeclared.2.1 294 = .ok (.iload_n 2, 1) := by decide +kernel
theorem d_M_takeDeclared_295 : decode m_M_takeDeclared.2.1 295 = .ok (.iload 5, 2) := by decide +kernel
theorem d_M_takeDeclared_297 : decode m_M_takeDeclared.2.1 297 = .ok (.iastore, 1) := by decide +kernel
theorem d_M_takeDeclared_298 : decode m_M_takeDeclared.2.1 298 = .ok (.iload 4, 2) := by decide +kernel
theorem d_M_takeDeclared_300 : decode m_M_takeDeclared.2.1 300 = .ok (.invokestatic 215, 3) := by decide +kernel
theorem d_M_takeDeclared_303 : decode m_M_takeDeclared.2.1 303 = .ok (.ireturn, 1) := by decide +kernel
theorem d_M_takeDeclared_304 : decode m_M_takeDeclared.2.1 304 = .ok (.iload 4, 2) := by decide +kernel
theorem d_M_takeDeclared_306 : decode m_M_takeDeclared.2.1 306 = .ok (.bipush 41, 2) := by decide +kernel
theorem d_M_takeDeclared_308 : decode m_M_takeDeclared.2.1 308 = .ok (.if_icmp .ne 5, 3) := by decide +kernel
theorem d_M_takeDeclared_311 : decode m_M_takeDeclared.2.1 311 = .ok (.iconst 1, 1) := by decide +kernel
theorem d_M_takeDeclared_312 : decode m_M_takeDeclared.2.1 312 = .ok (.ireturn, 1) := by decide +kernel
theorem d_M_takeDeclared_313 : decode m_M_takeDeclared.2.1 313 = .ok (.aload_n 0, 1) := by decide +kernel
theorem d_M_takeDeclared_314 : decode m_M_takeDeclared.2.1 314 = .ok (.getfield 70, 3) := by decide +kernel
theorem d_M_takeDeclared_317 : decode m_M_takeDeclared.2.1 317 = .ok (.iload_n 2, 1) := by decide +kernel
theorem d_M_takeDeclared_318 : decode m_M_takeDeclared.2.1 318 = .ok (.iaload, 1) := by decide +kernel
theorem d_M_takeDeclared_319 : decode m_M_takeDeclared.2.1 319 = .ok (.bipush 6, 2) := by decide +kernel
theorem d_M_takeDeclared_321 : decode m_M_takeDeclared.2.1 321 = .ok (.if_icmp .ne 5, 3) := by decide +kernel
theorem d_M_takeDeclared_324 : decode m_M_takeDeclared.2.1 324 = .ok (.iconst 0, 1) := by decide +kernel
theorem d_M_takeDeclared_325 : decode m_M_takeDeclared.2.1 325 = .ok (.ireturn, 1) := by decide +kernel
theorem d_M_takeDeclared_326 : decode m_M_takeDeclared.2.1 326 = .ok (.aload_n 0, 1) := by decide +kernel
theorem d_M_takeDeclared_327 : decode m_M_takeDeclared.2.1 327 = .ok (.getfield 70, 3) := by decide +kernel
theorem d_M_takeDeclared_330 : decode m_M_takeDeclared.2.1 330 = .ok (.iload_n 2, 1) := by decide +kernel
theorem d_M_takeDeclared_331 : decode m_M_takeDeclared.2.1 331 = .ok (.dup2, 1) := by decide +kernel
theorem d_M_takeDeclared_332 : decode m_M_takeDeclared.2.1 332 = .ok (.iaload, 1) := by decide +kernel
theorem d_M_takeDeclared_333 : decode m_M_takeDeclared.2.1 333 = .ok (.iconst 1, 1) := by decide +kernel
theorem d_M_takeDeclared_334 : decode m_M_takeDeclared.2.1 334 = .ok (.iadd, 1) := by decide +kernel
theorem d_M_takeDeclared_335 : decode m_M_takeDeclared.2.1 335 = .ok (.iastore, 1) := by decide +kernel
theorem d_M_takeDeclared_336 : decode m_M_takeDeclared.2.1 336 = .ok (.aload_n 0, 1) := by decide +kernel
theorem d_M_takeDeclared_337 : decode m_M_takeDeclared.2.1 337 = .ok (.sipush 208, 3) := by decide +kernel
theorem d_M_takeDeclared_340 : decode m_M_takeDeclared.2.1 340 = .ok (.iload_n 2, 1) := by decide +kernel
theorem d_M_takeDeclared_341 : decode m_M_takeDeclared.2.1 341 = .ok (.iconst 0, 1) := by decide +kernel
theorem d_M_takeDeclared_342 : decode m_M_takeDeclared.2.1 342 = .ok (.invokevirtual 218, 3) := by decide +kernel
theorem d_M_takeDeclared_345 : decode m_M_takeDeclared.2.1 345 = .ok (.aload_n 0, 1) := by decide +kernel
theorem d_M_takeDeclared_346 : decode m_M_takeDeclared.2.1 346 = .ok (.iload 4, 2) := by decide +kernel
theorem d_M_takeDeclared_348 : decode m_M_takeDeclared.2.1 348 = .ok (.iload 5, 2) := by decide +kernel
theorem d_M_takeDeclared_350 : decode m_M_takeDeclared.2.1 350 = .ok (.iconst 2, 1) := by decide +kernel
theorem d_M_takeDeclared_351 : decode m_M_takeDeclared.2.1 351 = .ok (.invokevirtual 229, 3) := by decide +kernel
theorem d_M_takeDeclared_354 : decode m_M_takeDeclared.2.1 354 = .ok (.ireturn, 1) := by decide +kernel
theorem d_M_takeCoded_0 : decode m_M_takeCoded.2.1 0 = .ok (.iload_n 1, 1) := by decide +kernel
theorem d_M_takeCoded_1 : decode m_M_takeCoded.2.1 1 = .ok (.tableswitch 427 209 217 #[51, 119, 129, 158, 211, 301, 310, 321, 399], 51) := by decide +kernel
theorem d_M_takeCoded_52 : decode m_M_takeCoded.2.1 52 = .ok (.iload 4, 2) := by decide +kernel
theorem d_M_takeCoded_54 : decode m_M_takeCoded.2.1 54 = .ok (.bipush 61, 2) := by decide +kernel
theorem d_M_takeCoded_56 : decode m_M_takeCoded.2.1 56 = .ok (.if_icmp .ne 18, 3) := by decide +kernel
theorem d_M_takeCoded_59 : decode m_M_takeCoded.2.1 59 = .ok (.iload_n 2, 1) := by decide +kernel
theorem d_M_takeCoded_60 : decode m_M_takeCoded.2.1 60 = .ok (.ifCond .le 14, 3) := by decide +kernel
theorem d_M_takeCoded_63 : decode m_M_takeCoded.2.1 63 = .ok (.aload_n 0, 1) := by decide +kernel
theorem d_M_takeCoded_64 : decode m_M_takeCoded.2.1 64 = .ok (.sipush 210, 3) := by decide +kernel
theorem d_M_takeCoded_67 : decode m_M_takeCoded.2.1 67 = .ok (.iconst 1, 1) := by decide +kernel
theorem d_M_takeCoded_68 : decode m_M_takeCoded.2.1 68 = .ok (.iconst 0, 1) := by decide +kernel
theorem d_M_takeCoded_69 : decode m_M_takeCoded.2.1 69 = .ok (.invokevirtual 218, 3) := by decide +kernel
theorem d_M_takeCoded_72 : decode m_M_takeCoded.2.1 72 = .ok (.iconst 1, 1) := by decide +kernel
theorem d_M_takeCoded_73 : decode m_M_takeCoded.2.1 73 = .ok (.ireturn, 1) := by decide +kernel
theorem d_M_takeCoded_74 : decode m_M_takeCoded.2.1 74 = .ok (.iload 4, 2) := by decide +kernel
theorem d_M_takeCoded_76 : decode m_M_takeCoded.2.1 76 = .ok (.invokestatic 204, 3) := by decide +kernel
theorem d_M_takeCoded_79 : decode m_M_takeCoded.2.1 79 = .ok (.ifCond .eq 8, 3) := by decide +kernel
theorem d_M_takeCoded_82 : decode m_M_takeCoded.2.1 82 = .ok (.iload_n 2, 1) := by decide +kernel
theorem d_M_takeCoded_83 : decode m_M_takeCoded.2.1 83 = .ok (.iconst 4, 1) := by decide +kernel
theorem d_M_takeCoded_84 : decode m_M_takeCoded.2.1 84 = .ok (.if_icmp .ne 5, 3) := by decide +kernel
theorem d_M_takeCoded_87 : decode m_M_takeCoded.2.1 87 = .ok (.iconst 0, 1) := by decide +kernel
theorem d_M_takeCoded_88 : decode m_M_takeCoded.2.1 88 = .ok (.ireturn, 1) := by decide +kernel
theorem d_M_takeCoded_89 : decode m_M_takeCoded.2.1 89 = .ok (.aload_n 0, 1) := by decide +kernel
theorem d_M_takeCoded_90 : decode m_M_takeCoded.2.1 90 = .ok (.getfield 142, 3) := by decide +kernel
theorem d_M_takeCoded_93 : decode m_M_takeCoded.2.1 93 = .ok (.iload_n 2, 1) := by decide +kernel
theorem d_M_takeCoded_94 : decode m_M_takeCoded.2.1 94 = .ok (.iload 4, 2) := by decide +kernel
theorem d_M_takeCoded_96 : decode m_M_takeCoded.2.1 96 = .ok (.bipush 97, 2) := by decide +kernel
theorem d_M_takeCoded_98 : decode m_M_takeCoded.2.1 98 = .ok (.isub, 1) := by decide +kernel
theorem d_M_takeCoded_99 : decode m_M_takeCoded.2.1 99 = .ok (.iastore, 1) := by decide +kernel
theorem d_M_takeCoded_100 : decode m_M_takeCoded.2.1 100 = .ok (.aload_n 0, 1) := by decide +kernel
theorem d_M_takeCoded_101 : decode m_M_takeCoded.2.1 101 = .ok (.iload_n 2, 1) := by decide +kernel
theorem d_M_takeCoded_102 : decode m_M_takeCoded.2.1 102 = .ok (.iconst 1, 1) := by decide +kernel
theorem d_M_takeCoded_103 : decode m_M_takeCoded.2.1 103 = .ok (.iadd, 1) := by decide +kernel
theorem d_M_takeCoded_104 : decode m_M_takeCoded.2.1 104 = .ok (.putfield 243, 3) := by decide +kernel
theorem d_M_takeCoded_107 : decode m_M_takeCoded.2.1 107 = .ok (.aload_n 0, 1) := by decide +kernel
theorem d_M_takeCoded_108 : decode m_M_takeCoded.2.1 108 = .ok (.sipush 209, 3) := by decide +kernel
theorem d_M_takeCoded_111 : decode m_M_takeCoded.2.1 111 = .ok (.iload_n 2, 1) := by decide +kernel
theorem d_M_takeCoded_112 : decode m_M_takeCoded.2.1 112 = .ok (.iconst 1, 1) := by decide +kernel
theorem d_M_takeCoded_113 : decode m_M_takeCoded.2.1 113 = .ok (.iadd, 1) := by decide +kernel
theorem d_M_takeCoded_114 : decode m_M_takeCoded.2.1 114 = .ok (.iconst 0, 1) := by decide +kernel
theorem d_M_takeCoded_115 : decode m_M_takeCoded.2.1 115 = .ok (.invokevirtual 218, 3) := by decide +kernel
theorem d_M_takeCoded_118 : decode m_M_takeCoded.2.1 118 = .ok (.iconst 1, 1) := by decide +kernel
theorem d_M_takeCoded_119 : decode m_M_takeCoded.2.1 119 = .ok (.ireturn, 1) := by decide +kernel
theorem d_M_takeCoded_120 : decode m_M_takeCoded.2.1 120 = .ok (.aload_n 0, 1) := by decide +kernel
theorem d_M_takeCoded_121 : decode m_M_takeCoded.2.1 121 = .ok (.iload 4, 2) := by decide +kernel
theorem d_M_takeCoded_123 : decode m_M_takeCoded.2.1 123 = .ok (.iload 5, 2) := by decide +kernel
theorem d_M_takeCoded_125 : decode m_M_takeCoded.2.1 125 = .ok (.iload_n 2, 1) := by decide +kernel
theorem d_M_takeCoded_126 : decode m_M_takeCoded.2.1 126 = .ok (.invokevirtual 246, 3) := by decide +kernel
theorem d_M_takeCoded_129 : decode m_M_takeCoded.2.1 129 = .ok (.ireturn, 1) := by decide +kernel
theorem d_M_takeCoded_130 : decode m_M_takeCoded.2.1 130 = .ok (.aload_n 0, 1) := by decide +kernel
theorem d_M_takeCoded_131 : decode m_M_takeCoded.2.1 131 = .ok (.getfield 52, 3) := by decide +kernel
theorem d_M_takeCoded_134 : decode m_M_takeCoded.2.1 134 = .ok (.iload_n 2, 1) := by decide +kernel
theorem d_M_takeCoded_135 : decode m_M_takeCoded.2.1 135 = .ok (.iconst 1, 1) := by decide +kernel
theorem d_M_takeCoded_136 : decode m_M_takeCoded.2.1 136 = .ok (.iastore, 1) := by decide +kernel
theorem d_M_takeCoded_137 : decode m_M_takeCoded.2.1 137 = .ok (.aload_n 0, 1) := by decide +kernel
theorem d_M_takeCoded_138 : decode m_M_takeCoded.2.1 138 = .ok (.sipush 212, 3) := by decide +kernel
theorem d_M_takeCoded_141 : decode m_M_takeCoded.2.1 141 = .ok (.iload_n 2, 1) := by decide +kernel
theorem d_M_takeCoded_142 : decode m_M_takeCoded.2.1 142 = .ok (.iload_n 3, 1) := by decide +kernel
theorem d_M_takeCoded_143 : decode m_M_takeCoded.2.1 143 = .ok (.invokevirtual 218, 3) := by decide +kernel
theorem d_M_takeCoded_146 : decode m_M_takeCoded.2.1 146 = .ok (.aload_n 0, 1) := by decide +kernel
theorem d_M_takeCoded_147 : decode m_M_takeCoded.2.1 147 = .ok (.sipush 210, 3) := by decide +kernel
theorem d_M_takeCoded_150 : decode m_M_takeCoded.2.1 150 = .ok (.iload_n 3, 1) := by decide +kernel
theorem d_M_takeCoded_151 : decode m_M_takeCoded.2.1 151 = .ok (.iconst 1, 1) := by decide +kernel
theorem d_M_takeCoded_152 : decode m_M_takeCoded.2.1 152 = .ok (.iadd, 1) := by decide +kernel
theorem d_M_takeCoded_153 : decode m_M_takeCoded.2.1 153 = .ok (.iconst 0, 1) := by decide +kernel
theorem d_M_takeCoded_154 : decode m_M_takeCoded.2.1 154 = .ok (.invokevirtual 218, 3) := by decide +kernel
theorem d_M_takeCoded_157 : decode m_M_takeCoded.2.1 157 = .ok (.iconst 1, 1) := by decide +kernel
theorem d_M_takeCoded_158 : decode m_M_takeCoded.2.1 158 = .ok (.ireturn, 1) := by decide +kernel
theorem d_M_takeCoded_159 : decode m_M_takeCoded.2.1 159 = .ok (.iload 4, 2) := by decide +kernel
theorem d_M_takeCoded_161 : decode m_M_takeCoded.2.1 161 = .ok (.bipush 41, 2) := by decide +kernel
theorem d_M_takeCoded_163 : decode m_M_takeCoded.2.1 163 = .ok (.if_icmp .ne 5, 3) := by decide +kernel
theorem d_M_takeCoded_166 : decode m_M_takeCoded.2.1 166 = .ok (.iconst 1, 1) := by decide +kernel
theorem d_M_takeCoded_167 : decode m_M_takeCoded.2.1 167 = .ok (.ireturn, 1) := by decide +kernel
theorem d_M_takeCoded_168 : decode m_M_takeCoded.2.1 168 = .ok (.aload_n 0, 1) := by decide +kernel
theorem d_M_takeCoded_169 : decode m_M_takeCoded.2.1 169 = .ok (.getfield 52, 3) := by decide +kernel
theorem d_M_takeCoded_172 : decode m_M_takeCoded.2.1 172 = .ok (.iload_n 2, 1) := by decide +kernel
theorem d_M_takeCoded_173 : decode m_M_takeCoded.2.1 173 = .ok (.iaload, 1) := by decide +kernel
theorem d_M_takeCoded_174 : decode m_M_takeCoded.2.1 174 = .ok (.bipush 6, 2) := by decide +kernel
theorem d_M_takeCoded_176 : decode m_M_takeCoded.2.1 176 = .ok (.if_icmp .ne 5, 3) := by decide +kernel
theorem d_M_takeCoded_179 : decode m_M_takeCoded.2.1 179 = .ok (.iconst 0, 1) := by decide +kernel
theorem d_M_takeCoded_180 : decode m_M_takeCoded.2.1 180 = .ok (.ireturn, 1) := by decide +kernel
theorem d_M_takeCoded_181 : decode m_M_takeCoded.2.1 181 = .ok (.aload_n 0, 1) := by decide +kernel
theorem d_M_takeCoded_182 : decode m_M_takeCoded.2.1 182 = .ok (.getfield 52, 3) := by decide +kernel
theorem d_M_takeCoded_185 : decode m_M_takeCoded.2.1 185 = .ok (.iload_n 2, 1) := by decide +kernel
theorem d_M_takeCoded_186 : decode m_M_takeCoded.2.1 186 = .ok (.dup2, 1) := by decide +kernel
theorem d_M_takeCoded_187 : decode m_M_takeCoded.2.1 187 = .ok (.iaload, 1) := by decide +kernel
theorem d_M_takeCoded_188 : decode m_M_takeCoded.2.1 188 = .ok (.iconst 1, 1) := by decide +kernel
theorem d_M_takeCoded_189 : decode m_M_takeCoded.2.1 189 = .ok (.iadd, 1) := by decide +kernel
theorem d_M_takeCoded_190 : decode m_M_takeCoded.2.1 190 = .ok (.iastore, 1) := by decide +kernel
theorem d_M_takeCoded_191 : decode m_M_takeCoded.2.1 191 = .ok (.aload_n 0, 1) := by decide +kernel
theorem d_M_takeCoded_192 : decode m_M_takeCoded.2.1 192 = .ok (.sipush 212, 3) := by decide +kernel
theorem d_M_takeCoded_195 : decode m_M_takeCoded.2.1 195 = .ok (.iload_n 2, 1) := by decide +kernel
theorem d_M_takeCoded_196 : decode m_M_takeCoded.2.1 196 = .ok (.iload_n 3, 1) := by decide +kernel
theorem d_M_takeCoded_197 : decode m_M_takeCoded.2.1 197 = .ok (.invokevirtual 218, 3) := by decide +kernel
theorem d_M_takeCoded_200 : decode m_M_takeCoded.2.1 200 = .ok (.aload_n 0, 1) := by decide +kernel
theorem d_M_takeCoded_201 : decode m_M_takeCoded.2.1 201 = .ok (.iload 4, 2) := by decide +kernel
theorem d_M_takeCoded_203 : decode m_M_takeCoded.2.1 203 = .ok (.iload 5, 2) := by decide +kernel
theorem d_M_takeCoded_205 : decode m_M_takeCoded.2.1 205 = .ok (.iload_n 3, 1) := by decide +kernel
theorem d_M_takeCoded_206 : decode m_M_takeCoded.2.1 206 = .ok (.iconst 1, 1) := by decide +kernel
theorem d_M_takeCoded_207 : decode m_M_takeCoded.2.1 207 = .ok (.iadd, 1) := by decide +kernel
theorem d_M_takeCoded_208 : decode m_M_takeCoded.2.1 208 = .ok (.invokevirtual 246, 3) := by decide +kernel
theorem d_M_takeCoded_211 : decode m_M_takeCoded.2.1 211 = .ok (.ireturn, 1) := by decide +kernel
theorem d_M_takeCoded_212 : decode m_M_takeCoded.2.1 212 = .ok (.iload 4, 2) := by decide +kernel
theorem d_M_takeCoded_214 : decode m_M_takeCoded.2.1 214 = .ok (.bipush 125, 2) := by decide +kernel
theorem d_M_takeCoded_216 : decode m_M_takeCoded.2.1 216 = .ok (.if_icmp .ne 18, 3) := by decide +kernel
theorem d_M_takeCoded_219 : decode m_M_takeCoded.2.1 219 = .ok (.aload_n 0, 1) := by decide +kernel
theorem d_M_takeCoded_220 : decode m_M_takeCoded.2.1 220 = .ok (.getfield 52, 3) := by decide +kernel
theorem d_M_takeCoded_223 : decode m_M_takeCoded.2.1 223 = .ok (.iload_n 2, 1) := by decide +kernel
theorem d_M_takeCoded_224 : decode m_M_takeCoded.2.1 224 = .ok (.iaload, 1) := by decide +kernel
theorem d_M_takeCoded_225 : decode m_M_takeCoded.2.1 225 = .ok (.ifCond .le 7, 3) := by decide +kernel
theorem d_M_takeCoded_228 : decode m_M_takeCoded.2.1 228 = .ok (.iconst 1, 1) := by decide +kernel
theorem d_M_takeCoded_229 : decode m_M_takeCoded.2.1 229 = .ok (.goto 4, 3) := by decide +kernel
theorem d_M_takeCoded_232 : decode m_M_takeCoded.2.1 232 = .ok (.iconst 0, 1) := by decide +kernel
theorem d_M_takeCoded_233 : decode m_M_takeCoded.2.1 233 = .ok (.ireturn, 1) := by decide +kernel
theorem d_M_takeCoded_234 : decode m_M_takeCoded.2.1 234 = .ok (.iload 4, 2) := by decide +kernel
theorem d_M_takeCoded_236 : decode m_M_takeCoded.2.1 236 = .ok (.bipush 124, 2) := by decide +kernel
theorem d_M_takeCoded_238 : decode m_M_takeCoded.2.1 238 = .ok (.if_icmp .ne 13, 3) := by decide +kernel
theorem d_M_takeCoded_241 : decode m_M_takeCoded.2.1 241 = .ok (.aload_n 0, 1) := by decide +kernel
theorem d_M_takeCoded_242 : decode m_M_takeCoded.2.1 242 = .ok (.getfield 52, 3) := by decide +kernel
theorem d_M_takeCoded_245 : decode m_M_takeCoded.2.1 245 = .ok (.iload_n 2, 1) := by decide +kernel
theorem d_M_takeCoded_246 : decode m_M_takeCoded.2.1 246 = .ok (.iaload, 1) := by decide +kernel
theorem d_M_takeCoded_247 : decode m_M_takeCoded.2.1 247 = .ok (.iconst 5, 1) := by decide +kernel
theorem d_M_takeCoded_248 : decode m_M_takeCoded.2.1 248 = .ok (.if_icmp .ne 5, 3) := by decide +kernel
theorem d_M_takeCoded_251 : decode m_M_takeCoded.2.1 251 = .ok (.iconst 0, 1) := by decide +kernel
theorem d_M_takeCoded_252 : decode m_M_takeCoded.2.1 252 = .ok (.ireturn, 1) := by decide +kernel
theorem d_M_takeCoded_253 : decode m_M_takeCoded.2.1 253 = .ok (.aload_n 0, 1) := by decide +kernel
theorem d_M_takeCoded_254 : decode m_M_takeCoded.2.1 254 = .ok (.getfield 52, 3) := by decide +kernel
theorem d_M_takeCoded_257 : decode m_M_takeCoded.2.1 257 = .ok (.iload_n 2, 1) := by decide +kernel
theorem d_M_takeCoded_258 : decode m_M_takeCoded.2.1 258 = .ok (.dup2, 1) := by decide +kernel
theorem d_M_takeCoded_259 : decode m_M_takeCoded.2.1 259 = .ok (.iaload, 1) := by decide +kernel
theorem d_M_takeCoded_260 : decode m_M_takeCoded.2.1 260 = .ok (.iconst 1, 1) := by decide +kernel
theorem d_M_takeCoded_261 : decode m_M_takeCoded.2.1 261 = .ok (.iadd, 1) := by decide +kernel
theorem d_M_takeCoded_262 : decode m_M_takeCoded.2.1 262 = .ok (.iastore, 1) := by decide +kernel
theorem d_M_takeCoded_263 : decode m_M_takeCoded.2.1 263 = .ok (.aload_n 0, 1) := by decide +kernel
theorem d_M_takeCoded_264 : decode m_M_takeCoded.2.1 264 = .ok (.sipush 213, 3) := by decide +kernel
theorem d_M_takeCoded_267 : decode m_M_takeCoded.2.1 267 = .ok (.iload_n 2, 1) := by decide +kernel
theorem d_M_takeCoded_268 : decode m_M_takeCoded.2.1 268 = .ok (.iload_n 3, 1) := by decide +kernel
theorem d_M_takeCoded_269 : decode m_M_takeCoded.2.1 269 = .ok (.invokevirtual 218, 3) := by decide +kernel
theorem d_M_takeCoded_272 : decode m_M_takeCoded.2.1 272 = .ok (.aload_n 0, 1) := by decide +kernel
theorem d_M_takeCoded_273 : decode m_M_takeCoded.2.1 273 = .ok (.sipush 210, 3) := by decide +kernel
theorem d_M_takeCoded_276 : decode m_M_takeCoded.2.1 276 = .ok (.iload_n 3, 1) := by decide +kernel
theorem d_M_takeCoded_277 : decode m_M_takeCoded.2.1 277 = .ok (.iconst 1, 1) := by decide +kernel
theorem d_M_takeCoded_278 : decode m_M_takeCoded.2.1 278 = .ok (.iadd, 1) := by decide +kernel
theorem d_M_takeCoded_279 : decode m_M_takeCoded.2.1 279 = .ok (.iconst 0, 1) := by decide +kernel
theorem d_M_takeCoded_280 : decode m_M_takeCoded.2.1 280 = .ok (.invokevirtual 218, 3) := by decide +kernel
theorem d_M_takeCoded_283 : decode m_M_takeCoded.2.1 283 = .ok (.aload_n 0, 1) := by decide +kernel
theorem d_M_takeCoded_284 : decode m_M_takeCoded.2.1 284 = .ok (.bipush 62, 2) := by decide +kernel
theorem d_M_takeCoded_286 : decode m_M_takeCoded.2.1 286 = .ok (.iconst 0, 1) := by decide +kernel
theorem d_M_takeCoded_287 : decode m_M_takeCoded.2.1 287 = .ok (.iconst 0, 1) := by decide +kernel
theorem d_M_takeCoded_288 : decode m_M_takeCoded.2.1 288 = .ok (.invokevirtual 218, 3) := by decide +kernel
theorem d_M_takeCoded_291 : decode m_M_takeCoded.2.1 291 = .ok (.aload_n 0, 1) := by decide +kernel
theorem d_M_takeCoded_292 : decode m_M_takeCoded.2.1 292 = .ok (.sipush 214, 3) := by decide +kernel
theorem d_M_takeCoded_295 : decode m_M_takeCoded.2.1 295 = .ok (.iconst 0, 1) := by decide +kernel
theorem d_M_takeCoded_296 : decode m_M_takeCoded.2.1 296 = .ok (.iconst 0, 1) := by decide +kernel
theorem d_M_takeCoded_297 : decode m_M_takeCoded.2.1 297 = .ok (.invokevirtual 218, 3) := by decide +kernel
theorem d_M_takeCoded_300 : decode m_M_takeCoded.2.1 300 = .ok (.iconst 1, 1) := by decide +kernel
theorem d_M_takeCoded_301 : decode m_M_takeCoded.2.1 301 = .ok (.ireturn, 1) := by decide +kernel
theorem d_M_takeCoded_302 : decode m_M_takeCoded.2.1 302 = .ok (.aload_n 0, 1) := by decide +kernel
theorem d_M_takeCoded_303 : decode m_M_takeCoded.2.1 303 = .ok (.iload 4, 2) := by decide +kernel
theorem d_M_takeCoded_305 : decode m_M_takeCoded.2.1 305 = .ok (.iload 5, 2) := by decide +kernel
theorem d_M_takeCoded_307 : decode m_M_takeCoded.2.1 307 = .ok (.invokevirtual 249, 3) := by decide +kernel
theorem d_M_takeCoded_310 : decode m_M_takeCoded.2.1 310 = .ok (.ireturn, 1) := by decide +kernel
theorem d_M_takeCoded_311 : decode m_M_takeCoded.2.1 311 = .ok (.aload_n 0, 1) := by decide +kernel
theorem d_M_takeCoded_312 : decode m_M_takeCoded.2.1 312 = .ok (.sipush 216, 3) := by decide +kernel
theorem d_M_takeCoded_315 : decode m_M_takeCoded.2.1 315 = .ok (.iload_n 2, 1) := by decide +kernel
theorem d_M_takeCoded_316 : decode m_M_takeCoded.2.1 316 = .ok (.iconst 0, 1) := by decide +kernel
theorem d_M_takeCoded_317 : decode m_M_takeCoded.2.1 317 = .ok (.invokevirtual 218, 3) := by decide +kernel
theorem d_M_takeCoded_320 : decode m_M_takeCoded.2.1 320 = .ok (.iconst 1, 1) := by decide +kernel
theorem d_M_takeCoded_321 : decode m_M_takeCoded.2.1 321 = .ok (.ireturn, 1) := by decide +kernel
theorem d_M_takeCoded_322 : decode m_M_takeCoded.2.1 322 = .ok (.iload 4, 2) := by decide +kernel
theorem d_M_takeCoded_324 : decode m_M_takeCoded.2.1 324 = .ok (.bipush 41, 2) := by decide +kernel
theorem d_M_takeCoded_326 : decode m_M_takeCoded.2.1 326 = .ok (.if_icmp .ne 18, 3) := by decide +kernel
theorem d_M_takeCoded_329 : decode m_M_takeCoded.2.1 329 = .ok (.aload_n 0, 1) := by decide +kernel
theorem d_M_takeCoded_330 : decode m_M_takeCoded.2.1 330 = .ok (.getfield 52, 3) := by decide +kernel
theorem d_M_takeCoded_333 : decode m_M_takeCoded.2.1 333 = .ok (.iload_n 2, 1) := by decide +kernel
theorem d_M_takeCoded_334 : decode m_M_takeCoded.2.1 334 = .ok (.iaload, 1) := by decide +kernel
theorem d_M_takeCoded_335 : decode m_M_takeCoded.2.1 335 = .ok (.ifCond .le 7, 3) := by decide +kernel
theorem d_M_takeCoded_338 : decode m_M_takeCoded.2.1 338 = .ok (.iconst 1, 1) := by decide +kernel
theorem d_M_takeCoded_339 : decode m_M_takeCoded.2.1 339 = .ok (.goto 4, 3) := by decide +kernel
theorem d_M_takeCoded_342 : decode m_M_takeCoded.2.1 342 = .ok (.iconst 0, 1) := by decide +kernel
theorem d_M_takeCoded_343 : decode m_M_takeCoded.2.1 343 = .ok (.ireturn, 1) := by decide +kernel
theorem d_M_takeCoded_344 : decode m_M_takeCoded.2.1 344 = .ok (.iload 4, 2) := by decide +kernel
theorem d_M_takeCoded_346 : decode m_M_takeCoded.2.1 346 = .ok (.invokestatic 204, 3) := by decide +kernel
theorem d_M_takeCoded_349 : decode m_M_takeCoded.2.1 349 = .ok (.ifCond .eq 14, 3) := by decide +kernel
theorem d_M_takeCoded_352 : decode m_M_takeCoded.2.1 352 = .ok (.aload_n 0, 1) := by decide +kernel
theorem d_M_takeCoded_353 : decode m_M_takeCoded.2.1 353 = .ok (.getfield 52, 3) := by decide +kernel
theorem d_M_takeCoded_356 : decode m_M_takeCoded.2.1 356 = .ok (.iload_n 2, 1) := by decide +kernel
theorem d_M_takeCoded_357 : decode m_M_takeCoded.2.1 357 = .ok (.iaload, 1) := by decide +kernel
theorem d_M_takeCoded_358 : decode m_M_takeCoded.2.1 358 = .ok (.bipush 6, 2) := by decide +kernel
theorem d_M_takeCoded_360 : decode m_M_takeCoded.2.1 360 = .ok (.if_icmp .ne 5, 3) := by decide +kernel
theorem d_M_takeCoded_363 : decode m_M_takeCoded.2.1 363 = .ok (.iconst 0, 1) := by decide +kernel
theorem d_M_takeCoded_364 : decode m_M_takeCoded.2.1 364 = .ok (.ireturn, 1) := by decide +kernel
theorem d_M_takeCoded_365 : decode m_M_takeCoded.2.1 365 = .ok (.aload_n 0, 1) := by decide +kernel
theorem d_M_takeCoded_366 : decode m_M_takeCoded.2.1 366 = .ok (.bipush 14, 2) := by decide +kernel
theorem d_M_takeCoded_368 : decode m_M_takeCoded.2.1 368 = .ok (.iload 4, 2) := by decide +kernel
theorem d_M_takeCoded_370 : decode m_M_takeCoded.2.1 370 = .ok (.bipush 97, 2) := by decide +kernel
theorem d_M_takeCoded_372 : decode m_M_takeCoded.2.1 372 = .ok (.isub, 1) := by decide +kernel
theorem d_M_takeCoded_373 : decode m_M_takeCoded.2.1 373 = .ok (.iload 5, 2) := by decide +kernel
theorem d_M_takeCoded_375 : decode m_M_takeCoded.2.1 375 = .ok (.invokevirtual 211, 3) := by decide +kernel
theorem d_M_takeCoded_378 : decode m_M_takeCoded.2.1 378 = .ok (.pop, 1) := by decide +kernel
theorem d_M_takeCoded_379 : decode m_M_takeCoded.2.1 379 = .ok (.aload_n 0, 1) := by decide +kernel
theorem d_M_takeCoded_380 : decode m_M_takeCoded.2.1 380 = .ok (.getfield 52, 3) := by decide +kernel
theorem d_M_takeCoded_383 : decode m_M_takeCoded.2.1 383 = .ok (.iload_n 2, 1) := by decide +kernel
theorem d_M_takeCoded_384 : decode m_M_takeCoded.2.1 384 = .ok (.dup2, 1) := by decide +kernel
theorem d_M_takeCoded_385 : decode m_M_takeCoded.2.1 385 = .ok (.iaload, 1) := by decide +kernel
theorem d_M_takeCoded_386 : decode m_M_takeCoded.2.1 386 = .ok (.iconst 1, 1) := by decide +kernel
theorem d_M_takeCoded_387 : decode m_M_takeCoded.2.1 387 = .ok (.iadd, 1) := by decide +kernel
theorem d_M_takeCoded_388 : decode m_M_takeCoded.2.1 388 = .ok (.iastore, 1) := by decide +kernel
theorem d_M_takeCoded_389 : decode m_M_takeCoded.2.1 389 = .ok (.aload_n 0, 1) := by decide +kernel
theorem d_M_takeCoded_390 : decode m_M_takeCoded.2.1 390 = .ok (.sipush 216, 3) := by decide +kernel
theorem d_M_takeCoded_393 : decode m_M_takeCoded.2.1 393 = .ok (.iload_n 2, 1) := by decide +kernel
theorem d_M_takeCoded_394 : decode m_M_takeCoded.2.1 394 = .ok (.iconst 0, 1) := by decide +kernel
theorem d_M_takeCoded_395 : decode m_M_takeCoded.2.1 395 = .ok (.invokevirtual 218, 3) := by decide +kernel
theorem d_M_takeCoded_398 : decode m_M_takeCoded.2.1 398 = .ok (.iconst 1, 1) := by decide +kernel
theorem d_M_takeCoded_399 : decode m_M_takeCoded.2.1 399 = .ok (.ireturn, 1) := by decide +kernel
theorem d_M_takeCoded_400 : decode m_M_takeCoded.2.1 400 = .ok (.aload_n 0, 1) := by decide +kernel
theorem d_M_takeCoded_401 : decode m_M_takeCoded.2.1 401 = .ok (.getfield 49, 3) := by decide +kernel
theorem d_M_takeCoded_404 : decode m_M_takeCoded.2.1 404 = .ok (.iload_n 2, 1) := by decide +kernel
theorem d_M_takeCoded_405 : decode m_M_takeCoded.2.1 405 = .ok (.iload 4, 2) := by decide +kernel
theorem d_M_takeCoded_407 : decode m_M_takeCoded.2.1 407 = .ok (.iastore, 1) := by decide +kernel
theorem d_M_takeCoded_408 : decode m_M_takeCoded.2.1 408 = .ok (.iload 4, 2) := by decide +kernel
theorem d_M_takeCoded_410 : decode m_M_takeCoded.2.1 410 = .ok (.bipush 61, 2) := by decide +kernel
theorem d_M_takeCoded_412 : decode m_M_takeCoded.2.1 412 = .ok (.if_icmp .eq 10, 3) := by decide +kernel
theorem d_M_takeCoded_415 : decode m_M_takeCoded.2.1 415 = .ok (.iload 4, 2) := by decide +kernel
theorem d_M_takeCoded_417 : decode m_M_takeCoded.2.1 417 = .ok (.bipush 60, 2) := by decide +kernel
theorem d_M_takeCoded_419 : decode m_M_takeCoded.2.1 419 = .ok (.if_icmp .ne 7, 3) := by decide +kernel
theorem d_M_takeCoded_422 : decode m_M_takeCoded.2.1 422 = .ok (.iconst 1, 1) := by decide +kernel
theorem d_M_takeCoded_423 : decode m_M_takeCoded.2.1 423 = .ok (.goto 4, 3) := by decide +kernel
theorem d_M_takeCoded_426 : decode m_M_takeCoded.2.1 426 = .ok (.iconst 0, 1) := by decide +kernel
theorem d_M_takeCoded_427 : decode m_M_takeCoded.2.1 427 = .ok (.ireturn, 1) := by decide +kernel
theorem d_M_takeCoded_428 : decode m_M_takeCoded.2.1 428 = .ok (.iload_n 2, 1) := by decide +kernel
theorem d_M_takeCoded_429 : decode m_M_takeCoded.2.1 429 = .ok (.bipush 6, 2) := by decide +kernel
theorem d_M_takeCoded_431 : decode m_M_takeCoded.2.1 431 = .ok (.if_icmp .ne 5, 3) := by decide +kernel
theorem d_M_takeCoded_434 : decode m_M_takeCoded.2.1 434 = .ok (.iconst 0, 1) := by decide +kernel
theorem d_M_takeCoded_435 : decode m_M_takeCoded.2.1 435 = .ok (.ireturn, 1) := by decide +kernel
theorem d_M_takeCoded_436 : decode m_M_takeCoded.2.1 436 = .ok (.aload_n 0, 1) := by decide +kernel
theorem d_M_takeCoded_437 : decode m_M_takeCoded.2.1 437 = .ok (.sipush 218, 3) := by decide +kernel
theorem d_M_takeCoded_440 : decode m_M_takeCoded.2.1 440 = .ok (.iload_n 2, 1) := by decide +kernel
theorem d_M_takeCoded_441 : decode m_M_takeCoded.2.1 441 = .ok (.iconst 1, 1) := by decide +kernel
theorem d_M_takeCoded_442 : decode m_M_takeCoded.2.1 442 = .ok (.iadd, 1) := by decide +kernel
theorem d_M_takeCoded_443 : decode m_M_takeCoded.2.1 443 = .ok (.iconst 0, 1) := by decide +kernel
theorem d_M_takeCoded_444 : decode m_M_takeCoded.2.1 444 = .ok (.invokevirtual 218, 3) := by decide +kernel
theorem d_M_takeCoded_447 : decode m_M_takeCoded.2.1 447 = .ok (.aload_n 0, 1) := by decide +kernel
theorem d_M_takeCoded_448 : decode m_M_takeCoded.2.1 448 = .ok (.iload_n 2, 1) := by decide +kernel
theorem d_M_takeCoded_449 : decode m_M_takeCoded.2.1 449 = .ok (.iconst 1, 1) := by decide +kernel
theorem d_M_takeCoded_450 : decode m_M_takeCoded.2.1 450 = .ok (.iadd, 1) := by decide +kernel
theorem d_M_takeCoded_451 : decode m_M_takeCoded.2.1 451 = .ok (.putfield 243, 3) := by decide +kernel
theorem d_M_takeCoded_454 : decode m_M_takeCoded.2.1 454 = .ok (.aload_n 0, 1) := by decide +kernel
theorem d_M_takeCoded_455 : decode m_M_takeCoded.2.1 455 = .ok (.iload 4, 2) := by decide +kernel
theorem d_M_takeCoded_457 : decode m_M_takeCoded.2.1 457 = .ok (.iload 5, 2) := by decide +kernel
theorem d_M_takeCoded_459 : decode m_M_takeCoded.2.1 459 = .ok (.iconst 2, 1) := by decide +kernel
theorem d_M_takeCoded_460 : decode m_M_takeCoded.2.1 460 = .ok (.invokevirtual 229, 3) := by decide +kernel
theorem d_M_takeCoded_463 : decode m_M_takeCoded.2.1 463 = .ok (.ireturn, 1) := by decide +kernel
theorem d_M_read_0 : decode m_M_read.2.1 0 = .ok (.aload_n 0, 1) := by decide +kernel
theorem d_M_read_1 : decode m_M_read.2.1 1 = .ok (.getfield 188, 3) := by decide +kernel
theorem d_M_read_4 : decode m_M_read.2.1 4 = .ok (.istore 4, 2) := by decide +kernel
theorem d_M_read_6 : decode m_M_read.2.1 6 = .ok (.aload_n 0, 1) := by decide +kernel
theorem d_M_read_7 : decode m_M_read.2.1 7 = .ok (.iconst 0, 1) := by decide +kernel
theorem d_M_read_8 : decode m_M_read.2.1 8 = .ok (.putfield 188, 3) := by decide +kernel
theorem d_M_read_11 : decode m_M_read.2.1 11 = .ok (.aload_n 0, 1) := by decide +kernel
theorem d_M_read_12 : decode m_M_read.2.1 12 = .ok (.iconst 0, 1) := by decide +kernel
theorem d_M_read_13 : decode m_M_read.2.1 13 = .ok (.putfield 191, 3) := by decide +kernel
theorem d_M_read_16 : decode m_M_read.2.1 16 = .ok (.aload_n 0, 1) := by decide +kernel
theorem d_M_read_17 : decode m_M_read.2.1 17 = .ok (.aload_n 0, 1) := by decide +kernel
theorem d_M_read_18 : decode m_M_read.2.1 18 = .ok (.getfield 253, 3) := by decide +kernel
theorem d_M_read_21 : decode m_M_read.2.1 21 = .ok (.putfield 222, 3) := by decide +kernel
theorem d_M_read_24 : decode m_M_read.2.1 24 = .ok (.aload_n 0, 1) := by decide +kernel
theorem d_M_read_25 : decode m_M_read.2.1 25 = .ok (.aload_n 0, 1) := by decide +kernel
theorem d_M_read_26 : decode m_M_read.2.1 26 = .ok (.getfield 194, 3) := by decide +kernel
theorem d_M_read_29 : decode m_M_read.2.1 29 = .ok (.putfield 197, 3) := by decide +kernel
theorem d_M_read_32 : decode m_M_read.2.1 32 = .ok (.aload_n 0, 1) := by decide +kernel
theorem d_M_read_33 : decode m_M_read.2.1 33 = .ok (.iload_n 1, 1) := by decide +kernel
theorem d_M_read_34 : decode m_M_read.2.1 34 = .ok (.iload_n 2, 1) := by decide +kernel
theorem d_M_read_35 : decode m_M_read.2.1 35 = .ok (.iload_n 3, 1) := by decide +kernel
theorem d_M_read_36 : decode m_M_read.2.1 36 = .ok (.invokevirtual 218, 3) := by decide +kernel
theorem d_M_read_39 : decode m_M_read.2.1 39 = .ok (.iconst 0, 1) := by decide +kernel
theorem d_M_read_40 : decode m_M_read.2.1 40 = .ok (.istore 5, 2) := by decide +kernel
theorem d_M_read_42 : decode m_M_read.2.1 42 = .ok (.iload 5, 2) := by decide +kernel
theorem d_M_read_44 : decode m_M_read.2.1 44 = .ok (.iload 4, 2) := by decide +kernel
theorem d_M_read_46 : decode m_M_read.2.1 46 = .ok (.if_icmp .ge 28, 3) := by decide +kernel
theorem d_M_read_49 : decode m_M_read.2.1 49 = .ok (.aload_n 0, 1) := by decide +kernel
theorem d_M_read_50 : decode m_M_read.2.1 50 = .ok (.aload_n 0, 1) := by decide +kernel
theorem d_M_read_51 : decode m_M_read.2.1 51 = .ok (.getfield 7, 3) := by decide +kernel
theorem d_M_read_54 : decode m_M_read.2.1 54 = .ok (.iload 5, 2) := by decide +kernel
theorem d_M_read_56 : decode m_M_read.2.1 56 = .ok (.iaload, 1) := by decide +kernel
theorem d_M_read_57 : decode m_M_read.2.1 57 = .ok (.iload 5, 2) := by decide +kernel
theorem d_M_read_59 : decode m_M_read.2.1 59 = .ok (.invokevirtual 256, 3) := by decide +kernel
theorem d_M_read_62 : decode m_M_read.2.1 62 = .ok (.ifCond .ne 6, 3) := by decide +kernel
theorem d_M_read_65 : decode m_M_read.2.1 65 = .ok (.iload 5, 2) := by decide +kernel
theorem d_M_read_67 : decode m_M_read.2.1 67 = .ok (.ireturn, 1) := by decide +kernel
theorem d_M_read_68 : decode m_M_read.2.1 68 = .ok (.iinc 5 1, 3) := by decide +kernel
theorem d_M_read_71 : decode m_M_read.2.1 71 = .ok (.goto (-29), 3) := by decide +kernel
theorem d_M_read_74 : decode m_M_read.2.1 74 = .ok (.iconst 1, 1) := by decide +kernel
theorem d_M_read_75 : decode m_M_read.2.1 75 = .ok (.istore 5, 2) := by decide +kernel
theorem d_M_read_77 : decode m_M_read.2.1 77 = .ok (.iconst 0, 1) := by decide +kernel
theorem d_M_read_78 : decode m_M_read.2.1 78 = .ok (.istore 6, 2) := by decide +kernel
theorem d_M_read_80 : decode m_M_read.2.1 80 = .ok (.iload 6, 2) := by decide +kernel
theorem d_M_read_82 : decode m_M_read.2.1 82 = .ok (.aload_n 0, 1) := by decide +kernel
theorem d_M_read_83 : decode m_M_read.2.1 83 = .ok (.getfield 191, 3) := by decide +kernel
theorem d_M_read_86 : decode m_M_read.2.1 86 = .ok (.if_icmp .ge 95, 3) := by decide +kernel
theorem d_M_read_89 : decode m_M_read.2.1 89 = .ok (.aload_n 0, 1) := by decide +kernel
theorem d_M_read_90 : decode m_M_read.2.1 90 = .ok (.getfield 76, 3) := by decide +kernel
theorem d_M_read_93 : decode m_M_read.2.1 93 = .ok (.iload 6, 2) := by decide +kernel
theorem d_M_read_95 : decode m_M_read.2.1 95 = .ok (.iaload, 1) := by decide +kernel
theorem d_M_read_96 : decode m_M_read.2.1 96 = .ok (.sipush 201, 3) := by decide +kernel
theorem d_M_read_99 : decode m_M_read.2.1 99 = .ok (.if_icmp .eq 52, 3) := by decide +kernel
theorem d_M_read_102 : decode m_M_read.2.1 102 = .ok (.aload_n 0, 1) := by decide +kernel
theorem d_M_read_103 : decode m_M_read.2.1 103 = .ok (.getfield 76, 3) := by decide +kernel
theorem d_M_read_106 : decode m_M_read.2.1 106 = .ok (.iload 6, 2) := by decide +kernel
theorem d_M_read_108 : decode m_M_read.2.1 108 = .ok (.iaload, 1) := by decide +kernel
theorem d_M_read_109 : decode m_M_read.2.1 109 = .ok (.sipush 211, 3) := by decide +kernel
theorem d_M_read_112 : decode m_M_read.2.1 112 = .ok (.if_icmp .eq 39, 3) := by decide +kernel
theorem d_M_read_115 : decode m_M_read.2.1 115 = .ok (.aload_n 0, 1) := by decide +kernel
theorem d_M_read_116 : decode m_M_read.2.1 116 = .ok (.getfield 76, 3) := by decide +kernel
theorem d_M_read_119 : decode m_M_read.2.1 119 = .ok (.iload 6, 2) := by decide +kernel
theorem d_M_read_121 : decode m_M_read.2.1 121 = .ok (.iaload, 1) := by decide +kernel
theorem d_M_read_122 : decode m_M_read.2.1 122 = .ok (.sipush 215, 3) := by decide +kernel
theorem d_M_read_125 : decode m_M_read.2.1 125 = .ok (.if_icmp .eq 26, 3) := by decide +kernel
theorem d_M_read_128 : decode m_M_read.2.1 128 = .ok (.aload_n 0, 1) := by decide +kernel
theorem d_M_read_129 : decode m_M_read.2.1 129 = .ok (.getfield 76, 3) := by decide +kernel
theorem d_M_read_132 : decode m_M_read.2.1 132 = .ok (.iload 6, 2) := by decide +kernel
theorem d_M_read_134 : decode m_M_read.2.1 134 = .ok (.iaload, 1) := by decide +kernel
theorem d_M_read_135 : decode m_M_read.2.1 135 = .ok (.sipush 218, 3) := by decide +kernel
theorem d_M_read_138 : decode m_M_read.2.1 138 = .ok (.if_icmp .ne 17, 3) := by decide +kernel
theorem d_M_read_141 : decode m_M_read.2.1 141 = .ok (.aload_n 0, 1) := by decide +kernel
theorem d_M_read_142 : decode m_M_read.2.1 142 = .ok (.getfield 79, 3) := by decide +kernel
theorem d_M_read_145 : decode m_M_read.2.1 145 = .ok (.iload 6, 2) := by decide +kernel
theorem d_M_read_147 : decode m_M_read.2.1 147 = .ok (.iaload, 1) := by decide +kernel
theorem d_M_read_148 : decode m_M_read.2.1 148 = .ok (.ifCond .le 7, 3) := by decide +kernel
theorem d_M_read_151 : decode m_M_read.2.1 151 = .ok (.iconst 1, 1) := by decide +kernel
theorem d_M_read_152 : decode m_M_read.2.1 152 = .ok (.goto 4, 3) := by decide +kernel
theorem d_M_read_155 : decode m_M_read.2.1 155 = .ok (.iconst 0, 1) := by decide +kernel
theorem d_M_read_156 : decode m_M_read.2.1 156 = .ok (.istore 7, 2) := by decide +kernel
theorem d_M_read_158 : decode m_M_read.2.1 158 = .ok (.iload 5, 2) := by decide +kernel
theorem d_M_read_160 : decode m_M_read.2.1 160 = .ok (.ifCond .eq 12, 3) := by decide +kernel
theorem d_M_read_163 : decode m_M_read.2.1 163 = .ok (.iload 7, 2) := by decide +kernel
theorem d_M_read_165 : decode m_M_read.2.1 165 = .ok (.ifCond .eq 7, 3) := by decide +kernel
theorem d_M_read_168 : decode m_M_read.2.1 168 = .ok (.iconst 1, 1) := by decide +kernel
theorem d_M_read_169 : decode m_M_read.2.1 169 = .ok (.goto 4, 3) := by decide +kernel
theorem d_M_read_172 : decode m_M_read.2.1 172 = .ok (.iconst 0, 1) := by decide +kernel
theorem d_M_read_173 : decode m_M_read.2.1 173 = .ok (.istore 5, 2) := by decide +kernel
theorem d_M_read_175 : decode m_M_read.2.1 175 = .ok (.iinc 6 1, 3) := by decide +kernel
theorem d_M_read_178 : decode m_M_read.2.1 178 = .ok (.goto (-98), 3) := by decide +kernel
theorem d_M_read_181 : decode m_M_read.2.1 181 = .ok (.iload 5, 2) := by decide +kernel
theorem d_M_read_183 : decode m_M_read.2.1 183 = .ok (.ifCond .eq 7, 3) := by decide +kernel
theorem d_M_read_186 : decode m_M_read.2.1 186 = .ok (.iconst (-1), 1) := by decide +kernel
theorem d_M_read_187 : decode m_M_read.2.1 187 = .ok (.goto 5, 3) := by decide +kernel
theorem d_M_read_190 : decode m_M_read.2.1 190 = .ok (.iload 4, 2) := by decide +kernel
theorem d_M_read_192 : decode m_M_read.2.1 192 = .ok (.ireturn, 1) := by decide +kernel
theorem d_M_nothing_0 : decode m_M_nothing.2.1 0 = .ok (.aload_n 0, 1) := by decide +kernel
theorem d_M_nothing_1 : decode m_M_nothing.2.1 1 = .ok (.iconst 0, 1) := by decide +kernel
theorem d_M_nothing_2 : decode m_M_nothing.2.1 2 = .ok (.putfield 259, 3) := by decide +kernel
theorem d_M_nothing_5 : decode m_M_nothing.2.1 5 = .ok (.aload_n 0, 1) := by decide +kernel
theorem d_M_nothing_6 : decode m_M_nothing.2.1 6 = .ok (.iconst 0, 1) := by decide +kernel
theorem d_M_nothing_7 : decode m_M_nothing.2.1 7 = .ok (.putfield 262, 3) := by decide +kernel
theorem d_M_nothing_10 : decode m_M_nothing.2.1 10 = .ok (.aload_n 0, 1) := by decide +kernel
theorem d_M_nothing_11 : decode m_M_nothing.2.1 11 = .ok (.iconst 0, 1) := by decide +kernel
theorem d_M_nothing_12 : decode m_M_nothing.2.1 12 = .ok (.putfield 265, 3) := by decide +kernel
theorem d_M_nothing_15 : decode m_M_nothing.2.1 15 = .ok (.return_, 1) := by decide +kernel
theorem d_M_value_0 : decode m_M_value.2.1 0 = .ok (.aload_n 0, 1) := by decide +kernel
theorem d_M_value_1 : decode m_M_value.2.1 1 = .ok (.getfield 85, 3) := by decide +kernel
theorem d_M_value_4 : decode m_M_value.2.1 4 = .ok (.aload_n 0, 1) := by decide +kernel
theorem d_M_value_5 : decode m_M_value.2.1 5 = .ok (.getfield 259, 3) := by decide +kernel
theorem d_M_value_8 : decode m_M_value.2.1 8 = .ok (.iload_n 1, 1) := by decide +kernel
theorem d_M_value_9 : decode m_M_value.2.1 9 = .ok (.iastore, 1) := by decide +kernel
theorem d_M_value_10 : decode m_M_value.2.1 10 = .ok (.aload_n 0, 1) := by decide +kernel
theorem d_M_value_11 : decode m_M_value.2.1 11 = .ok (.getfield 88, 3) := by decide +kernel
theorem d_M_value_14 : decode m_M_value.2.1 14 = .ok (.aload_n 0, 1) := by decide +kernel
theorem d_M_value_15 : decode m_M_value.2.1 15 = .ok (.getfield 259, 3) := by decide +kernel
theorem d_M_value_18 : decode m_M_value.2.1 18 = .ok (.iload_n 2, 1) := by decide +kernel
theorem d_M_value_19 : decode m_M_value.2.1 19 = .ok (.iastore, 1) := by decide +kernel
theorem d_M_value_20 : decode m_M_value.2.1 20 = .ok (.aload_n 0, 1) := by decide +kernel
theorem d_M_value_21 : decode m_M_value.2.1 21 = .ok (.getfield 91, 3) := by decide +kernel
theorem d_M_value_24 : decode m_M_value.2.1 24 = .ok (.aload_n 0, 1) := by decide +kernel
theorem d_M_value_25 : decode m_M_value.2.1 25 = .ok (.getfield 259, 3) := by decide +kernel
theorem d_M_value_28 : decode m_M_value.2.1 28 = .ok (.aload_n 0, 1) := by decide +kernel
theorem d_M_value_29 : decode m_M_value.2.1 29 = .ok (.getfield 262, 3) := by decide +kernel
theorem d_M_value_32 : decode m_M_value.2.1 32 = .ok (.iastore, 1) := by decide +kernel
theorem d_M_value_33 : decode m_M_value.2.1 33 = .ok (.aload_n 0, 1) := by decide +kernel
theorem d_M_value_34 : decode m_M_value.2.1 34 = .ok (.getfield 94, 3) := by decide +kernel
theorem d_M_value_37 : decode m_M_value.2.1 37 = .ok (.aload_n 0, 1) := by decide +kernel
theorem d_M_value_38 : decode m_M_value.2.1 38 = .ok (.getfield 259, 3) := by decide +kernel
theorem d_M_value_41 : decode m_M_value.2.1 41 = .ok (.iconst 0, 1) := by decide +kernel
theorem d_M_value_42 : decode m_M_value.2.1 42 = .ok (.iastore, 1) := by decide +kernel
theorem d_M_value_43 : decode m_M_value.2.1 43 = .ok (.aload_n 0, 1) := by decide +kernel
theorem d_M_value_44 : decode m_M_value.2.1 44 = .ok (.dup, 1) := by decide +kernel
theorem d_M_value_45 : decode m_M_value.2.1 45 = .ok (.getfield 259, 3) := by decide +kernel
theorem d_M_value_48 : decode m_M_value.2.1 48 = .ok (.iconst 1, 1) := by decide +kernel
theorem d_M_value_49 : decode m_M_value.2.1 49 = .ok (.iadd, 1) := by decide +kernel
theorem d_M_value_50 : decode m_M_value.2.1 50 = .ok (.putfield 259, 3) := by decide +kernel
theorem d_M_value_53 : decode m_M_value.2.1 53 = .ok (.aload_n 0, 1) := by decide +kernel
theorem d_M_value_54 : decode m_M_value.2.1 54 = .ok (.getfield 259, 3) := by decide +kernel
theorem d_M_value_57 : decode m_M_value.2.1 57 = .ok (.iconst 1, 1) := by decide +kernel
theorem d_M_value_58 : decode m_M_value.2.1 58 = .ok (.isub, 1) := by decide +kernel
theorem d_M_value_59 : decode m_M_value.2.1 59 = .ok (.ireturn, 1) := by decide +kernel
theorem d_M_seen_0 : decode m_M_seen.2.1 0 = .ok (.iload_n 1, 1) := by decide +kernel
theorem d_M_seen_1 : decode m_M_seen.2.1 1 = .ok (.istore_n 2, 1) := by decide +kernel
theorem d_M_seen_2 : decode m_M_seen.2.1 2 = .ok (.aload_n 0, 1) := by decide +kernel
theorem d_M_seen_3 : decode m_M_seen.2.1 3 = .ok (.getfield 85, 3) := by decide +kernel
theorem d_M_seen_6 : decode m_M_seen.2.1 6 = .ok (.iload_n 2, 1) := by decide +kernel
theorem d_M_seen_7 : decode m_M_seen.2.1 7 = .ok (.iaload, 1) := by decide +kernel
theorem d_M_seen_8 : decode m_M_seen.2.1 8 = .ok (.iconst 2, 1) := by decide +kernel
theorem d_M_seen_9 : decode m_M_seen.2.1 9 = .ok (.if_icmp .ne 22, 3) := by decide +kernel
theorem d_M_seen_12 : decode m_M_seen.2.1 12 = .ok (.aload_n 0, 1) := by decide +kernel
theorem d_M_seen_13 : decode m_M_seen.2.1 13 = .ok (.getfield 88, 3) := by decide +kernel
theorem d_M_seen_16 : decode m_M_seen.2.1 16 = .ok (.iload_n 2, 1) := by decide +kernel
theorem d_M_seen_17 : decode m_M_seen.2.1 17 = .ok (.iaload, 1) := by decide +kernel
theorem d_M_seen_18 : decode m_M_seen.2.1 18 = .ok (.ifCond .lt 13, 3) := by decide +kernel
theorem d_M_seen_21 : decode m_M_seen.2.1 21 = .ok (.aload_n 0, 1) := by decide +kernel
theorem d_M_seen_22 : decode m_M_seen.2.1 22 = .ok (.getfield 88, 3) := by decide +kernel
theorem d_M_seen_25 : decode m_M_seen.2.1 25 = .ok (.iload_n 2, 1) := by decide +kernel
theorem d_M_seen_26 : decode m_M_seen.2.1 26 = .ok (.iaload, 1) := by decide +kernel
theorem d_M_seen_27 : decode m_M_seen.2.1 27 = .ok (.istore_n 2, 1) := by decide +kernel
theorem d_M_seen_28 : decode m_M_seen.2.1 28 = .ok (.goto (-26), 3) := by decide +kernel
theorem d_M_seen_31 : decode m_M_seen.2.1 31 = .ok (.iload_n 2, 1) := by decide +kernel
theorem d_M_seen_32 : decode m_M_seen.2.1 32 = .ok (.ireturn, 1) := by decide +kernel
theorem d_M_valueOf_0 : decode m_M_valueOf.2.1 0 = .ok (.iconst 0, 1) := by decide +kernel
theorem d_M_valueOf_1 : decode m_M_valueOf.2.1 1 = .ok (.istore_n 3, 1) := by decide +kernel
theorem d_M_valueOf_2 : decode m_M_valueOf.2.1 2 = .ok (.aload_n 0, 1) := by decide +kernel
theorem d_M_valueOf_3 : decode m_M_valueOf.2.1 3 = .ok (.iload_n 1, 1) := by decide +kernel
theorem d_M_valueOf_4 : decode m_M_valueOf.2.1 4 = .ok (.invokevirtual 268, 3) := by decide +kernel
theorem d_M_valueOf_7 : decode m_M_valueOf.2.1 7 = .ok (.iconst 1, 1) := by decide +kernel
theorem d_M_valueOf_8 : decode m_M_valueOf.2.1 8 = .ok (.isub, 1) := by decide +kernel
theorem d_M_valueOf_9 : decode m_M_valueOf.2.1 9 = .ok (.istore 4, 2) := by decide +kernel
theorem d_M_valueOf_11 : decode m_M_valueOf.2.1 11 = .ok (.iload 4, 2) := by decide +kernel
theorem d_M_valueOf_13 : decode m_M_valueOf.2.1 13 = .ok (.iload_n 1, 1) := by decide +kernel
theorem d_M_valueOf_14 : decode m_M_valueOf.2.1 14 = .ok (.if_icmp .lt 211, 3) := by decide +kernel
theorem d_M_valueOf_17 : decode m_M_valueOf.2.1 17 = .ok (.iconst (-1), 1) := by decide +kernel
theorem d_M_valueOf_18 : decode m_M_valueOf.2.1 18 = .ok (.istore 5, 2) := by decide +kernel
theorem d_M_valueOf_20 : decode m_M_valueOf.2.1 20 = .ok (.aload_n 0, 1) := by decide +kernel
theorem d_M_valueOf_21 : decode m_M_valueOf.2.1 21 = .ok (.getfield 46, 3) := by decide +kernel
theorem d_M_valueOf_24 : decode m_M_valueOf.2.1 24 = .ok (.iload 4, 2) := by decide +kernel
theorem d_M_valueOf_26 : decode m_M_valueOf.2.1 26 = .ok (.iaload, 1) := by decide +kernel
theorem d_M_valueOf_27 : decode m_M_valueOf.2.1 27 = .ok (.iconst 1, 1) := by decide +kernel
theorem d_M_valueOf_28 : decode m_M_valueOf.2.1 28 = .ok (.if_icmp .ne 25, 3) := by decide +kernel
theorem d_M_valueOf_31 : decode m_M_valueOf.2.1 31 = .ok (.aload_n 0, 1) := by decide +kernel
theorem d_M_valueOf_32 : decode m_M_valueOf.2.1 32 = .ok (.getfield 118, 3) := by decide +kernel
theorem d_M_valueOf_35 : decode m_M_valueOf.2.1 35 = .ok (.bipush 26, 2) := by decide +kernel
theorem d_M_valueOf_37 : decode m_M_valueOf.2.1 37 = .ok (.iload_n 2, 1) := by decide +kernel
theorem d_M_valueOf_38 : decode m_M_valueOf.2.1 38 = .ok (.imul, 1) := by decide +kernel
theorem d_M_valueOf_39 : decode m_M_valueOf.2.1 39 = .ok (.aload_n 0, 1) := by decide +kernel
theorem d_M_valueOf_40 : decode m_M_valueOf.2.1 40 = .ok (.getfield 49, 3) := by decide +kernel
theorem d_M_valueOf_43 : decode m_M_valueOf.2.1 43 = .ok (.iload 4, 2) := by decide +kernel
theorem d_M_valueOf_45 : decode m_M_valueOf.2.1 45 = .ok (.iaload, 1) := by decide +kernel
theorem d_M_valueOf_46 : decode m_M_valueOf.2.1 46 = .ok (.iadd, 1) := by decide +kernel
theorem d_M_valueOf_47 : decode m_M_valueOf.2.1 47 = .ok (.iaload, 1) := by decide +kernel
theorem d_M_valueOf_48 : decode m_M_valueOf.2.1 48 = .ok (.istore 5, 2) := by decide +kernel
theorem d_M_valueOf_50 : decode m_M_valueOf.2.1 50 = .ok (.goto 158, 3) := by decide +kernel
theorem d_M_valueOf_53 : decode m_M_valueOf.2.1 53 = .ok (.aload_n 0, 1) := by decide +kernel
theorem d_M_valueOf_54 : decode m_M_valueOf.2.1 54 = .ok (.getfield 46, 3) := by decide +kernel
theorem d_M_valueOf_57 : decode m_M_valueOf.2.1 57 = .ok (.iload 4, 2) := by decide +kernel
theorem d_M_valueOf_59 : decode m_M_valueOf.2.1 59 = .ok (.iaload, 1) := by decide +kernel
theorem d_M_valueOf_60 : decode m_M_valueOf.2.1 60 = .ok (.iconst 4, 1) := by decide +kernel
theorem d_M_valueOf_61 : decode m_M_valueOf.2.1 61 = .ok (.if_icmp .ne 20, 3) := by decide +kernel
theorem d_M_valueOf_64 : decode m_M_valueOf.2.1 64 = .ok (.aload_n 0, 1) := by decide +kernel
theorem d_M_valueOf_65 : decode m_M_valueOf.2.1 65 = .ok (.getfield 58, 3) := by decide +kernel
theorem d_M_valueOf_68 : decode m_M_valueOf.2.1 68 = .ok (.iload 4, 2) := by decide +kernel
theorem d_M_valueOf_70 : decode m_M_valueOf.2.1 70 = .ok (.aload_n 0, 1) := by decide +kernel
theorem d_M_valueOf_71 : decode m_M_valueOf.2.1 71 = .ok (.getfield 197, 3) := by decide +kernel
theorem d_M_valueOf_74 : decode m_M_valueOf.2.1 74 = .ok (.isub, 1) := by decide +kernel
theorem d_M_valueOf_75 : decode m_M_valueOf.2.1 75 = .ok (.iaload, 1) := by decide +kernel
theorem d_M_valueOf_76 : decode m_M_valueOf.2.1 76 = .ok (.istore 5, 2) := by decide +kernel
theorem d_M_valueOf_78 : decode m_M_valueOf.2.1 78 = .ok (.goto 130, 3) := by decide +kernel
theorem d_M_valueOf_81 : decode m_M_valueOf.2.1 81 = .ok (.aload_n 0, 1) := by decide +kernel
theorem d_M_valueOf_82 : decode m_M_valueOf.2.1 82 = .ok (.getfield 46, 3) := by decide +kernel
theorem d_M_valueOf_85 : decode m_M_valueOf.2.1 85 = .ok (.iload 4, 2) := by decide +kernel
theorem d_M_valueOf_87 : decode m_M_valueOf.2.1 87 = .ok (.iaload, 1) := by decide +kernel
theorem d_M_valueOf_88 : decode m_M_valueOf.2.1 88 = .ok (.iconst 2, 1) := by decide +kernel
theorem d_M_valueOf_89 : decode m_M_valueOf.2.1 89 = .ok (.if_icmp .ne 20, 3) := by decide +kernel
theorem d_M_valueOf_92 : decode m_M_valueOf.2.1 92 = .ok (.aload_n 0, 1) := by decide +kernel
theorem d_M_valueOf_93 : decode m_M_valueOf.2.1 93 = .ok (.iconst 0, 1) := by decide +kernel
theorem d_M_valueOf_94 : decode m_M_valueOf.2.1 94 = .ok (.aload_n 0, 1) := by decide +kernel
theorem d_M_valueOf_95 : decode m_M_valueOf.2.1 95 = .ok (.getfield 49, 3) := by decide +kernel
theorem d_M_valueOf_98 : decode m_M_valueOf.2.1 98 = .ok (.iload 4, 2) := by decide +kernel
theorem d_M_valueOf_100 : decode m_M_valueOf.2.1 100 = .ok (.iaload, 1) := by decide +kernel
theorem d_M_valueOf_101 : decode m_M_valueOf.2.1 101 = .ok (.invokevirtual 271, 3) := by decide +kernel
theorem d_M_valueOf_104 : decode m_M_valueOf.2.1 104 = .ok (.istore 5, 2) := by decide +kernel
theorem d_M_valueOf_106 : decode m_M_valueOf.2.1 106 = .ok (.goto 102, 3) := by decide +kernel
theorem d_M_valueOf_109 : decode m_M_valueOf.2.1 109 = .ok (.aload_n 0, 1) := by decide +kernel
theorem d_M_valueOf_110 : decode m_M_valueOf.2.1 110 = .ok (.getfield 46, 3) := by decide +kernel
theorem d_M_valueOf_113 : decode m_M_valueOf.2.1 113 = .ok (.iload 4, 2) := by decide +kernel
theorem d_M_valueOf_115 : decode m_M_valueOf.2.1 115 = .ok (.iaload, 1) := by decide +kernel
theorem d_M_valueOf_116 : decode m_M_valueOf.2.1 116 = .ok (.iconst 3, 1) := by decide +kernel
theorem d_M_valueOf_117 : decode m_M_valueOf.2.1 117 = .ok (.if_icmp .ne 14, 3) := by decide +kernel
theorem d_M_valueOf_120 : decode m_M_valueOf.2.1 120 = .ok (.aload_n 0, 1) := by decide +kernel
theorem d_M_valueOf_121 : decode m_M_valueOf.2.1 121 = .ok (.iconst 1, 1) := by decide +kernel
theorem d_M_valueOf_122 : decode m_M_valueOf.2.1 122 = .ok (.iconst 0, 1) := by decide +kernel
theorem d_M_valueOf_123 : decode m_M_valueOf.2.1 123 = .ok (.invokevirtual 271, 3) := by decide +kernel
theorem d_M_valueOf_126 : decode m_M_valueOf.2.1 126 = .ok (.istore 5, 2) := by decide +kernel
theorem d_M_valueOf_128 : decode m_M_valueOf.2.1 128 = .ok (.goto 80, 3) := by decide +kernel
theorem d_M_valueOf_131 : decode m_M_valueOf.2.1 131 = .ok (.aload_n 0, 1) := by decide +kernel
theorem d_M_valueOf_132 : decode m_M_valueOf.2.1 132 = .ok (.iconst 3, 1) := by decide +kernel
theorem d_M_valueOf_133 : decode m_M_valueOf.2.1 133 = .ok (.aload_n 0, 1) := by decide +kernel
theorem d_M_valueOf_134 : decode m_M_valueOf.2.1 134 = .ok (.getfield 49, 3) := by decide +kernel
theorem d_M_valueOf_137 : decode m_M_valueOf.2.1 137 = .ok (.iload 4, 2) := by decide +kernel
theorem d_M_valueOf_139 : decode m_M_valueOf.2.1 139 = .ok (.iaload, 1) := by decide +kernel
theorem d_M_valueOf_140 : decode m_M_valueOf.2.1 140 = .ok (.invokevirtual 271, 3) := by decide +kernel
theorem d_M_valueOf_143 : decode m_M_valueOf.2.1 143 = .ok (.istore 5, 2) := by decide +kernel
theorem d_M_valueOf_145 : decode m_M_valueOf.2.1 145 = .ok (.aload_n 0, 1) := by decide +kernel
theorem d_M_valueOf_146 : decode m_M_valueOf.2.1 146 = .ok (.getfield 94, 3) := by decide +kernel
theorem d_M_valueOf_149 : decode m_M_valueOf.2.1 149 = .ok (.iload 5, 2) := by decide +kernel
theorem d_M_valueOf_151 : decode m_M_valueOf.2.1 151 = .ok (.aload_n 0, 1) := by decide +kernel
theorem d_M_valueOf_152 : decode m_M_valueOf.2.1 152 = .ok (.getfield 52, 3) := by decide +kernel
theorem d_M_valueOf_155 : decode m_M_valueOf.2.1 155 = .ok (.iload 4, 2) := by decide +kernel
theorem d_M_valueOf_157 : decode m_M_valueOf.2.1 157 = .ok (.iaload, 1) := by decide +kernel
theorem d_M_valueOf_158 : decode m_M_valueOf.2.1 158 = .ok (.iastore, 1) := by decide +kernel
theorem d_M_valueOf_159 : decode m_M_valueOf.2.1 159 = .ok (.iconst 0, 1) := by decide +kernel
theorem d_M_valueOf_160 : decode m_M_valueOf.2.1 160 = .ok (.istore 6, 2) := by decide +kernel
theorem d_M_valueOf_162 : decode m_M_valueOf.2.1 162 = .ok (.iload 6, 2) := by decide +kernel
theorem d_M_valueOf_164 : decode m_M_valueOf.2.1 164 = .ok (.aload_n 0, 1) := by decide +kernel
theorem d_M_valueOf_165 : decode m_M_valueOf.2.1 165 = .ok (.getfield 52, 3) := by decide +kernel
theorem d_M_valueOf_168 : decode m_M_valueOf.2.1 168 = .ok (.iload 4, 2) := by decide +kernel
theorem d_M_valueOf_170 : decode m_M_valueOf.2.1 170 = .ok (.iaload, 1) := by decide +kernel
theorem d_M_valueOf_171 : decode m_M_valueOf.2.1 171 = .ok (.if_icmp .ge 37, 3) := by decide +kernel
theorem d_M_valueOf_174 : decode m_M_valueOf.2.1 174 = .ok (.iinc 3 (-1), 3) := by decide +kernel
theorem d_M_valueOf_177 : decode m_M_valueOf.2.1 177 = .ok (.aload_n 0, 1) := by decide +kernel
theorem d_M_valueOf_178 : decode m_M_valueOf.2.1 178 = .ok (.getfield 97, 3) := by decide +kernel
theorem d_M_valueOf_181 : decode m_M_valueOf.2.1 181 = .ok (.aload_n 0, 1) := by decide +kernel
theorem d_M_valueOf_182 : decode m_M_valueOf.2.1 182 = .ok (.getfield 262, 3) := by decide +kernel
theorem d_M_valueOf_185 : decode m_M_valueOf.2.1 185 = .ok (.aload_n 0, 1) := by decide +kernel
theorem d_M_valueOf_186 : decode m_M_valueOf.2.1 186 = .ok (.getfield 100, 3) := by decide +kernel
theorem d_M_valueOf_189 : decode m_M_valueOf.2.1 189 = .ok (.iload_n 3, 1) := by decide +kernel
theorem d_M_valueOf_190 : decode m_M_valueOf.2.1 190 = .ok (.iaload, 1) := by decide +kernel
theorem d_M_valueOf_191 : decode m_M_valueOf.2.1 191 = .ok (.iastore, 1) := by decide +kernel
theorem d_M_valueOf_192 : decode m_M_valueOf.2.1 192 = .ok (.aload_n 0, 1) := by decide +kernel
theorem d_M_valueOf_193 : decode m_M_valueOf.2.1 193 = .ok (.dup, 1) := by decide +kernel
theorem d_M_valueOf_194 : decode m_M_valueOf.2.1 194 = .ok (.getfield 262, 3) := by decide +kernel
theorem d_M_valueOf_197 : decode m_M_valueOf.2.1 197 = .ok (.iconst 1, 1) := by decide +kernel
theorem d_M_valueOf_198 : decode m_M_valueOf.2.1 198 = .ok (.iadd, 1) := by decide +kernel
theorem d_M_valueOf_199 : decode m_M_valueOf.2.1 199 = .ok (.putfield 262, 3) := by decide +kernel
theorem d_M_valueOf_202 : decode m_M_valueOf.2.1 202 = .ok (.iinc 6 1, 3) := by decide +kernel
theorem d_M_valueOf_205 : decode m_M_valueOf.2.1 205 = .ok (.goto (-43), 3) := by decide +kernel
theorem d_M_valueOf_208 : decode m_M_valueOf.2.1 208 = .ok (.aload_n 0, 1) := by decide +kernel
theorem d_M_valueOf_209 : decode m_M_valueOf.2.1 209 = .ok (.getfield 100, 3) := by decide +kernel
theorem d_M_valueOf_212 : decode m_M_valueOf.2.1 212 = .ok (.iload_n 3, 1) := by decide +kernel
theorem d_M_valueOf_213 : decode m_M_valueOf.2.1 213 = .ok (.iload 5, 2) := by decide +kernel
theorem d_M_valueOf_215 : decode m_M_valueOf.2.1 215 = .ok (.iastore, 1) := by decide +kernel
theorem d_M_valueOf_216 : decode m_M_valueOf.2.1 216 = .ok (.iinc 3 1, 3) := by decide +kernel
theorem d_M_valueOf_219 : decode m_M_valueOf.2.1 219 = .ok (.iinc 4 (-1), 3) := by decide +kernel
theorem d_M_valueOf_222 : decode m_M_valueOf.2.1 222 = .ok (.goto (-211), 3) := by decide +kernel
theorem d_M_valueOf_225 : decode m_M_valueOf.2.1 225 = .ok (.aload_n 0, 1) := by decide +kernel
theorem d_M_valueOf_226 : decode m_M_valueOf.2.1 226 = .ok (.getfield 100, 3) := by decide +kernel
theorem d_M_valueOf_229 : decode m_M_valueOf.2.1 229 = .ok (.iconst 0, 1) := by decide +kernel
theorem d_M_valueOf_230 : decode m_M_valueOf.2.1 230 = .ok (.iaload, 1) := by decide +kernel
theorem d_M_valueOf_231 : decode m_M_valueOf.2.1 231 = .ok (.ireturn, 1) := by decide +kernel
theorem d_M_further_0 : decode m_M_further.2.1 0 = .ok (.iload_n 1, 1) := by decide +kernel
theorem d_M_further_1 : decode m_M_further.2.1 1 = .ok (.istore_n 2, 1) := by decide +kernel
theorem d_M_further_2 : decode m_M_further.2.1 2 = .ok (.iload_n 2, 1) := by decide +kernel
theorem d_M_further_3 : decode m_M_further.2.1 3 = .ok (.ifCond .le 33, 3) := by decide +kernel
theorem d_M_further_6 : decode m_M_further.2.1 6 = .ok (.aload_n 0, 1) := by decide +kernel
theorem d_M_further_7 : decode m_M_further.2.1 7 = .ok (.getfield 115, 3) := by decide +kernel
theorem d_M_further_10 : decode m_M_further.2.1 10 = .ok (.iload_n 2, 1) := by decide +kernel
theorem d_M_further_11 : decode m_M_further.2.1 11 = .ok (.iconst 1, 1) := by decide +kernel
theorem d_M_further_12 : decode m_M_further.2.1 12 = .ok (.isub, 1) := by decide +kernel
theorem d_M_further_13 : decode m_M_further.2.1 13 = .ok (.iaload, 1) := by decide +kernel
theorem d_M_further_14 : decode m_M_further.2.1 14 = .ok (.aload_n 0, 1) := by decide +kernel
theorem d_M_further_15 : decode m_M_further.2.1 15 = .ok (.getfield 94, 3) := by decide +kernel
theorem d_M_further_18 : decode m_M_further.2.1 18 = .ok (.aload_n 0, 1) := by decide +kernel
theorem d_M_further_19 : decode m_M_further.2.1 19 = .ok (.getfield 112, 3) := by decide +kernel
theorem d_M_further_22 : decode m_M_further.2.1 22 = .ok (.iload_n 2, 1) := by decide +kernel
theorem d_M_further_23 : decode m_M_further.2.1 23 = .ok (.iconst 1, 1) := by decide +kernel
theorem d_M_further_24 : decode m_M_further.2.1 24 = .ok (.isub, 1) := by decide +kernel
theorem d_M_further_25 : decode m_M_further.2.1 25 = .ok (.iaload, 1) := by decide +kernel
theorem d_M_further_26 : decode m_M_further.2.1 26 = .ok (.iaload, 1) := by decide +kernel
theorem d_M_further_27 : decode m_M_further.2.1 27 = .ok (.if_icmp .ne 9, 3) := by decide +kernel
theorem d_M_further_30 : decode m_M_further.2.1 30 = .ok (.iinc 2 (-1), 3) := by decide +kernel
theorem d_M_further_33 : decode m_M_further.2.1 33 = .ok (.goto (-31), 3) := by decide +kernel
theorem d_M_further_36 : decode m_M_further.2.1 36 = .ok (.iload_n 2, 1) := by decide +kernel
theorem d_M_further_37 : decode m_M_further.2.1 37 = .ok (.ifCond .ne 5, 3) := by decide +kernel
theorem d_M_further_40 : decode m_M_further.2.1 40 = .ok (.iconst 0, 1) := by decide +kernel
theorem d_M_further_41 : decode m_M_further.2.1 41 = .ok (.ireturn, 1) := by decide +kernel
theorem d_M_further_42 : decode m_M_further.2.1 42 = .ok (.aload_n 0, 1) := by decide +kernel
theorem d_M_further_43 : decode m_M_further.2.1 43 = .ok (.getfield 112, 3) := by decide +kernel
theorem d_M_further_46 : decode m_M_further.2.1 46 = .ok (.iload_n 2, 1) := by decide +kernel
theorem d_M_further_47 : decode m_M_further.2.1 47 = .ok (.iconst 1, 1) := by decide +kernel
theorem d_M_further_48 : decode m_M_further.2.1 48 = .ok (.isub, 1) := by decide +kernel
theorem d_M_further_49 : decode m_M_further.2.1 49 = .ok (.iaload, 1) := by decide +kernel
theorem d_M_further_50 : decode m_M_further.2.1 50 = .ok (.istore_n 3, 1) := by decide +kernel
theorem d_M_further_51 : decode m_M_further.2.1 51 = .ok (.aload_n 0, 1) := by decide +kernel
theorem d_M_further_52 : decode m_M_further.2.1 52 = .ok (.getfield 112, 3) := by decide +kernel
theorem d_M_further_55 : decode m_M_further.2.1 55 = .ok (.iload_n 2, 1) := by decide +kernel
theorem d_M_further_56 : decode m_M_further.2.1 56 = .ok (.aload_n 0, 1) := by decide +kernel
theorem d_M_further_57 : decode m_M_further.2.1 57 = .ok (.aload_n 0, 1) := by decide +kernel
theorem d_M_further_58 : decode m_M_further.2.1 58 = .ok (.getfield 97, 3) := by decide +kernel
theorem d_M_further_61 : decode m_M_further.2.1 61 = .ok (.aload_n 0, 1) := by decide +kernel
theorem d_M_further_62 : decode m_M_further.2.1 62 = .ok (.getfield 91, 3) := by decide +kernel
theorem d_M_further_65 : decode m_M_further.2.1 65 = .ok (.iload_n 3, 1) := by decide +kernel
theorem d_M_further_66 : decode m_M_further.2.1 66 = .ok (.iaload, 1) := by decide +kernel
theorem d_M_further_67 : decode m_M_further.2.1 67 = .ok (.aload_n 0, 1) := by decide +kernel
theorem d_M_further_68 : decode m_M_further.2.1 68 = .ok (.getfield 115, 3) := by decide +kernel
theorem d_M_further_71 : decode m_M_further.2.1 71 = .ok (.iload_n 2, 1) := by decide +kernel
theorem d_M_further_72 : decode m_M_further.2.1 72 = .ok (.iconst 1, 1) := by decide +kernel
theorem d_M_further_73 : decode m_M_further.2.1 73 = .ok (.isub, 1) := by decide +kernel
theorem d_M_further_74 : decode m_M_further.2.1 74 = .ok (.iaload, 1) := by decide +kernel
theorem d_M_further_75 : decode m_M_further.2.1 75 = .ok (.iadd, 1) := by decide +kernel
theorem d_M_further_76 : decode m_M_further.2.1 76 = .ok (.iaload, 1) := by decide +kernel
theorem d_M_further_77 : decode m_M_further.2.1 77 = .ok (.invokevirtual 275, 3) := by decide +kernel
theorem d_M_further_80 : decode m_M_further.2.1 80 = .ok (.iastore, 1) := by decide +kernel
theorem d_M_further_81 : decode m_M_further.2.1 81 = .ok (.aload_n 0, 1) := by decide +kernel
theorem d_M_further_82 : decode m_M_further.2.1 82 = .ok (.getfield 115, 3) := by decide +kernel
theorem d_M_further_85 : decode m_M_further.2.1 85 = .ok (.iload_n 2, 1) := by decide +kernel
theorem d_M_further_86 : decode m_M_further.2.1 86 = .ok (.iconst 0, 1) := by decide +kernel
theorem d_M_further_87 : decode m_M_further.2.1 87 = .ok (.iastore, 1) := by decide +kernel
theorem d_M_further_88 : decode m_M_further.2.1 88 = .ok (.aload_n 0, 1) := by decide +kernel
theorem d_M_further_89 : decode m_M_further.2.1 89 = .ok (.getfield 115, 3) := by decide +kernel
theorem d_M_further_92 : decode m_M_further.2.1 92 = .ok (.iload_n 2, 1) := by decide +kernel
theorem d_M_further_93 : decode m_M_further.2.1 93 = .ok (.iconst 1, 1) := by decide +kernel
theorem d_M_further_94 : decode m_M_further.2.1 94 = .ok (.isub, 1) := by decide +kernel
theorem d_M_further_95 : decode m_M_further.2.1 95 = .ok (.dup2, 1) := by decide +kernel
theorem d_M_further_96 : decode m_M_further.2.1 96 = .ok (.iaload, 1) := by decide +kernel
theorem d_M_further_97 : decode m_M_further.2.1 97 = .ok (.iconst 1, 1) := by decide +kernel
theorem d_M_further_98 : decode m_M_further.2.1 98 = .ok (.iadd, 1) := by decide +kernel
theorem d_M_further_99 : decode m_M_further.2.1 99 = .ok (.iastore, 1) := by decide +kernel
theorem d_M_further_100 : decode m_M_further.2.1 100 = .ok (.iload_n 2, 1) := by decide +kernel
theorem d_M_further_101 : decode m_M_further.2.1 101 = .ok (.iconst 1, 1) := by decide +kernel
theorem d_M_further_102 : decode m_M_further.2.1 102 = .ok (.iadd, 1) := by decide +kernel
theorem d_M_further_103 : decode m_M_further.2.1 103 = .ok (.ireturn, 1) := by decide +kernel
theorem d_M_setOut_0 : decode m_M_setOut.2.1 0 = .ok (.aload_n 0, 1) := by decide +kernel
theorem d_M_setOut_1 : decode m_M_setOut.2.1 1 = .ok (.getfield 112, 3) := by decide +kernel
theorem d_M_setOut_4 : decode m_M_setOut.2.1 4 = .ok (.iconst 0, 1) := by decide +kernel
theorem d_M_setOut_5 : decode m_M_setOut.2.1 5 = .ok (.aload_n 0, 1) := by decide +kernel
theorem d_M_setOut_6 : decode m_M_setOut.2.1 6 = .ok (.iload_n 1, 1) := by decide +kernel
theorem d_M_setOut_7 : decode m_M_setOut.2.1 7 = .ok (.invokevirtual 275, 3) := by decide +kernel
theorem d_M_setOut_10 : decode m_M_setOut.2.1 10 = .ok (.iastore, 1) := by decide +kernel
theorem d_M_setOut_11 : decode m_M_setOut.2.1 11 = .ok (.aload_n 0, 1) := by decide +kernel
theorem d_M_setOut_12 : decode m_M_setOut.2.1 12 = .ok (.getfield 115, 3) := by decide +kernel
theorem d_M_setOut_15 : decode m_M_setOut.2.1 15 = .ok (.iconst 0, 1) := by decide +kernel
theorem d_M_setOut_16 : decode m_M_setOut.2.1 16 = .ok (.iconst 0, 1) := by decide +kernel
theorem d_M_setOut_17 : decode m_M_setOut.2.1 17 = .ok (.iastore, 1) := by decide +kernel
theorem d_M_setOut_18 : decode m_M_setOut.2.1 18 = .ok (.iconst 1, 1) := by decide +kernel
theorem d_M_setOut_19 : decode m_M_setOut.2.1 19 = .ok (.ireturn, 1) := by decide +kernel
theorem d_M_lies_0 : decode m_M_lies.2.1 0 = .ok (.aload_n 0, 1) := by decide +kernel
theorem d_M_lies_1 : decode m_M_lies.2.1 1 = .ok (.iload_n 2, 1) := by decide +kernel
theorem d_M_lies_2 : decode m_M_lies.2.1 2 = .ok (.invokevirtual 278, 3) := by decide +kernel
theorem d_M_lies_5 : decode m_M_lies.2.1 5 = .ok (.istore_n 3, 1) := by decide +kernel
theorem d_M_lies_6 : decode m_M_lies.2.1 6 = .ok (.iconst 0, 1) := by decide +kernel
theorem d_M_lies_7 : decode m_M_lies.2.1 7 = .ok (.istore 4, 2) := by decide +kernel
theorem d_M_lies_9 : decode m_M_lies.2.1 9 = .ok (.iload_n 3, 1) := by decide +kernel
theorem d_M_lies_10 : decode m_M_lies.2.1 10 = .ok (.ifCond .le 36, 3) := by decide +kernel
theorem d_M_lies_13 : decode m_M_lies.2.1 13 = .ok (.iload 4, 2) := by decide +kernel
theorem d_M_lies_15 : decode m_M_lies.2.1 15 = .ok (.ifCond .ne 31, 3) := by decide +kernel
theorem d_M_lies_18 : decode m_M_lies.2.1 18 = .ok (.aload_n 0, 1) := by decide +kernel
theorem d_M_lies_19 : decode m_M_lies.2.1 19 = .ok (.getfield 112, 3) := by decide +kernel
theorem d_M_lies_22 : decode m_M_lies.2.1 22 = .ok (.iload_n 3, 1) := by decide +kernel
theorem d_M_lies_23 : decode m_M_lies.2.1 23 = .ok (.iconst 1, 1) := by decide +kernel
theorem d_M_lies_24 : decode m_M_lies.2.1 24 = .ok (.isub, 1) := by decide +kernel
theorem d_M_lies_25 : decode m_M_lies.2.1 25 = .ok (.iaload, 1) := by decide +kernel
theorem d_M_lies_26 : decode m_M_lies.2.1 26 = .ok (.iload_n 1, 1) := by decide +kernel
theorem d_M_lies_27 : decode m_M_lies.2.1 27 = .ok (.if_icmp .ne 7, 3) := by decide +kernel
theorem d_M_lies_30 : decode m_M_lies.2.1 30 = .ok (.iconst 1, 1) := by decide +kernel
theorem d_M_lies_31 : decode m_M_lies.2.1 31 = .ok (.goto 4, 3) := by decide +kernel
theorem d_M_lies_34 : decode m_M_lies.2.1 34 = .ok (.iconst 0, 1) := by decide +kernel
theorem d_M_lies_35 : decode m_M_lies.2.1 35 = .ok (.istore 4, 2) := by decide +kernel
theorem d_M_lies_37 : decode m_M_lies.2.1 37 = .ok (.aload_n 0, 1) := by decide +kernel
theorem d_M_lies_38 : decode m_M_lies.2.1 38 = .ok (.iload_n 3, 1) := by decide +kernel
theorem d_M_lies_39 : decode m_M_lies.2.1 39 = .ok (.invokevirtual 281, 3) := by decide +kernel
theorem d_M_lies_42 : decode m_M_lies.2.1 42 = .ok (.istore_n 3, 1) := by decide +kernel
theorem d_M_lies_43 : decode m_M_lies.2.1 43 = .ok (.goto (-34), 3) := by decide +kernel
theorem d_M_lies_46 : decode m_M_lies.2.1 46 = .ok (.iload 4, 2) := by decide +kernel
theorem d_M_lies_48 : decode m_M_lies.2.1 48 = .ok (.ireturn, 1) := by decide +kernel
theorem d_M_isLarge_0 : decode m_M_isLarge.2.1 0 = .ok (.aload_n 0, 1) := by decide +kernel
theorem d_M_isLarge_1 : decode m_M_isLarge.2.1 1 = .ok (.iload_n 1, 1) := by decide +kernel
theorem d_M_isLarge_2 : decode m_M_isLarge.2.1 2 = .ok (.invokevirtual 278, 3) := by decide +kernel
theorem d_M_isLarge_5 : decode m_M_isLarge.2.1 5 = .ok (.istore_n 2, 1) := by decide +kernel
theorem d_M_isLarge_6 : decode m_M_isLarge.2.1 6 = .ok (.iconst 0, 1) := by decide +kernel
theorem d_M_isLarge_7 : decode m_M_isLarge.2.1 7 = .ok (.istore_n 3, 1) := by decide +kernel
theorem d_M_isLarge_8 : decode m_M_isLarge.2.1 8 = .ok (.iload_n 2, 1) := by decide +kernel
theorem d_M_isLarge_9 : decode m_M_isLarge.2.1 9 = .ok (.ifCond .le 22, 3) := by decide +kernel
theorem d_M_isLarge_12 : decode m_M_isLarge.2.1 12 = .ok (.iload_n 3, 1) := by decide +kernel
theorem d_M_isLarge_13 : decode m_M_isLarge.2.1 13 = .ok (.sipush 200, 3) := by decide +kernel
theorem d_M_isLarge_16 : decode m_M_isLarge.2.1 16 = .ok (.if_icmp .gt 15, 3) := by decide +kernel
theorem d_M_isLarge_19 : decode m_M_isLarge.2.1 19 = .ok (.iinc 3 1, 3) := by decide +kernel
theorem d_M_isLarge_22 : decode m_M_isLarge.2.1 22 = .ok (.aload_n 0, 1) := by decide +kernel
theorem d_M_isLarge_23 : decode m_M_isLarge.2.1 23 = .ok (.iload_n 2, 1) := by decide +kernel
theorem d_M_isLarge_24 : decode m_M_isLarge.2.1 24 = .ok (.invokevirtual 281, 3) := by decide +kernel
theorem d_M_isLarge_27 : decode m_M_isLarge.2.1 27 = .ok (.istore_n 2, 1) := by decide +kernel
theorem d_M_isLarge_28 : decode m_M_isLarge.2.1 28 = .ok (.goto (-20), 3) := by decide +kernel
theorem d_M_isLarge_31 : decode m_M_isLarge.2.1 31 = .ok (.iload_n 3, 1) := by decide +kernel
theorem d_M_isLarge_32 : decode m_M_isLarge.2.1 32 = .ok (.sipush 200, 3) := by decide +kernel
theorem d_M_isLarge_35 : decode m_M_isLarge.2.1 35 = .ok (.if_icmp .le 7, 3) := by decide +kernel
theorem d_M_isLarge_38 : decode m_M_isLarge.2.1 38 = .ok (.iconst 1, 1) := by decide +kernel
theorem d_M_isLarge_39 : decode m_M_isLarge.2.1 39 = .ok (.goto 4, 3) := by decide +kernel
theorem d_M_isLarge_42 : decode m_M_isLarge.2.1 42 = .ok (.iconst 0, 1) := by decide +kernel
theorem d_M_isLarge_43 : decode m_M_isLarge.2.1 43 = .ok (.ireturn, 1) := by decide +kernel
theorem d_M_nextPair_0 : decode m_M_nextPair.2.1 0 = .ok (.iload_n 1, 1) := by decide +kernel
theorem d_M_nextPair_1 : decode m_M_nextPair.2.1 1 = .ok (.istore_n 2, 1) := by decide +kernel
theorem d_M_nextPair_2 : decode m_M_nextPair.2.1 2 = .ok (.iload_n 2, 1) := by decide +kernel
theorem d_M_nextPair_3 : decode m_M_nextPair.2.1 3 = .ok (.ifCond .le 33, 3) := by decide +kernel
theorem d_M_nextPair_6 : decode m_M_nextPair.2.1 6 = .ok (.aload_n 0, 1) := by decide +kernel
theorem d_M_nextPair_7 : decode m_M_nextPair.2.1 7 = .ok (.getfield 109, 3) := by decide +kernel
theorem d_M_nextPair_10 : decode m_M_nextPair.2.1 10 = .ok (.iload_n 2, 1) := by decide +kernel
theorem d_M_nextPair_11 : decode m_M_nextPair.2.1 11 = .ok (.iconst 1, 1) := by decide +kernel
theorem d_M_nextPair_12 : decode m_M_nextPair.2.1 12 = .ok (.isub, 1) := by decide +kernel
theorem d_M_nextPair_13 : decode m_M_nextPair.2.1 13 = .ok (.iaload, 1) := by decide +kernel
theorem d_M_nextPair_14 : decode m_M_nextPair.2.1 14 = .ok (.aload_n 0, 1) := by decide +kernel
theorem d_M_nextPair_15 : decode m_M_nextPair.2.1 15 = .ok (.getfield 94, 3) := by decide +kernel
theorem d_M_nextPair_18 : decode m_M_nextPair.2.1 18 = .ok (.aload_n 0, 1) := by decide +kernel
theorem d_M_nextPair_19 : decode m_M_nextPair.2.1 19 = .ok (.getfield 103, 3) := by decide +kernel
theorem d_M_nextPair_22 : decode m_M_nextPair.2.1 22 = .ok (.iload_n 2, 1) := by decide +kernel
theorem d_M_nextPair_23 : decode m_M_nextPair.2.1 23 = .ok (.iconst 1, 1) := by decide +kernel
theorem d_M_nextPair_24 : decode m_M_nextPair.2.1 24 = .ok (.isub, 1) := by decide +kernel
theorem d_M_nextPair_25 : decode m_M_nextPair.2.1 25 = .ok (.iaload, 1) := by decide +kernel
theorem d_M_nextPair_26 : decode m_M_nextPair.2.1 26 = .ok (.iaload, 1) := by decide +kernel
theorem d_M_nextPair_27 : decode m_M_nextPair.2.1 27 = .ok (.if_icmp .ne 9, 3) := by decide +kernel
theorem d_M_nextPair_30 : decode m_M_nextPair.2.1 30 = .ok (.iinc 2 (-1), 3) := by decide +kernel
theorem d_M_nextPair_33 : decode m_M_nextPair.2.1 33 = .ok (.goto (-31), 3) := by decide +kernel
theorem d_M_nextPair_36 : decode m_M_nextPair.2.1 36 = .ok (.iload_n 2, 1) := by decide +kernel
theorem d_M_nextPair_37 : decode m_M_nextPair.2.1 37 = .ok (.ifCond .ne 5, 3) := by decide +kernel
theorem d_M_nextPair_40 : decode m_M_nextPair.2.1 40 = .ok (.iconst 0, 1) := by decide +kernel
theorem d_M_nextPair_41 : decode m_M_nextPair.2.1 41 = .ok (.ireturn, 1) := by decide +kernel
theorem d_M_nextPair_42 : decode m_M_nextPair.2.1 42 = .ok (.aload_n 0, 1) := by decide +kernel
theorem d_M_nextPair_43 : decode m_M_nextPair.2.1 43 = .ok (.getfield 109, 3) := by decide +kernel
theorem d_M_nextPair_46 : decode m_M_nextPair.2.1 46 = .ok (.iload_n 2, 1) := by decide +kernel
theorem d_M_nextPair_47 : decode m_M_nextPair.2.1 47 = .ok (.iconst 1, 1) := by decide +kernel
theorem d_M_nextPair_48 : decode m_M_nextPair.2.1 48 = .ok (.isub, 1) := by decide +kernel
theorem d_M_nextPair_49 : decode m_M_nextPair.2.1 49 = .ok (.iaload, 1) := by decide +kernel
theorem d_M_nextPair_50 : decode m_M_nextPair.2.1 50 = .ok (.istore_n 3, 1) := by decide +kernel
theorem d_M_nextPair_51 : decode m_M_nextPair.2.1 51 = .ok (.aload_n 0, 1) := by decide +kernel
theorem d_M_nextPair_52 : decode m_M_nextPair.2.1 52 = .ok (.getfield 109, 3) := by decide +kernel
theorem d_M_nextPair_55 : decode m_M_nextPair.2.1 55 = .ok (.iload_n 2, 1) := by decide +kernel
theorem d_M_nextPair_56 : decode m_M_nextPair.2.1 56 = .ok (.iconst 1, 1) := by decide +kernel
theorem d_M_nextPair_57 : decode m_M_nextPair.2.1 57 = .ok (.isub, 1) := by decide +kernel
theorem d_M_nextPair_58 : decode m_M_nextPair.2.1 58 = .ok (.dup2, 1) := by decide +kernel
theorem d_M_nextPair_59 : decode m_M_nextPair.2.1 59 = .ok (.iaload, 1) := by decide +kernel
theorem d_M_nextPair_60 : decode m_M_nextPair.2.1 60 = .ok (.iconst 1, 1) := by decide +kernel
theorem d_M_nextPair_61 : decode m_M_nextPair.2.1 61 = .ok (.iadd, 1) := by decide +kernel
theorem d_M_nextPair_62 : decode m_M_nextPair.2.1 62 = .ok (.iastore, 1) := by decide +kernel
theorem d_M_nextPair_63 : decode m_M_nextPair.2.1 63 = .ok (.aload_n 0, 1) := by decide +kernel
theorem d_M_nextPair_64 : decode m_M_nextPair.2.1 64 = .ok (.getfield 103, 3) := by decide +kernel
theorem d_M_nextPair_67 : decode m_M_nextPair.2.1 67 = .ok (.iload_n 2, 1) := by decide +kernel
theorem d_M_nextPair_68 : decode m_M_nextPair.2.1 68 = .ok (.aload_n 0, 1) := by decide +kernel
theorem d_M_nextPair_69 : decode m_M_nextPair.2.1 69 = .ok (.aload_n 0, 1) := by decide +kernel
theorem d_M_nextPair_70 : decode m_M_nextPair.2.1 70 = .ok (.getfield 97, 3) := by decide +kernel
theorem d_M_nextPair_73 : decode m_M_nextPair.2.1 73 = .ok (.aload_n 0, 1) := by decide +kernel
theorem d_M_nextPair_74 : decode m_M_nextPair.2.1 74 = .ok (.getfield 91, 3) := by decide +kernel
theorem d_M_nextPair_77 : decode m_M_nextPair.2.1 77 = .ok (.aload_n 0, 1) := by decide +kernel
theorem d_M_nextPair_78 : decode m_M_nextPair.2.1 78 = .ok (.getfield 103, 3) := by decide +kernel
theorem d_M_nextPair_81 : decode m_M_nextPair.2.1 81 = .ok (.iload_n 2, 1) := by decide +kernel
theorem d_M_nextPair_82 : decode m_M_nextPair.2.1 82 = .ok (.iconst 1, 1) := by decide +kernel
theorem d_M_nextPair_83 : decode m_M_nextPair.2.1 83 = .ok (.isub, 1) := by decide +kernel
theorem d_M_nextPair_84 : decode m_M_nextPair.2.1 84 = .ok (.iaload, 1) := by decide +kernel
theorem d_M_nextPair_85 : decode m_M_nextPair.2.1 85 = .ok (.iaload, 1) := by decide +kernel
theorem d_M_nextPair_86 : decode m_M_nextPair.2.1 86 = .ok (.iload_n 3, 1) := by decide +kernel
theorem d_M_nextPair_87 : decode m_M_nextPair.2.1 87 = .ok (.iadd, 1) := by decide +kernel
theorem d_M_nextPair_88 : decode m_M_nextPair.2.1 88 = .ok (.iaload, 1) := by decide +kernel
theorem d_M_nextPair_89 : decode m_M_nextPair.2.1 89 = .ok (.invokevirtual 275, 3) := by decide +kernel
theorem d_M_nextPair_92 : decode m_M_nextPair.2.1 92 = .ok (.iastore, 1) := by decide +kernel
theorem d_M_nextPair_93 : decode m_M_nextPair.2.1 93 = .ok (.aload_n 0, 1) := by decide +kernel
theorem d_M_nextPair_94 : decode m_M_nextPair.2.1 94 = .ok (.getfield 106, 3) := by decide +kernel
theorem d_M_nextPair_97 : decode m_M_nextPair.2.1 97 = .ok (.iload_n 2, 1) := by decide +kernel
theorem d_M_nextPair_98 : decode m_M_nextPair.2.1 98 = .ok (.aload_n 0, 1) := by decide +kernel
theorem d_M_nextPair_99 : decode m_M_nextPair.2.1 99 = .ok (.aload_n 0, 1) := by decide +kernel
theorem d_M_nextPair_100 : decode m_M_nextPair.2.1 100 = .ok (.getfield 97, 3) := by decide +kernel
theorem d_M_nextPair_103 : decode m_M_nextPair.2.1 103 = .ok (.aload_n 0, 1) := by decide +kernel
theorem d_M_nextPair_104 : decode m_M_nextPair.2.1 104 = .ok (.getfield 91, 3) := by decide +kernel
theorem d_M_nextPair_107 : decode m_M_nextPair.2.1 107 = .ok (.aload_n 0, 1) := by decide +kernel
theorem d_M_nextPair_108 : decode m_M_nextPair.2.1 108 = .ok (.getfield 106, 3) := by decide +kernel
theorem d_M_nextPair_111 : decode m_M_nextPair.2.1 111 = .ok (.iload_n 2, 1) := by decide +kernel
theorem d_M_nextPair_112 : decode m_M_nextPair.2.1 112 = .ok (.iconst 1, 1) := by decide +kernel
theorem d_M_nextPair_113 : decode m_M_nextPair.2.1 113 = .ok (.isub, 1) := by decide +kernel
theorem d_M_nextPair_114 : decode m_M_nextPair.2.1 114 = .ok (.iaload, 1) := by decide +kernel
theorem d_M_nextPair_115 : decode m_M_nextPair.2.1 115 = .ok (.iaload, 1) := by decide +kernel
theorem d_M_nextPair_116 : decode m_M_nextPair.2.1 116 = .ok (.iload_n 3, 1) := by decide +kernel
theorem d_M_nextPair_117 : decode m_M_nextPair.2.1 117 = .ok (.iadd, 1) := by decide +kernel
theorem d_M_nextPair_118 : decode m_M_nextPair.2.1 118 = .ok (.iaload, 1) := by decide +kernel
theorem d_M_nextPair_119 : decode m_M_nextPair.2.1 119 = .ok (.invokevirtual 275, 3) := by decide +kernel
theorem d_M_nextPair_122 : decode m_M_nextPair.2.1 122 = .ok (.iastore, 1) := by decide +kernel
theorem d_M_nextPair_123 : decode m_M_nextPair.2.1 123 = .ok (.aload_n 0, 1) := by decide +kernel
theorem d_M_nextPair_124 : decode m_M_nextPair.2.1 124 = .ok (.getfield 109, 3) := by decide +kernel
theorem d_M_nextPair_127 : decode m_M_nextPair.2.1 127 = .ok (.iload_n 2, 1) := by decide +kernel
theorem d_M_nextPair_128 : decode m_M_nextPair.2.1 128 = .ok (.iconst 0, 1) := by decide +kernel
theorem d_M_nextPair_129 : decode m_M_nextPair.2.1 129 = .ok (.iastore, 1) := by decide +kernel
theorem d_M_nextPair_130 : decode m_M_nextPair.2.1 130 = .ok (.iload_n 2, 1) := by decide +kernel
theorem d_M_nextPair_131 : decode m_M_nextPair.2.1 131 = .ok (.iconst 1, 1) := by decide +kernel
theorem d_M_nextPair_132 : decode m_M_nextPair.2.1 132 = .ok (.iadd, 1) := by decide +kernel
theorem d_M_nextPair_133 : decode m_M_nextPair.2.1 133 = .ok (.ireturn, 1) := by decide +kernel
theorem d_M_firstPair_0 : decode m_M_firstPair.2.1 0 = .ok (.aload_n 0, 1) := by decide +kernel
theorem d_M_firstPair_1 : decode m_M_firstPair.2.1 1 = .ok (.getfield 103, 3) := by decide +kernel
theorem d_M_firstPair_4 : decode m_M_firstPair.2.1 4 = .ok (.iconst 0, 1) := by decide +kernel
theorem d_M_firstPair_5 : decode m_M_firstPair.2.1 5 = .ok (.aload_n 0, 1) := by decide +kernel
theorem d_M_firstPair_6 : decode m_M_firstPair.2.1 6 = .ok (.iload_n 1, 1) := by decide +kernel
theorem d_M_firstPair_7 : decode m_M_firstPair.2.1 7 = .ok (.invokevirtual 275, 3) := by decide +kernel
theorem d_M_firstPair_10 : decode m_M_firstPair.2.1 10 = .ok (.iastore, 1) := by decide +kernel
theorem d_M_firstPair_11 : decode m_M_firstPair.2.1 11 = .ok (.aload_n 0, 1) := by decide +kernel
theorem d_M_firstPair_12 : decode m_M_firstPair.2.1 12 = .ok (.getfield 106, 3) := by decide +kernel
theorem d_M_firstPair_15 : decode m_M_firstPair.2.1 15 = .ok (.iconst 0, 1) := by decide +kernel
theorem d_M_firstPair_16 : decode m_M_firstPair.2.1 16 = .ok (.aload_n 0, 1) := by decide +kernel
theorem d_M_firstPair_17 : decode m_M_firstPair.2.1 17 = .ok (.iload_n 2, 1) := by decide +kernel
theorem d_M_firstPair_18 : decode m_M_firstPair.2.1 18 = .ok (.invokevirtual 275, 3) := by decide +kernel
theorem d_M_firstPair_21 : decode m_M_firstPair.2.1 21 = .ok (.iastore, 1) := by decide +kernel
theorem d_M_firstPair_22 : decode m_M_firstPair.2.1 22 = .ok (.aload_n 0, 1) := by decide +kernel
theorem d_M_firstPair_23 : decode m_M_firstPair.2.1 23 = .ok (.getfield 109, 3) := by decide +kernel
theorem d_M_firstPair_26 : decode m_M_firstPair.2.1 26 = .ok (.iconst 0, 1) := by decide +kernel
theorem d_M_firstPair_27 : decode m_M_firstPair.2.1 27 = .ok (.iconst 0, 1) := by decide +kernel
theorem d_M_firstPair_28 : decode m_M_firstPair.2.1 28 = .ok (.iastore, 1) := by decide +kernel
theorem d_M_firstPair_29 : decode m_M_firstPair.2.1 29 = .ok (.aload_n 0, 1) := by decide +kernel
theorem d_M_firstPair_30 : decode m_M_firstPair.2.1 30 = .ok (.iconst 0, 1) := by decide +kernel
theorem d_M_firstPair_31 : decode m_M_firstPair.2.1 31 = .ok (.putfield 284, 3) := by decide +kernel
theorem d_M_firstPair_34 : decode m_M_firstPair.2.1 34 = .ok (.iconst 1, 1) := by decide +kernel
theorem d_M_firstPair_35 : decode m_M_firstPair.2.1 35 = .ok (.ireturn, 1) := by decide +kernel
theorem d_M_isLevel_0 : decode m_M_isLevel.2.1 0 = .ok (.aload_n 0, 1) := by decide +kernel
theorem d_M_isLevel_1 : decode m_M_isLevel.2.1 1 = .ok (.getfield 85, 3) := by decide +kernel
theorem d_M_isLevel_4 : decode m_M_isLevel.2.1 4 = .ok (.iload_n 1, 1) := by decide +kernel
theorem d_M_isLevel_5 : decode m_M_isLevel.2.1 5 = .ok (.iaload, 1) := by decide +kernel
theorem d_M_isLevel_6 : decode m_M_isLevel.2.1 6 = .ok (.aload_n 0, 1) := by decide +kernel
theorem d_M_isLevel_7 : decode m_M_isLevel.2.1 7 = .ok (.getfield 85, 3) := by decide +kernel
theorem d_M_isLevel_10 : decode m_M_isLevel.2.1 10 = .ok (.iload_n 2, 1) := by decide +kernel
theorem d_M_isLevel_11 : decode m_M_isLevel.2.1 11 = .ok (.iaload, 1) := by decide +kernel
theorem d_M_isLevel_12 : decode m_M_isLevel.2.1 12 = .ok (.if_icmp .ne 37, 3) := by decide +kernel
theorem d_M_isLevel_15 : decode m_M_isLevel.2.1 15 = .ok (.aload_n 0, 1) := by decide +kernel
theorem d_M_isLevel_16 : decode m_M_isLevel.2.1 16 = .ok (.getfield 88, 3) := by decide +kernel
theorem d_M_isLevel_19 : decode m_M_isLevel.2.1 19 = .ok (.iload_n 1, 1) := by decide +kernel
theorem d_M_isLevel_20 : decode m_M_isLevel.2.1 20 = .ok (.iaload, 1) := by decide +kernel
theorem d_M_isLevel_21 : decode m_M_isLevel.2.1 21 = .ok (.aload_n 0, 1) := by decide +kernel
theorem d_M_isLevel_22 : decode m_M_isLevel.2.1 22 = .ok (.getfield 88, 3) := by decide +kernel
theorem d_M_isLevel_25 : decode m_M_isLevel.2.1 25 = .ok (.iload_n 2, 1) := by decide +kernel
theorem d_M_isLevel_26 : decode m_M_isLevel.2.1 26 = .ok (.iaload, 1) := by decide +kernel
theorem d_M_isLevel_27 : decode m_M_isLevel.2.1 27 = .ok (.if_icmp .ne 22, 3) := by decide +kernel
theorem d_M_isLevel_30 : decode m_M_isLevel.2.1 30 = .ok (.aload_n 0, 1) := by decide +kernel
theorem d_M_isLevel_31 : decode m_M_isLevel.2.1 31 = .ok (.getfield 94, 3) := by decide +kernel
theorem d_M_isLevel_34 : decode m_M_isLevel.2.1 34 = .ok (.iload_n 1, 1) := by decide +kernel
theorem d_M_isLevel_35 : decode m_M_isLevel.2.1 35 = .ok (.iaload, 1) := by decide +kernel
theorem d_M_isLevel_36 : decode m_M_isLevel.2.1 36 = .ok (.aload_n 0, 1) := by decide +kernel
theorem d_M_isLevel_37 : decode m_M_isLevel.2.1 37 = .ok (.getfield 94, 3) := by decide +kernel
theorem d_M_isLevel_40 : decode m_M_isLevel.2.1 40 = .ok (.iload_n 2, 1) := by decide +kernel
theorem d_M_isLevel_41 : decode m_M_isLevel.2.1 41 = .ok (.iaload, 1) := by decide +kernel
theorem d_M_isLevel_42 : decode m_M_isLevel.2.1 42 = .ok (.if_icmp .ne 7, 3) := by decide +kernel
theorem d_M_isLevel_45 : decode m_M_isLevel.2.1 45 = .ok (.iconst 1, 1) := by decide +kernel
theorem d_M_isLevel_46 : decode m_M_isLevel.2.1 46 = .ok (.goto 4, 3) := by decide +kernel
theorem d_M_isLevel_49 : decode m_M_isLevel.2.1 49 = .ok (.iconst 0, 1) := by decide +kernel
theorem d_M_isLevel_50 : decode m_M_isLevel.2.1 50 = .ok (.ireturn, 1) := by decide +kernel
theorem d_M_makeSame_0 : decode m_M_makeSame.2.1 0 = .ok (.aload_n 0, 1) := by decide +kernel
theorem d_M_makeSame_1 : decode m_M_makeSame.2.1 1 = .ok (.iload_n 1, 1) := by decide +kernel
theorem d_M_makeSame_2 : decode m_M_makeSame.2.1 2 = .ok (.iload_n 2, 1) := by decide +kernel
theorem d_M_makeSame_3 : decode m_M_makeSame.2.1 3 = .ok (.invokevirtual 287, 3) := by decide +kernel
theorem d_M_makeSame_6 : decode m_M_makeSame.2.1 6 = .ok (.istore_n 3, 1) := by decide +kernel
theorem d_M_makeSame_7 : decode m_M_makeSame.2.1 7 = .ok (.iload_n 3, 1) := by decide +kernel
theorem d_M_makeSame_8 : decode m_M_makeSame.2.1 8 = .ok (.ifCond .le 194, 3) := by decide +kernel
theorem d_M_makeSame_11 : decode m_M_makeSame.2.1 11 = .ok (.aload_n 0, 1) := by decide +kernel
theorem d_M_makeSame_12 : decode m_M_makeSame.2.1 12 = .ok (.getfield 103, 3) := by decide +kernel
theorem d_M_makeSame_15 : decode m_M_makeSame.2.1 15 = .ok (.iload_n 3, 1) := by decide +kernel
theorem d_M_makeSame_16 : decode m_M_makeSame.2.1 16 = .ok (.iconst 1, 1) := by decide +kernel
theorem d_M_makeSame_17 : decode m_M_makeSame.2.1 17 = .ok (.isub, 1) := by decide +kernel
theorem d_M_makeSame_18 : decode m_M_makeSame.2.1 18 = .ok (.iaload, 1) := by decide +kernel
theorem d_M_makeSame_19 : decode m_M_makeSame.2.1 19 = .ok (.istore 4, 2) := by decide +kernel
theorem d_M_makeSame_21 : decode m_M_makeSame.2.1 21 = .ok (.aload_n 0, 1) := by decide +kernel
theorem d_M_makeSame_22 : decode m_M_makeSame.2.1 22 = .ok (.getfield 106, 3) := by decide +kernel
theorem d_M_makeSame_25 : decode m_M_makeSame.2.1 25 = .ok (.iload_n 3, 1) := by decide +kernel
theorem d_M_makeSame_26 : decode m_M_makeSame.2.1 26 = .ok (.iconst 1, 1) := by decide +kernel
theorem d_M_makeSame_27 : decode m_M_makeSame.2.1 27 = .ok (.isub, 1) := by decide +kernel
theorem d_M_makeSame_28 : decode m_M_makeSame.2.1 28 = .ok (.iaload, 1) := by decide +kernel
theorem d_M_makeSame_29 : decode m_M_makeSame.2.1 29 = .ok (.istore 5, 2) := by decide +kernel
theorem d_M_makeSame_31 : decode m_M_makeSame.2.1 31 = .ok (.aload_n 0, 1) := by decide +kernel
theorem d_M_makeSame_32 : decode m_M_makeSame.2.1 32 = .ok (.dup, 1) := by decide +kernel
theorem d_M_makeSame_33 : decode m_M_makeSame.2.1 33 = .ok (.getfield 284, 3) := by decide +kernel
theorem d_M_makeSame_36 : decode m_M_makeSame.2.1 36 = .ok (.iconst 1, 1) := by decide +kernel
theorem d_M_makeSame_37 : decode m_M_makeSame.2.1 37 = .ok (.iadd, 1) := by decide +kernel
theorem d_M_makeSame_38 : decode m_M_makeSame.2.1 38 = .ok (.putfield 284, 3) := by decide +kernel
theorem d_M_makeSame_41 : decode m_M_makeSame.2.1 41 = .ok (.aload_n 0, 1) := by decide +kernel
theorem d_M_makeSame_42 : decode m_M_makeSame.2.1 42 = .ok (.getfield 284, 3) := by decide +kernel
theorem d_M_makeSame_45 : decode m_M_makeSame.2.1 45 = .ok (.sipush 1000, 3) := by decide +kernel
theorem d_M_makeSame_48 : decode m_M_makeSame.2.1 48 = .ok (.if_icmp .le 5, 3) := by decide +kernel
theorem d_M_makeSame_51 : decode m_M_makeSame.2.1 51 = .ok (.iconst 0, 1) := by decide +kernel
theorem d_M_makeSame_52 : decode m_M_makeSame.2.1 52 = .ok (.ireturn, 1) := by decide +kernel
theorem d_M_makeSame_53 : decode m_M_makeSame.2.1 53 = .ok (.aload_n 0, 1) := by decide +kernel
theorem d_M_makeSame_54 : decode m_M_makeSame.2.1 54 = .ok (.getfield 85, 3) := by decide +kernel
theorem d_M_makeSame_57 : decode m_M_makeSame.2.1 57 = .ok (.iload 4, 2) := by decide +kernel
theorem d_M_makeSame_59 : decode m_M_makeSame.2.1 59 = .ok (.iaload, 1) := by decide +kernel
theorem d_M_makeSame_60 : decode m_M_makeSame.2.1 60 = .ok (.iconst 2, 1) := by decide +kernel
theorem d_M_makeSame_61 : decode m_M_makeSame.2.1 61 = .ok (.if_icmp .eq 14, 3) := by decide +kernel
theorem d_M_makeSame_64 : decode m_M_makeSame.2.1 64 = .ok (.aload_n 0, 1) := by decide +kernel
theorem d_M_makeSame_65 : decode m_M_makeSame.2.1 65 = .ok (.getfield 85, 3) := by decide +kernel
theorem d_M_makeSame_68 : decode m_M_makeSame.2.1 68 = .ok (.iload 5, 2) := by decide +kernel
theorem d_M_makeSame_70 : decode m_M_makeSame.2.1 70 = .ok (.iaload, 1) := by decide +kernel
theorem d_M_makeSame_71 : decode m_M_makeSame.2.1 71 = .ok (.iconst 2, 1) := by decide +kernel
theorem d_M_makeSame_72 : decode m_M_makeSame.2.1 72 = .ok (.if_icmp .ne 108, 3) := by decide +kernel
theorem d_M_makeSame_75 : decode m_M_makeSame.2.1 75 = .ok (.aload_n 0, 1) := by decide +kernel
theorem d_M_makeSame_76 : decode m_M_makeSame.2.1 76 = .ok (.getfield 85, 3) := by decide +kernel
theorem d_M_makeSame_79 : decode m_M_makeSame.2.1 79 = .ok (.iload 4, 2) := by decide +kernel
theorem d_M_makeSame_81 : decode m_M_makeSame.2.1 81 = .ok (.iaload, 1) := by decide +kernel
theorem d_M_makeSame_82 : decode m_M_makeSame.2.1 82 = .ok (.iconst 2, 1) := by decide +kernel
theorem d_M_makeSame_83 : decode m_M_makeSame.2.1 83 = .ok (.if_icmp .ne 8, 3) := by decide +kernel
theorem d_M_makeSame_86 : decode m_M_makeSame.2.1 86 = .ok (.iload 4, 2) := by decide +kernel
theorem d_M_makeSame_88 : decode m_M_makeSame.2.1 88 = .ok (.goto 5, 3) := by decide +kernel
theorem d_M_makeSame_91 : decode m_M_makeSame.2.1 91 = .ok (.iload 5, 2) := by decide +kernel
theorem d_M_makeSame_93 : decode m_M_makeSame.2.1 93 = .ok (.istore 6, 2) := by decide +kernel
theorem d_M_makeSame_95 : decode m_M_makeSame.2.1 95 = .ok (.aload_n 0, 1) := by decide +kernel
theorem d_M_makeSame_96 : decode m_M_makeSame.2.1 96 = .ok (.getfield 85, 3) := by decide +kernel
theorem d_M_makeSame_99 : decode m_M_makeSame.2.1 99 = .ok (.iload 4, 2) := by decide +kernel
theorem d_M_makeSame_101 : decode m_M_makeSame.2.1 101 = .ok (.iaload, 1) := by decide +kernel
theorem d_M_makeSame_102 : decode m_M_makeSame.2.1 102 = .ok (.iconst 2, 1) := by decide +kernel
theorem d_M_makeSame_103 : decode m_M_makeSame.2.1 103 = .ok (.if_icmp .ne 8, 3) := by decide +kernel
theorem d_M_makeSame_106 : decode m_M_makeSame.2.1 106 = .ok (.iload 5, 2) := by decide +kernel
theorem d_M_makeSame_108 : decode m_M_makeSame.2.1 108 = .ok (.goto 5, 3) := by decide +kernel
theorem d_M_makeSame_111 : decode m_M_makeSame.2.1 111 = .ok (.iload 4, 2) := by decide +kernel
theorem d_M_makeSame_113 : decode m_M_makeSame.2.1 113 = .ok (.istore 7, 2) := by decide +kernel
theorem d_M_makeSame_115 : decode m_M_makeSame.2.1 115 = .ok (.aload_n 0, 1) := by decide +kernel
theorem d_M_makeSame_116 : decode m_M_makeSame.2.1 116 = .ok (.getfield 85, 3) := by decide +kernel
theorem d_M_makeSame_119 : decode m_M_makeSame.2.1 119 = .ok (.iload 7, 2) := by decide +kernel
theorem d_M_makeSame_121 : decode m_M_makeSame.2.1 121 = .ok (.iaload, 1) := by decide +kernel
theorem d_M_makeSame_122 : decode m_M_makeSame.2.1 122 = .ok (.iconst 3, 1) := by decide +kernel
theorem d_M_makeSame_123 : decode m_M_makeSame.2.1 123 = .ok (.if_icmp .ne 25, 3) := by decide +kernel
theorem d_M_makeSame_126 : decode m_M_makeSame.2.1 126 = .ok (.aload_n 0, 1) := by decide +kernel
theorem d_M_makeSame_127 : decode m_M_makeSame.2.1 127 = .ok (.iload 7, 2) := by decide +kernel
theorem d_M_makeSame_129 : decode m_M_makeSame.2.1 129 = .ok (.invokevirtual 290, 3) := by decide +kernel
theorem d_M_makeSame_132 : decode m_M_makeSame.2.1 132 = .ok (.ifCond .ne 14, 3) := by decide +kernel
theorem d_M_makeSame_135 : decode m_M_makeSame.2.1 135 = .ok (.aload_n 0, 1) := by decide +kernel
theorem d_M_makeSame_136 : decode m_M_makeSame.2.1 136 = .ok (.iload 6, 2) := by decide +kernel
theorem d_M_makeSame_138 : decode m_M_makeSame.2.1 138 = .ok (.iload 7, 2) := by decide +kernel
theorem d_M_makeSame_140 : decode m_M_makeSame.2.1 140 = .ok (.invokevirtual 293, 3) := by decide +kernel
theorem d_M_makeSame_143 : decode m_M_makeSame.2.1 143 = .ok (.ifCond .eq 5, 3) := by decide +kernel
theorem d_M_makeSame_146 : decode m_M_makeSame.2.1 146 = .ok (.iconst 0, 1) := by decide +kernel
theorem d_M_makeSame_147 : decode m_M_makeSame.2.1 147 = .ok (.ireturn, 1) := by decide +kernel
theorem d_M_makeSame_148 : decode m_M_makeSame.2.1 148 = .ok (.iload 4, 2) := by decide +kernel
theorem d_M_makeSame_150 : decode m_M_makeSame.2.1 150 = .ok (.iload 5, 2) := by decide +kernel
theorem d_M_makeSame_152 : decode m_M_makeSame.2.1 152 = .ok (.if_icmp .eq 22, 3) := by decide +kernel
theorem d_M_makeSame_155 : decode m_M_makeSame.2.1 155 = .ok (.aload_n 0, 1) := by decide +kernel
theorem d_M_makeSame_156 : decode m_M_makeSame.2.1 156 = .ok (.getfield 88, 3) := by decide +kernel
theorem d_M_makeSame_159 : decode m_M_makeSame.2.1 159 = .ok (.iload 6, 2) := by decide +kernel
theorem d_M_makeSame_161 : decode m_M_makeSame.2.1 161 = .ok (.iload 7, 2) := by decide +kernel
theorem d_M_makeSame_163 : decode m_M_makeSame.2.1 163 = .ok (.iastore, 1) := by decide +kernel
theorem d_M_makeSame_164 : decode m_M_makeSame.2.1 164 = .ok (.aload_n 0, 1) := by decide +kernel
theorem d_M_makeSame_165 : decode m_M_makeSame.2.1 165 = .ok (.dup, 1) := by decide +kernel
theorem d_M_makeSame_166 : decode m_M_makeSame.2.1 166 = .ok (.getfield 265, 3) := by decide +kernel
theorem d_M_makeSame_169 : decode m_M_makeSame.2.1 169 = .ok (.iconst 1, 1) := by decide +kernel
theorem d_M_makeSame_170 : decode m_M_makeSame.2.1 170 = .ok (.iadd, 1) := by decide +kernel
theorem d_M_makeSame_171 : decode m_M_makeSame.2.1 171 = .ok (.putfield 265, 3) := by decide +kernel
theorem d_M_makeSame_174 : decode m_M_makeSame.2.1 174 = .ok (.iinc 3 (-1), 3) := by decide +kernel
theorem d_M_makeSame_177 : decode m_M_makeSame.2.1 177 = .ok (.goto 16, 3) := by decide +kernel
theorem d_M_makeSame_180 : decode m_M_makeSame.2.1 180 = .ok (.aload_n 0, 1) := by decide +kernel
theorem d_M_makeSame_181 : decode m_M_makeSame.2.1 181 = .ok (.iload 4, 2) := by decide +kernel
theorem d_M_makeSame_183 : decode m_M_makeSame.2.1 183 = .ok (.iload 5, 2) := by decide +kernel
theorem d_M_makeSame_185 : decode m_M_makeSame.2.1 185 = .ok (.invokevirtual 296, 3) := by decide +kernel
theorem d_M_makeSame_188 : decode m_M_makeSame.2.1 188 = .ok (.ifCond .ne 5, 3) := by decide +kernel
theorem d_M_makeSame_191 : decode m_M_makeSame.2.1 191 = .ok (.iconst 0, 1) := by decide +kernel
theorem d_M_makeSame_192 : decode m_M_makeSame.2.1 192 = .ok (.ireturn, 1) := by decide +kernel
theorem d_M_makeSame_193 : decode m_M_makeSame.2.1 193 = .ok (.aload_n 0, 1) := by decide +kernel
theorem d_M_makeSame_194 : decode m_M_makeSame.2.1 194 = .ok (.iload_n 3, 1) := by decide +kernel
theorem d_M_makeSame_195 : decode m_M_makeSame.2.1 195 = .ok (.invokevirtual 299, 3) := by decide +kernel
theorem d_M_makeSame_198 : decode m_M_makeSame.2.1 198 = .ok (.istore_n 3, 1) := by decide +kernel
theorem d_M_makeSame_199 : decode m_M_makeSame.2.1 199 = .ok (.goto (-192), 3) := by decide +kernel
theorem d_M_makeSame_202 : decode m_M_makeSame.2.1 202 = .ok (.iconst 1, 1) := by decide +kernel
theorem d_M_makeSame_203 : decode m_M_makeSame.2.1 203 = .ok (.ireturn, 1) := by decide +kernel
theorem d_M_draw_0 : decode m_M_draw.2.1 0 = .ok (.aload_n 0, 1) := by decide +kernel
theorem d_M_draw_1 : decode m_M_draw.2.1 1 = .ok (.iconst 0, 1) := by decide +kernel
theorem d_M_draw_2 : decode m_M_draw.2.1 2 = .ok (.putfield 302, 3) := by decide +kernel
theorem d_M_draw_5 : decode m_M_draw.2.1 5 = .ok (.aload_n 0, 1) := by decide +kernel
theorem d_M_draw_6 : decode m_M_draw.2.1 6 = .ok (.iconst 0, 1) := by decide +kernel
theorem d_M_draw_7 : decode m_M_draw.2.1 7 = .ok (.putfield 305, 3) := by decide +kernel
theorem d_M_draw_10 : decode m_M_draw.2.1 10 = .ok (.aload_n 0, 1) := by decide +kernel
theorem d_M_draw_11 : decode m_M_draw.2.1 11 = .ok (.iload_n 1, 1) := by decide +kernel
theorem d_M_draw_12 : decode m_M_draw.2.1 12 = .ok (.invokevirtual 278, 3) := by decide +kernel
theorem d_M_draw_15 : decode m_M_draw.2.1 15 = .ok (.istore_n 2, 1) := by decide +kernel
theorem d_M_draw_16 : decode m_M_draw.2.1 16 = .ok (.aload_n 0, 1) := by decide +kernel
theorem d_M_draw_17 : decode m_M_draw.2.1 17 = .ok (.aload_n 0, 1) := by decide +kernel
theorem d_M_draw_18 : decode m_M_draw.2.1 18 = .ok (.getfield 112, 3) := by decide +kernel
theorem d_M_draw_21 : decode m_M_draw.2.1 21 = .ok (.iconst 0, 1) := by decide +kernel
theorem d_M_draw_22 : decode m_M_draw.2.1 22 = .ok (.iaload, 1) := by decide +kernel
theorem d_M_draw_23 : decode m_M_draw.2.1 23 = .ok (.iconst 0, 1) := by decide +kernel
theorem d_M_draw_24 : decode m_M_draw.2.1 24 = .ok (.invokevirtual 309, 3) := by decide +kernel
theorem d_M_draw_27 : decode m_M_draw.2.1 27 = .ok (.istore_n 3, 1) := by decide +kernel
theorem d_M_draw_28 : decode m_M_draw.2.1 28 = .ok (.iload_n 2, 1) := by decide +kernel
theorem d_M_draw_29 : decode m_M_draw.2.1 29 = .ok (.ifCond .le 87, 3) := by decide +kernel
theorem d_M_draw_32 : decode m_M_draw.2.1 32 = .ok (.iload_n 3, 1) := by decide +kernel
theorem d_M_draw_33 : decode m_M_draw.2.1 33 = .ok (.bipush 100, 2) := by decide +kernel
theorem d_M_draw_35 : decode m_M_draw.2.1 35 = .ok (.if_icmp .gt 81, 3) := by decide +kernel
theorem d_M_draw_38 : decode m_M_draw.2.1 38 = .ok (.aload_n 0, 1) := by decide +kernel
theorem d_M_draw_39 : decode m_M_draw.2.1 39 = .ok (.getfield 112, 3) := by decide +kernel
theorem d_M_draw_42 : decode m_M_draw.2.1 42 = .ok (.iload_n 2, 1) := by decide +kernel
theorem d_M_draw_43 : decode m_M_draw.2.1 43 = .ok (.iconst 1, 1) := by decide +kernel
theorem d_M_draw_44 : decode m_M_draw.2.1 44 = .ok (.isub, 1) := by decide +kernel
theorem d_M_draw_45 : decode m_M_draw.2.1 45 = .ok (.iaload, 1) := by decide +kernel
theorem d_M_draw_46 : decode m_M_draw.2.1 46 = .ok (.istore 4, 2) := by decide +kernel
theorem d_M_draw_48 : decode m_M_draw.2.1 48 = .ok (.aload_n 0, 1) := by decide +kernel
theorem d_M_draw_49 : decode m_M_draw.2.1 49 = .ok (.getfield 115, 3) := by decide +kernel
theorem d_M_draw_52 : decode m_M_draw.2.1 52 = .ok (.iload_n 2, 1) := by decide +kernel
theorem d_M_draw_53 : decode m_M_draw.2.1 53 = .ok (.iconst 1, 1) := by decide +kernel
theorem d_M_draw_54 : decode m_M_draw.2.1 54 = .ok (.isub, 1) := by decide +kernel
theorem d_M_draw_55 : decode m_M_draw.2.1 55 = .ok (.iaload, 1) := by decide +kernel
theorem d_M_draw_56 : decode m_M_draw.2.1 56 = .ok (.aload_n 0, 1) := by decide +kernel
theorem d_M_draw_57 : decode m_M_draw.2.1 57 = .ok (.getfield 94, 3) := by decide +kernel
theorem d_M_draw_60 : decode m_M_draw.2.1 60 = .ok (.iload 4, 2) := by decide +kernel
theorem d_M_draw_62 : decode m_M_draw.2.1 62 = .ok (.iaload, 1) := by decide +kernel
theorem d_M_draw_63 : decode m_M_draw.2.1 63 = .ok (.if_icmp .ge 26, 3) := by decide +kernel
theorem d_M_draw_66 : decode m_M_draw.2.1 66 = .ok (.aload_n 0, 1) := by decide +kernel
theorem d_M_draw_67 : decode m_M_draw.2.1 67 = .ok (.iload_n 2, 1) := by decide +kernel
theorem d_M_draw_68 : decode m_M_draw.2.1 68 = .ok (.invokevirtual 281, 3) := by decide +kernel
theorem d_M_draw_71 : decode m_M_draw.2.1 71 = .ok (.istore_n 2, 1) := by decide +kernel
theorem d_M_draw_72 : decode m_M_draw.2.1 72 = .ok (.aload_n 0, 1) := by decide +kernel
theorem d_M_draw_73 : decode m_M_draw.2.1 73 = .ok (.aload_n 0, 1) := by decide +kernel
theorem d_M_draw_74 : decode m_M_draw.2.1 74 = .ok (.getfield 112, 3) := by decide +kernel
theorem d_M_draw_77 : decode m_M_draw.2.1 77 = .ok (.iload_n 2, 1) := by decide +kernel
theorem d_M_draw_78 : decode m_M_draw.2.1 78 = .ok (.iconst 1, 1) := by decide +kernel
theorem d_M_draw_79 : decode m_M_draw.2.1 79 = .ok (.isub, 1) := by decide +kernel
theorem d_M_draw_80 : decode m_M_draw.2.1 80 = .ok (.iaload, 1) := by decide +kernel
theorem d_M_draw_81 : decode m_M_draw.2.1 81 = .ok (.iload_n 3, 1) := by decide +kernel
theorem d_M_draw_82 : decode m_M_draw.2.1 82 = .ok (.invokevirtual 309, 3) := by decide +kernel
theorem d_M_draw_85 : decode m_M_draw.2.1 85 = .ok (.istore_n 3, 1) := by decide +kernel
theorem d_M_draw_86 : decode m_M_draw.2.1 86 = .ok (.goto 27, 3) := by decide +kernel
theorem d_M_draw_89 : decode m_M_draw.2.1 89 = .ok (.aload_n 0, 1) := by decide +kernel
theorem d_M_draw_90 : decode m_M_draw.2.1 90 = .ok (.getfield 94, 3) := by decide +kernel
theorem d_M_draw_93 : decode m_M_draw.2.1 93 = .ok (.iload 4, 2) := by decide +kernel
theorem d_M_draw_95 : decode m_M_draw.2.1 95 = .ok (.iaload, 1) := by decide +kernel
theorem d_M_draw_96 : decode m_M_draw.2.1 96 = .ok (.ifCond .le 14, 3) := by decide +kernel
theorem d_M_draw_99 : decode m_M_draw.2.1 99 = .ok (.aload_n 0, 1) := by decide +kernel
theorem d_M_draw_100 : decode m_M_draw.2.1 100 = .ok (.getfield 16, 3) := by decide +kernel
theorem d_M_draw_103 : decode m_M_draw.2.1 103 = .ok (.iload_n 3, 1) := by decide +kernel
theorem d_M_draw_104 : decode m_M_draw.2.1 104 = .ok (.bipush 41, 2) := by decide +kernel
theorem d_M_draw_106 : decode m_M_draw.2.1 106 = .ok (.iastore, 1) := by decide +kernel
theorem d_M_draw_107 : decode m_M_draw.2.1 107 = .ok (.iinc 3 1, 3) := by decide +kernel
theorem d_M_draw_110 : decode m_M_draw.2.1 110 = .ok (.iinc 2 (-1), 3) := by decide +kernel
theorem d_M_draw_113 : decode m_M_draw.2.1 113 = .ok (.goto (-85), 3) := by decide +kernel
theorem d_M_draw_116 : decode m_M_draw.2.1 116 = .ok (.iload_n 3, 1) := by decide +kernel
theorem d_M_draw_117 : decode m_M_draw.2.1 117 = .ok (.bipush 100, 2) := by decide +kernel
theorem d_M_draw_119 : decode m_M_draw.2.1 119 = .ok (.if_icmp .le 9, 3) := by decide +kernel
theorem d_M_draw_122 : decode m_M_draw.2.1 122 = .ok (.sipush (-200), 3) := by decide +kernel
theorem d_M_draw_125 : decode m_M_draw.2.1 125 = .ok (.goto 4, 3) := by decide +kernel
theorem d_M_draw_128 : decode m_M_draw.2.1 128 = .ok (.iload_n 3, 1) := by decide +kernel
theorem d_M_draw_129 : decode m_M_draw.2.1 129 = .ok (.ireturn, 1) := by decide +kernel
theorem d_M_drawOne_0 : decode m_M_drawOne.2.1 0 = .ok (.iload_n 2, 1) := by decide +kernel
theorem d_M_drawOne_1 : decode m_M_drawOne.2.1 1 = .ok (.istore_n 3, 1) := by decide +kernel
theorem d_M_drawOne_2 : decode m_M_drawOne.2.1 2 = .ok (.aload_n 0, 1) := by decide +kernel
theorem d_M_drawOne_3 : decode m_M_drawOne.2.1 3 = .ok (.getfield 166, 3) := by decide +kernel
theorem d_M_drawOne_6 : decode m_M_drawOne.2.1 6 = .ok (.aload_n 0, 1) := by decide +kernel
theorem d_M_drawOne_7 : decode m_M_drawOne.2.1 7 = .ok (.getfield 302, 3) := by decide +kernel
theorem d_M_drawOne_10 : decode m_M_drawOne.2.1 10 = .ok (.aload_n 0, 1) := by decide +kernel
theorem d_M_drawOne_11 : decode m_M_drawOne.2.1 11 = .ok (.getfield 85, 3) := by decide +kernel
theorem d_M_drawOne_14 : decode m_M_drawOne.2.1 14 = .ok (.iload_n 1, 1) := by decide +kernel
theorem d_M_drawOne_15 : decode m_M_drawOne.2.1 15 = .ok (.iaload, 1) := by decide +kernel
theorem d_M_drawOne_16 : decode m_M_drawOne.2.1 16 = .ok (.ifCond .ne 7, 3) := by decide +kernel
theorem d_M_drawOne_19 : decode m_M_drawOne.2.1 19 = .ok (.iconst 2, 1) := by decide +kernel
theorem d_M_drawOne_20 : decode m_M_drawOne.2.1 20 = .ok (.goto 18, 3) := by decide +kernel
theorem d_M_drawOne_23 : decode m_M_drawOne.2.1 23 = .ok (.aload_n 0, 1) := by decide +kernel
theorem d_M_drawOne_24 : decode m_M_drawOne.2.1 24 = .ok (.getfield 85, 3) := by decide +kernel
theorem d_M_drawOne_27 : decode m_M_drawOne.2.1 27 = .ok (.iload_n 1, 1) := by decide +kernel
theorem d_M_drawOne_28 : decode m_M_drawOne.2.1 28 = .ok (.iaload, 1) := by decide +kernel
theorem d_M_drawOne_29 : decode m_M_drawOne.2.1 29 = .ok (.iconst 1, 1) := by decide +kernel
theorem d_M_drawOne_30 : decode m_M_drawOne.2.1 30 = .ok (.if_icmp .ne 7, 3) := by decide +kernel
theorem d_M_drawOne_33 : decode m_M_drawOne.2.1 33 = .ok (.iconst 3, 1) := by decide +kernel
theorem d_M_drawOne_34 : decode m_M_drawOne.2.1 34 = .ok (.goto 4, 3) := by decide +kernel
theorem d_M_drawOne_37 : decode m_M_drawOne.2.1 37 = .ok (.iconst 5, 1) := by decide +kernel
theorem d_M_drawOne_38 : decode m_M_drawOne.2.1 38 = .ok (.iastore, 1) := by decide +kernel
theorem d_M_drawOne_39 : decode m_M_drawOne.2.1 39 = .ok (.aload_n 0, 1) := by decide +kernel
theorem d_M_drawOne_40 : decode m_M_drawOne.2.1 40 = .ok (.getfield 169, 3) := by decide +kernel
theorem d_M_drawOne_43 : decode m_M_drawOne.2.1 43 = .ok (.aload_n 0, 1) := by decide +kernel
theorem d_M_drawOne_44 : decode m_M_drawOne.2.1 44 = .ok (.getfield 302, 3) := by decide +kernel
theorem d_M_drawOne_47 : decode m_M_drawOne.2.1 47 = .ok (.aload_n 0, 1) := by decide +kernel
theorem d_M_drawOne_48 : decode m_M_drawOne.2.1 48 = .ok (.getfield 88, 3) := by decide +kernel
theorem d_M_drawOne_51 : decode m_M_drawOne.2.1 51 = .ok (.iload_n 1, 1) := by decide +kernel
theorem d_M_drawOne_52 : decode m_M_drawOne.2.1 52 = .ok (.iaload, 1) := by decide +kernel
theorem d_M_drawOne_53 : decode m_M_drawOne.2.1 53 = .ok (.iastore, 1) := by decide +kernel
theorem d_M_drawOne_54 : decode m_M_drawOne.2.1 54 = .ok (.aload_n 0, 1) := by decide +kernel
theorem d_M_drawOne_55 : decode m_M_drawOne.2.1 55 = .ok (.getfield 172, 3) := by decide +kernel
theorem d_M_drawOne_58 : decode m_M_drawOne.2.1 58 = .ok (.aload_n 0, 1) := by decide +kernel
theorem d_M_drawOne_59 : decode m_M_drawOne.2.1 59 = .ok (.getfield 302, 3) := by decide +kernel
theorem d_M_drawOne_62 : decode m_M_drawOne.2.1 62 = .ok (.aload_n 0, 1) := by decide +kernel
theorem d_M_drawOne_63 : decode m_M_drawOne.2.1 63 = .ok (.getfield 94, 3) := by decide +kernel
theorem d_M_drawOne_66 : decode m_M_drawOne.2.1 66 = .ok (.iload_n 1, 1) := by decide +kernel
theorem d_M_drawOne_67 : decode m_M_drawOne.2.1 67 = .ok (.iaload, 1) := by decide +kernel
theorem d_M_drawOne_68 : decode m_M_drawOne.2.1 68 = .ok (.iastore, 1) := by decide +kernel
theorem d_M_drawOne_69 : decode m_M_drawOne.2.1 69 = .ok (.aload_n 0, 1) := by decide +kernel
theorem d_M_drawOne_70 : decode m_M_drawOne.2.1 70 = .ok (.aload_n 0, 1) := by decide +kernel
theorem d_M_drawOne_71 : decode m_M_drawOne.2.1 71 = .ok (.getfield 302, 3) := by decide +kernel
theorem d_M_drawOne_74 : decode m_M_drawOne.2.1 74 = .ok (.bipush 100, 2) := by decide +kernel
theorem d_M_drawOne_76 : decode m_M_drawOne.2.1 76 = .ok (.if_icmp .ge 12, 3) := by decide +kernel
theorem d_M_drawOne_79 : decode m_M_drawOne.2.1 79 = .ok (.aload_n 0, 1) := by decide +kernel
theorem d_M_drawOne_80 : decode m_M_drawOne.2.1 80 = .ok (.getfield 302, 3) := by decide +kernel
theorem d_M_drawOne_83 : decode m_M_drawOne.2.1 83 = .ok (.iconst 1, 1) := by decide +kernel
theorem d_M_drawOne_84 : decode m_M_drawOne.2.1 84 = .ok (.iadd, 1) := by decide +kernel
theorem d_M_drawOne_85 : decode m_M_drawOne.2.1 85 = .ok (.goto 7, 3) := by decide +kernel
theorem d_M_drawOne_88 : decode m_M_drawOne.2.1 88 = .ok (.aload_n 0, 1) := by decide +kernel
theorem d_M_drawOne_89 : decode m_M_drawOne.2.1 89 = .ok (.getfield 302, 3) := by decide +kernel
theorem d_M_drawOne_92 : decode m_M_drawOne.2.1 92 = .ok (.putfield 302, 3) := by decide +kernel
theorem d_M_drawOne_95 : decode m_M_drawOne.2.1 95 = .ok (.aload_n 0, 1) := by decide +kernel
theorem d_M_drawOne_96 : decode m_M_drawOne.2.1 96 = .ok (.aload_n 0, 1) := by decide +kernel
theorem d_M_drawOne_97 : decode m_M_drawOne.2.1 97 = .ok (.getfield 305, 3) := by decide +kernel
theorem d_M_drawOne_100 : decode m_M_drawOne.2.1 100 = .ok (.ifCond .ne 13, 3) := by decide +kernel
theorem d_M_drawOne_103 : decode m_M_drawOne.2.1 103 = .ok (.aload_n 0, 1) := by decide +kernel
theorem d_M_drawOne_104 : decode m_M_drawOne.2.1 104 = .ok (.getfield 85, 3) := by decide +kernel
theorem d_M_drawOne_107 : decode m_M_drawOne.2.1 107 = .ok (.iload_n 1, 1) := by decide +kernel
theorem d_M_drawOne_108 : decode m_M_drawOne.2.1 108 = .ok (.iaload, 1) := by decide +kernel
theorem d_M_drawOne_109 : decode m_M_drawOne.2.1 109 = .ok (.iconst 2, 1) := by decide +kernel
theorem d_M_drawOne_110 : decode m_M_drawOne.2.1 110 = .ok (.if_icmp .ne 7, 3) := by decide +kernel
theorem d_M_drawOne_113 : decode m_M_drawOne.2.1 113 = .ok (.iconst 1, 1) := by decide +kernel
theorem d_M_drawOne_114 : decode m_M_drawOne.2.1 114 = .ok (.goto 4, 3) := by decide +kernel
theorem d_M_drawOne_117 : decode m_M_drawOne.2.1 117 = .ok (.iconst 0, 1) := by decide +kernel
theorem d_M_drawOne_118 : decode m_M_drawOne.2.1 118 = .ok (.putfield 305, 3) := by decide +kernel
theorem d_M_drawOne_121 : decode m_M_drawOne.2.1 121 = .ok (.aload_n 0, 1) := by decide +kernel
theorem d_M_drawOne_122 : decode m_M_drawOne.2.1 122 = .ok (.getfield 85, 3) := by decide +kernel
theorem d_M_drawOne_125 : decode m_M_drawOne.2.1 125 = .ok (.iload_n 1, 1) := by decide +kernel
theorem d_M_drawOne_126 : decode m_M_drawOne.2.1 126 = .ok (.iaload, 1) := by decide +kernel
theorem d_M_drawOne_127 : decode m_M_drawOne.2.1 127 = .ok (.ifCond .eq 77, 3) := by decide +kernel
theorem d_M_drawOne_130 : decode m_M_drawOne.2.1 130 = .ok (.aload_n 0, 1) := by decide +kernel
theorem d_M_drawOne_131 : decode m_M_drawOne.2.1 131 = .ok (.getfield 16, 3) := by decide +kernel
theorem d_M_drawOne_134 : decode m_M_drawOne.2.1 134 = .ok (.iload_n 3, 1) := by decide +kernel
theorem d_M_drawOne_135 : decode m_M_drawOne.2.1 135 = .ok (.aload_n 0, 1) := by decide +kernel
theorem d_M_drawOne_136 : decode m_M_drawOne.2.1 136 = .ok (.getfield 85, 3) := by decide +kernel
theorem d_M_drawOne_139 : decode m_M_drawOne.2.1 139 = .ok (.iload_n 1, 1) := by decide +kernel
theorem d_M_drawOne_140 : decode m_M_drawOne.2.1 140 = .ok (.iaload, 1) := by decide +kernel
theorem d_M_drawOne_141 : decode m_M_drawOne.2.1 141 = .ok (.iconst 1, 1) := by decide +kernel
theorem d_M_drawOne_142 : decode m_M_drawOne.2.1 142 = .ok (.if_icmp .ne 8, 3) := by decide +kernel
theorem d_M_drawOne_145 : decode m_M_drawOne.2.1 145 = .ok (.bipush 35, 2) := by decide +kernel
theorem d_M_drawOne_147 : decode m_M_drawOne.2.1 147 = .ok (.goto 27, 3) := by decide +kernel
theorem d_M_drawOne_150 : decode m_M_drawOne.2.1 150 = .ok (.aload_n 0, 1) := by decide +kernel
theorem d_M_drawOne_151 : decode m_M_drawOne.2.1 151 = .ok (.getfield 85, 3) := by decide +kernel
theorem d_M_drawOne_154 : decode m_M_drawOne.2.1 154 = .ok (.iload_n 1, 1) := by decide +kernel
theorem d_M_drawOne_155 : decode m_M_drawOne.2.1 155 = .ok (.iaload, 1) := by decide +kernel
theorem d_M_drawOne_156 : decode m_M_drawOne.2.1 156 = .ok (.iconst 2, 1) := by decide +kernel
theorem d_M_drawOne_157 : decode m_M_drawOne.2.1 157 = .ok (.if_icmp .ne 8, 3) := by decide +kernel
theorem d_M_drawOne_160 : decode m_M_drawOne.2.1 160 = .ok (.bipush 95, 2) := by decide +kernel
theorem d_M_drawOne_162 : decode m_M_drawOne.2.1 162 = .ok (.goto 12, 3) := by decide +kernel
theorem d_M_drawOne_165 : decode m_M_drawOne.2.1 165 = .ok (.bipush 65, 2) := by decide +kernel
theorem d_M_drawOne_167 : decode m_M_drawOne.2.1 167 = .ok (.aload_n 0, 1) := by decide +kernel
theorem d_M_drawOne_168 : decode m_M_drawOne.2.1 168 = .ok (.getfield 88, 3) := by decide +kernel
theorem d_M_drawOne_171 : decode m_M_drawOne.2.1 171 = .ok (.iload_n 1, 1) := by decide +kernel
theorem d_M_drawOne_172 : decode m_M_drawOne.2.1 172 = .ok (.iaload, 1) := by decide +kernel
theorem d_M_drawOne_173 : decode m_M_drawOne.2.1 173 = .ok (.iadd, 1) := by decide +kernel
theorem d_M_drawOne_174 : decode m_M_drawOne.2.1 174 = .ok (.iastore, 1) := by decide +kernel
theorem d_M_drawOne_175 : decode m_M_drawOne.2.1 175 = .ok (.aload_n 0, 1) := by decide +kernel
theorem d_M_drawOne_176 : decode m_M_drawOne.2.1 176 = .ok (.getfield 16, 3) := by decide +kernel
theorem d_M_drawOne_179 : decode m_M_drawOne.2.1 179 = .ok (.iload_n 3, 1) := by decide +kernel
theorem d_M_drawOne_180 : decode m_M_drawOne.2.1 180 = .ok (.iconst 1, 1) := by decide +kernel
theorem d_M_drawOne_181 : decode m_M_drawOne.2.1 181 = .ok (.iadd, 1) := by decide +kernel
theorem d_M_drawOne_182 : decode m_M_drawOne.2.1 182 = .ok (.bipush 40, 2) := by decide +kernel
theorem d_M_drawOne_184 : decode m_M_drawOne.2.1 184 = .ok (.iastore, 1) := by decide +kernel
theorem d_M_drawOne_185 : decode m_M_drawOne.2.1 185 = .ok (.aload_n 0, 1) := by decide +kernel
theorem d_M_drawOne_186 : decode m_M_drawOne.2.1 186 = .ok (.getfield 94, 3) := by decide +kernel
theorem d_M_drawOne_189 : decode m_M_drawOne.2.1 189 = .ok (.iload_n 1, 1) := by decide +kernel
theorem d_M_drawOne_190 : decode m_M_drawOne.2.1 190 = .ok (.iaload, 1) := by decide +kernel
theorem d_M_drawOne_191 : decode m_M_drawOne.2.1 191 = .ok (.ifCond .le 9, 3) := by decide +kernel
theorem d_M_drawOne_194 : decode m_M_drawOne.2.1 194 = .ok (.iload_n 3, 1) := by decide +kernel
theorem d_M_drawOne_195 : decode m_M_drawOne.2.1 195 = .ok (.iconst 2, 1) := by decide +kernel
theorem d_M_drawOne_196 : decode m_M_drawOne.2.1 196 = .ok (.iadd, 1) := by decide +kernel
theorem d_M_drawOne_197 : decode m_M_drawOne.2.1 197 = .ok (.goto 6, 3) := by decide +kernel
theorem d_M_drawOne_200 : decode m_M_drawOne.2.1 200 = .ok (.iload_n 3, 1) := by decide +kernel
theorem d_M_drawOne_201 : decode m_M_drawOne.2.1 201 = .ok (.iconst 1, 1) := by decide +kernel
theorem d_M_drawOne_202 : decode m_M_drawOne.2.1 202 = .ok (.iadd, 1) := by decide +kernel
theorem d_M_drawOne_203 : decode m_M_drawOne.2.1 203 = .ok (.ireturn, 1) := by decide +kernel
theorem d_M_drawOne_204 : decode m_M_drawOne.2.1 204 = .ok (.aload_n 0, 1) := by decide +kernel
theorem d_M_drawOne_205 : decode m_M_drawOne.2.1 205 = .ok (.getfield 88, 3) := by decide +kernel
theorem d_M_drawOne_208 : decode m_M_drawOne.2.1 208 = .ok (.iload_n 1, 1) := by decide +kernel
theorem d_M_drawOne_209 : decode m_M_drawOne.2.1 209 = .ok (.iaload, 1) := by decide +kernel
theorem d_M_drawOne_210 : decode m_M_drawOne.2.1 210 = .ok (.i2l, 1) := by decide +kernel
theorem d_M_drawOne_211 : decode m_M_drawOne.2.1 211 = .ok (.lstore 4, 2) := by decide +kernel
theorem d_M_drawOne_213 : decode m_M_drawOne.2.1 213 = .ok (.lload 4, 2) := by decide +kernel
theorem d_M_drawOne_215 : decode m_M_drawOne.2.1 215 = .ok (.lconst 0, 1) := by decide +kernel
theorem d_M_drawOne_216 : decode m_M_drawOne.2.1 216 = .ok (.lcmp, 1) := by decide +kernel
theorem d_M_drawOne_217 : decode m_M_drawOne.2.1 217 = .ok (.ifCond .ge 19, 3) := by decide +kernel
theorem d_M_drawOne_220 : decode m_M_drawOne.2.1 220 = .ok (.aload_n 0, 1) := by decide +kernel
theorem d_M_drawOne_221 : decode m_M_drawOne.2.1 221 = .ok (.getfield 16, 3) := by decide +kernel
theorem d_M_drawOne_224 : decode m_M_drawOne.2.1 224 = .ok (.iload_n 3, 1) := by decide +kernel
theorem d_M_drawOne_225 : decode m_M_drawOne.2.1 225 = .ok (.bipush 45, 2) := by decide +kernel
theorem d_M_drawOne_227 : decode m_M_drawOne.2.1 227 = .ok (.iastore, 1) := by decide +kernel
theorem d_M_drawOne_228 : decode m_M_drawOne.2.1 228 = .ok (.iinc 3 1, 3) := by decide +kernel
theorem d_M_drawOne_231 : decode m_M_drawOne.2.1 231 = .ok (.lload 4, 2) := by decide +kernel
theorem d_M_drawOne_233 : decode m_M_drawOne.2.1 233 = .ok (.lneg, 1) := by decide +kernel
theorem d_M_drawOne_234 : decode m_M_drawOne.2.1 234 = .ok (.lstore 4, 2) := by decide +kernel
theorem d_M_drawOne_236 : decode m_M_drawOne.2.1 236 = .ok (.lconst 1, 1) := by decide +kernel
theorem d_M_drawOne_237 : decode m_M_drawOne.2.1 237 = .ok (.lstore 6, 2) := by decide +kernel
theorem d_M_drawOne_239 : decode m_M_drawOne.2.1 239 = .ok (.lload 6, 2) := by decide +kernel
theorem d_M_drawOne_241 : decode m_M_drawOne.2.1 241 = .ok (.ldc2_w 312, 3) := by decide +kernel
theorem d_M_drawOne_244 : decode m_M_drawOne.2.1 244 = .ok (.lmul, 1) := by decide +kernel
theorem d_M_drawOne_245 : decode m_M_drawOne.2.1 245 = .ok (.lload 4, 2) := by decide +kernel
theorem d_M_drawOne_247 : decode m_M_drawOne.2.1 247 = .ok (.lcmp, 1) := by decide +kernel
theorem d_M_drawOne_248 : decode m_M_drawOne.2.1 248 = .ok (.ifCond .gt 14, 3) := by decide +kernel
theorem d_M_drawOne_251 : decode m_M_drawOne.2.1 251 = .ok (.lload 6, 2) := by decide +kernel
theorem d_M_drawOne_253 : decode m_M_drawOne.2.1 253 = .ok (.ldc2_w 312, 3) := by decide +kernel
theorem d_M_drawOne_256 : decode m_M_drawOne.2.1 256 = .ok (.lmul, 1) := by decide +kernel
theorem d_M_drawOne_257 : decode m_M_drawOne.2.1 257 = .ok (.lstore 6, 2) := by decide +kernel
theorem d_M_drawOne_259 : decode m_M_drawOne.2.1 259 = .ok (.goto (-20), 3) := by decide +kernel
theorem d_M_drawOne_262 : decode m_M_drawOne.2.1 262 = .ok (.lload 6, 2) := by decide +kernel
theorem d_M_drawOne_264 : decode m_M_drawOne.2.1 264 = .ok (.lconst 0, 1) := by decide +kernel
theorem d_M_drawOne_265 : decode m_M_drawOne.2.1 265 = .ok (.lcmp, 1) := by decide +kernel
theorem d_M_drawOne_266 : decode m_M_drawOne.2.1 266 = .ok (.ifCond .le 42, 3) := by decide +kernel
theorem d_M_drawOne_269 : decode m_M_drawOne.2.1 269 = .ok (.iload_n 3, 1) := by decide +kernel
theorem d_M_drawOne_270 : decode m_M_drawOne.2.1 270 = .ok (.bipush 108, 2) := by decide +kernel
theorem d_M_drawOne_272 : decode m_M_drawOne.2.1 272 = .ok (.if_icmp .ge 36, 3) := by decide +kernel
theorem d_M_drawOne_275 : decode m_M_drawOne.2.1 275 = .ok (.aload_n 0, 1) := by decide +kernel
theorem d_M_drawOne_276 : decode m_M_drawOne.2.1 276 = .ok (.getfield 16, 3) := by decide +kernel
theorem d_M_drawOne_279 : decode m_M_drawOne.2.1 279 = .ok (.iload_n 3, 1) := by decide +kernel
theorem d_M_drawOne_280 : decode m_M_drawOne.2.1 280 = .ok (.bipush 48, 2) := by decide +kernel
theorem d_M_drawOne_282 : decode m_M_drawOne.2.1 282 = .ok (.lload 4, 2) := by decide +kernel
theorem d_M_drawOne_284 : decode m_M_drawOne.2.1 284 = .ok (.lload 6, 2) := by decide +kernel
theorem d_M_drawOne_286 : decode m_M_drawOne.2.1 286 = .ok (.ldiv, 1) := by decide +kernel
theorem d_M_drawOne_287 : decode m_M_drawOne.2.1 287 = .ok (.ldc2_w 312, 3) := by decide +kernel
theorem d_M_drawOne_290 : decode m_M_drawOne.2.1 290 = .ok (.lrem, 1) := by decide +kernel
theorem d_M_drawOne_291 : decode m_M_drawOne.2.1 291 = .ok (.l2i, 1) := by decide +kernel
theorem d_M_drawOne_292 : decode m_M_drawOne.2.1 292 = .ok (.iadd, 1) := by decide +kernel
theorem d_M_drawOne_293 : decode m_M_drawOne.2.1 293 = .ok (.iastore, 1) := by decide +kernel
theorem d_M_drawOne_294 : decode m_M_drawOne.2.1 294 = .ok (.iinc 3 1, 3) := by decide +kernel
theorem d_M_drawOne_297 : decode m_M_drawOne.2.1 297 = .ok (.lload 6, 2) := by decide +kernel
theorem d_M_drawOne_299 : decode m_M_drawOne.2.1 299 = .ok (.ldc2_w 312, 3) := by decide +kernel
theorem d_M_drawOne_302 : decode m_M_drawOne.2.1 302 = .ok (.ldiv, 1) := by decide +kernel
theorem d_M_drawOne_303 : decode m_M_drawOne.2.1 303 = .ok (.lstore 6, 2) := by decide +kernel
theorem d_M_drawOne_305 : decode m_M_drawOne.2.1 305 = .ok (.goto (-43), 3) := by decide +kernel
theorem d_M_drawOne_308 : decode m_M_drawOne.2.1 308 = .ok (.iload_n 3, 1) := by decide +kernel
theorem d_M_drawOne_309 : decode m_M_drawOne.2.1 309 = .ok (.ireturn, 1) := by decide +kernel
theorem d_M_show_0 : decode m_M_show.2.1 0 = .ok (.iconst 0, 1) := by decide +kernel
theorem d_M_show_1 : decode m_M_show.2.1 1 = .ok (.istore_n 2, 1) := by decide +kernel
theorem d_M_show_2 : decode m_M_show.2.1 2 = .ok (.iload_n 2, 1) := by decide +kernel
theorem d_M_show_3 : decode m_M_show.2.1 3 = .ok (.iload_n 1, 1) := by decide +kernel
theorem d_M_show_4 : decode m_M_show.2.1 4 = .ok (.if_icmp .ge 21, 3) := by decide +kernel
theorem d_M_show_7 : decode m_M_show.2.1 7 = .ok (.aload_n 0, 1) := by decide +kernel
theorem d_M_show_8 : decode m_M_show.2.1 8 = .ok (.getfield 13, 3) := by decide +kernel
theorem d_M_show_11 : decode m_M_show.2.1 11 = .ok (.iload_n 2, 1) := by decide +kernel
theorem d_M_show_12 : decode m_M_show.2.1 12 = .ok (.aload_n 0, 1) := by decide +kernel
theorem d_M_show_13 : decode m_M_show.2.1 13 = .ok (.getfield 16, 3) := by decide +kernel
theorem d_M_show_16 : decode m_M_show.2.1 16 = .ok (.iload_n 2, 1) := by decide +kernel
theorem d_M_show_17 : decode m_M_show.2.1 17 = .ok (.iaload, 1) := by decide +kernel
theorem d_M_show_18 : decode m_M_show.2.1 18 = .ok (.iastore, 1) := by decide +kernel
theorem d_M_show_19 : decode m_M_show.2.1 19 = .ok (.iinc 2 1, 3) := by decide +kernel
theorem d_M_show_22 : decode m_M_show.2.1 22 = .ok (.goto (-20), 3) := by decide +kernel
theorem d_M_show_25 : decode m_M_show.2.1 25 = .ok (.aload_n 0, 1) := by decide +kernel
theorem d_M_show_26 : decode m_M_show.2.1 26 = .ok (.iload_n 1, 1) := by decide +kernel
theorem d_M_show_27 : decode m_M_show.2.1 27 = .ok (.putfield 314, 3) := by decide +kernel
theorem d_M_show_30 : decode m_M_show.2.1 30 = .ok (.iload_n 1, 1) := by decide +kernel
theorem d_M_show_31 : decode m_M_show.2.1 31 = .ok (.ireturn, 1) := by decide +kernel
theorem d_M_bind_0 : decode m_M_bind.2.1 0 = .ok (.aload_n 0, 1) := by decide +kernel
theorem d_M_bind_1 : decode m_M_bind.2.1 1 = .ok (.getfield 157, 3) := by decide +kernel
theorem d_M_bind_4 : decode m_M_bind.2.1 4 = .ok (.aload_n 0, 1) := by decide +kernel
theorem d_M_bind_5 : decode m_M_bind.2.1 5 = .ok (.getfield 317, 3) := by decide +kernel
theorem d_M_bind_8 : decode m_M_bind.2.1 8 = .ok (.iload_n 1, 1) := by decide +kernel
theorem d_M_bind_9 : decode m_M_bind.2.1 9 = .ok (.iastore, 1) := by decide +kernel
theorem d_M_bind_10 : decode m_M_bind.2.1 10 = .ok (.aload_n 0, 1) := by decide +kernel
theorem d_M_bind_11 : decode m_M_bind.2.1 11 = .ok (.getfield 160, 3) := by decide +kernel
theorem d_M_bind_14 : decode m_M_bind.2.1 14 = .ok (.aload_n 0, 1) := by decide +kernel
theorem d_M_bind_15 : decode m_M_bind.2.1 15 = .ok (.getfield 317, 3) := by decide +kernel
theorem d_M_bind_18 : decode m_M_bind.2.1 18 = .ok (.iload_n 2, 1) := by decide +kernel
theorem d_M_bind_19 : decode m_M_bind.2.1 19 = .ok (.iastore, 1) := by decide +kernel
theorem d_M_bind_20 : decode m_M_bind.2.1 20 = .ok (.aload_n 0, 1) := by decide +kernel
theorem d_M_bind_21 : decode m_M_bind.2.1 21 = .ok (.getfield 163, 3) := by decide +kernel
theorem d_M_bind_24 : decode m_M_bind.2.1 24 = .ok (.aload_n 0, 1) := by decide +kernel
theorem d_M_bind_25 : decode m_M_bind.2.1 25 = .ok (.getfield 317, 3) := by decide +kernel
theorem d_M_bind_28 : decode m_M_bind.2.1 28 = .ok (.iload_n 3, 1) := by decide +kernel
theorem d_M_bind_29 : decode m_M_bind.2.1 29 = .ok (.iastore, 1) := by decide +kernel
theorem d_M_bind_30 : decode m_M_bind.2.1 30 = .ok (.aload_n 0, 1) := by decide +kernel
theorem d_M_bind_31 : decode m_M_bind.2.1 31 = .ok (.dup, 1) := by decide +kernel
theorem d_M_bind_32 : decode m_M_bind.2.1 32 = .ok (.getfield 317, 3) := by decide +kernel
theorem d_M_bind_35 : decode m_M_bind.2.1 35 = .ok (.iconst 1, 1) := by decide +kernel
theorem d_M_bind_36 : decode m_M_bind.2.1 36 = .ok (.iadd, 1) := by decide +kernel
theorem d_M_bind_37 : decode m_M_bind.2.1 37 = .ok (.putfield 317, 3) := by decide +kernel
theorem d_M_bind_40 : decode m_M_bind.2.1 40 = .ok (.return_, 1) := by decide +kernel
theorem d_M_enter_0 : decode m_M_enter.2.1 0 = .ok (.aload_n 0, 1) := by decide +kernel
theorem d_M_enter_1 : decode m_M_enter.2.1 1 = .ok (.getfield 320, 3) := by decide +kernel
theorem d_M_enter_4 : decode m_M_enter.2.1 4 = .ok (.bipush 100, 2) := by decide +kernel
theorem d_M_enter_6 : decode m_M_enter.2.1 6 = .ok (.if_icmp .eq 12, 3) := by decide +kernel
theorem d_M_enter_9 : decode m_M_enter.2.1 9 = .ok (.aload_n 0, 1) := by decide +kernel
theorem d_M_enter_10 : decode m_M_enter.2.1 10 = .ok (.getfield 323, 3) := by decide +kernel
theorem d_M_enter_13 : decode m_M_enter.2.1 13 = .ok (.bipush 30, 2) := by decide +kernel
theorem d_M_enter_15 : decode m_M_enter.2.1 15 = .ok (.if_icmp .ne 9, 3) := by decide +kernel
theorem d_M_enter_18 : decode m_M_enter.2.1 18 = .ok (.aload_n 0, 1) := by decide +kernel
theorem d_M_enter_19 : decode m_M_enter.2.1 19 = .ok (.iconst 1, 1) := by decide +kernel
theorem d_M_enter_20 : decode m_M_enter.2.1 20 = .ok (.putfield 326, 3) := by decide +kernel
theorem d_M_enter_23 : decode m_M_enter.2.1 23 = .ok (.return_, 1) := by decide +kernel
theorem d_M_enter_24 : decode m_M_enter.2.1 24 = .ok (.aload_n 0, 1) := by decide +kernel
theorem d_M_enter_25 : decode m_M_enter.2.1 25 = .ok (.dup, 1) := by decide +kernel
theorem d_M_enter_26 : decode m_M_enter.2.1 26 = .ok (.getfield 320, 3) := by decide +kernel
theorem d_M_enter_29 : decode m_M_enter.2.1 29 = .ok (.iconst 1, 1) := by decide +kernel
theorem d_M_enter_30 : decode m_M_enter.2.1 30 = .ok (.iadd, 1) := by decide +kernel
theorem d_M_enter_31 : decode m_M_enter.2.1 31 = .ok (.putfield 320, 3) := by decide +kernel
theorem d_M_enter_34 : decode m_M_enter.2.1 34 = .ok (.aload_n 0, 1) := by decide +kernel
theorem d_M_enter_35 : decode m_M_enter.2.1 35 = .ok (.dup, 1) := by decide +kernel
theorem d_M_enter_36 : decode m_M_enter.2.1 36 = .ok (.getfield 329, 3) := by decide +kernel
theorem d_M_enter_39 : decode m_M_enter.2.1 39 = .ok (.iconst 1, 1) := by decide +kernel
theorem d_M_enter_40 : decode m_M_enter.2.1 40 = .ok (.iadd, 1) := by decide +kernel
theorem d_M_enter_41 : decode m_M_enter.2.1 41 = .ok (.putfield 329, 3) := by decide +kernel
theorem d_M_enter_44 : decode m_M_enter.2.1 44 = .ok (.aload_n 0, 1) := by decide +kernel
theorem d_M_enter_45 : decode m_M_enter.2.1 45 = .ok (.getfield 145, 3) := by decide +kernel
theorem d_M_enter_48 : decode m_M_enter.2.1 48 = .ok (.aload_n 0, 1) := by decide +kernel
theorem d_M_enter_49 : decode m_M_enter.2.1 49 = .ok (.getfield 323, 3) := by decide +kernel
theorem d_M_enter_52 : decode m_M_enter.2.1 52 = .ok (.iload_n 1, 1) := by decide +kernel
theorem d_M_enter_53 : decode m_M_enter.2.1 53 = .ok (.iastore, 1) := by decide +kernel
theorem d_M_enter_54 : decode m_M_enter.2.1 54 = .ok (.aload_n 0, 1) := by decide +kernel
theorem d_M_enter_55 : decode m_M_enter.2.1 55 = .ok (.getfield 148, 3) := by decide +kernel
theorem d_M_enter_58 : decode m_M_enter.2.1 58 = .ok (.aload_n 0, 1) := by decide +kernel
theorem d_M_enter_59 : decode m_M_enter.2.1 59 = .ok (.getfield 323, 3) := by decide +kernel
theorem d_M_enter_62 : decode m_M_enter.2.1 62 = .ok (.iconst 0, 1) := by decide +kernel
theorem d_M_enter_63 : decode m_M_enter.2.1 63 = .ok (.iastore, 1) := by decide +kernel
theorem d_M_enter_64 : decode m_M_enter.2.1 64 = .ok (.aload_n 0, 1) := by decide +kernel
theorem d_M_enter_65 : decode m_M_enter.2.1 65 = .ok (.getfield 151, 3) := by decide +kernel
theorem d_M_enter_68 : decode m_M_enter.2.1 68 = .ok (.aload_n 0, 1) := by decide +kernel
theorem d_M_enter_69 : decode m_M_enter.2.1 69 = .ok (.getfield 323, 3) := by decide +kernel
theorem d_M_enter_72 : decode m_M_enter.2.1 72 = .ok (.iload_n 2, 1) := by decide +kernel
theorem d_M_enter_73 : decode m_M_enter.2.1 73 = .ok (.iastore, 1) := by decide +kernel
theorem d_M_enter_74 : decode m_M_enter.2.1 74 = .ok (.aload_n 0, 1) := by decide +kernel
theorem d_M_enter_75 : decode m_M_enter.2.1 75 = .ok (.dup, 1) := by decide +kernel
theorem d_M_enter_76 : decode m_M_enter.2.1 76 = .ok (.getfield 323, 3) := by decide +kernel
theorem d_M_enter_79 : decode m_M_enter.2.1 79 = .ok (.iconst 1, 1) := by decide +kernel
theorem d_M_enter_80 : decode m_M_enter.2.1 80 = .ok (.iadd, 1) := by decide +kernel
theorem d_M_enter_81 : decode m_M_enter.2.1 81 = .ok (.putfield 323, 3) := by decide +kernel
theorem d_M_enter_84 : decode m_M_enter.2.1 84 = .ok (.return_, 1) := by decide +kernel
theorem d_M_give_0 : decode m_M_give.2.1 0 = .ok (.aload_n 0, 1) := by decide +kernel
theorem d_M_give_1 : decode m_M_give.2.1 1 = .ok (.dup, 1) := by decide +kernel
theorem d_M_give_2 : decode m_M_give.2.1 2 = .ok (.getfield 323, 3) := by decide +kernel
theorem d_M_give_5 : decode m_M_give.2.1 5 = .ok (.iconst 1, 1) := by decide +kernel
theorem d_M_give_6 : decode m_M_give.2.1 6 = .ok (.isub, 1) := by decide +kernel
theorem d_M_give_7 : decode m_M_give.2.1 7 = .ok (.putfield 323, 3) := by decide +kernel
theorem d_M_give_10 : decode m_M_give.2.1 10 = .ok (.aload_n 0, 1) := by decide +kernel
theorem d_M_give_11 : decode m_M_give.2.1 11 = .ok (.iload_n 1, 1) := by decide +kernel
theorem d_M_give_12 : decode m_M_give.2.1 12 = .ok (.putfield 332, 3) := by decide +kernel
theorem d_M_give_15 : decode m_M_give.2.1 15 = .ok (.aload_n 0, 1) := by decide +kernel
theorem d_M_give_16 : decode m_M_give.2.1 16 = .ok (.getfield 323, 3) := by decide +kernel
theorem d_M_give_19 : decode m_M_give.2.1 19 = .ok (.ifCond .le 37, 3) := by decide +kernel
theorem d_M_give_22 : decode m_M_give.2.1 22 = .ok (.aload_n 0, 1) := by decide +kernel
theorem d_M_give_23 : decode m_M_give.2.1 23 = .ok (.getfield 323, 3) := by decide +kernel
theorem d_M_give_26 : decode m_M_give.2.1 26 = .ok (.iconst 1, 1) := by decide +kernel
theorem d_M_give_27 : decode m_M_give.2.1 27 = .ok (.isub, 1) := by decide +kernel
theorem d_M_give_28 : decode m_M_give.2.1 28 = .ok (.istore_n 2, 1) := by decide +kernel
theorem d_M_give_29 : decode m_M_give.2.1 29 = .ok (.aload_n 0, 1) := by decide +kernel
theorem d_M_give_30 : decode m_M_give.2.1 30 = .ok (.getfield 154, 3) := by decide +kernel
theorem d_M_give_33 : decode m_M_give.2.1 33 = .ok (.bipush 8, 2) := by decide +kernel
theorem d_M_give_35 : decode m_M_give.2.1 35 = .ok (.iload_n 2, 1) := by decide +kernel
theorem d_M_give_36 : decode m_M_give.2.1 36 = .ok (.imul, 1) := by decide +kernel
theorem d_M_give_37 : decode m_M_give.2.1 37 = .ok (.aload_n 0, 1) := by decide +kernel
theorem d_M_give_38 : decode m_M_give.2.1 38 = .ok (.getfield 148, 3) := by decide +kernel
theorem d_M_give_41 : decode m_M_give.2.1 41 = .ok (.iload_n 2, 1) := by decide +kernel
theorem d_M_give_42 : decode m_M_give.2.1 42 = .ok (.iaload, 1) := by decide +kernel
theorem d_M_give_43 : decode m_M_give.2.1 43 = .ok (.iadd, 1) := by decide +kernel
theorem d_M_give_44 : decode m_M_give.2.1 44 = .ok (.iload_n 1, 1) := by decide +kernel
theorem d_M_give_45 : decode m_M_give.2.1 45 = .ok (.iastore, 1) := by decide +kernel
theorem d_M_give_46 : decode m_M_give.2.1 46 = .ok (.aload_n 0, 1) := by decide +kernel
theorem d_M_give_47 : decode m_M_give.2.1 47 = .ok (.getfield 148, 3) := by decide +kernel
theorem d_M_give_50 : decode m_M_give.2.1 50 = .ok (.iload_n 2, 1) := by decide +kernel
theorem d_M_give_51 : decode m_M_give.2.1 51 = .ok (.dup2, 1) := by decide +kernel
theorem d_M_give_52 : decode m_M_give.2.1 52 = .ok (.iaload, 1) := by decide +kernel
theorem d_M_give_53 : decode m_M_give.2.1 53 = .ok (.iconst 1, 1) := by decide +kernel
theorem d_M_give_54 : decode m_M_give.2.1 54 = .ok (.iadd, 1) := by decide +kernel
theorem d_M_give_55 : decode m_M_give.2.1 55 = .ok (.iastore, 1) := by decide +kernel
theorem d_M_give_56 : decode m_M_give.2.1 56 = .ok (.return_, 1) := by decide +kernel
theorem d_M_child_0 : decode m_M_child.2.1 0 = .ok (.iload_n 1, 1) := by decide +kernel
theorem d_M_child_1 : decode m_M_child.2.1 1 = .ok (.iconst 1, 1) := by decide +kernel
theorem d_M_child_2 : decode m_M_child.2.1 2 = .ok (.iadd, 1) := by decide +kernel
theorem d_M_child_3 : decode m_M_child.2.1 3 = .ok (.istore_n 3, 1) := by decide +kernel
theorem d_M_child_4 : decode m_M_child.2.1 4 = .ok (.iconst 0, 1) := by decide +kernel
theorem d_M_child_5 : decode m_M_child.2.1 5 = .ok (.istore 4, 2) := by decide +kernel
theorem d_M_child_7 : decode m_M_child.2.1 7 = .ok (.iload 4, 2) := by decide +kernel
theorem d_M_child_9 : decode m_M_child.2.1 9 = .ok (.iload_n 2, 1) := by decide +kernel
theorem d_M_child_10 : decode m_M_child.2.1 10 = .ok (.if_icmp .ge 15, 3) := by decide +kernel
theorem d_M_child_13 : decode m_M_child.2.1 13 = .ok (.aload_n 0, 1) := by decide +kernel
theorem d_M_child_14 : decode m_M_child.2.1 14 = .ok (.iload_n 3, 1) := by decide +kernel
theorem d_M_child_15 : decode m_M_child.2.1 15 = .ok (.invokevirtual 268, 3) := by decide +kernel
theorem d_M_child_18 : decode m_M_child.2.1 18 = .ok (.istore_n 3, 1) := by decide +kernel
theorem d_M_child_19 : decode m_M_child.2.1 19 = .ok (.iinc 4 1, 3) := by decide +kernel
theorem d_M_child_22 : decode m_M_child.2.1 22 = .ok (.goto (-15), 3) := by decide +kernel
theorem d_M_child_25 : decode m_M_child.2.1 25 = .ok (.iload_n 3, 1) := by decide +kernel
theorem d_M_child_26 : decode m_M_child.2.1 26 = .ok (.ireturn, 1) := by decide +kernel
theorem d_M_meaning_0 : decode m_M_meaning.2.1 0 = .ok (.iload_n 2, 1) := by decide +kernel
theorem d_M_meaning_1 : decode m_M_meaning.2.1 1 = .ok (.istore_n 3, 1) := by decide +kernel
theorem d_M_meaning_2 : decode m_M_meaning.2.1 2 = .ok (.aload_n 0, 1) := by decide +kernel
theorem d_M_meaning_3 : decode m_M_meaning.2.1 3 = .ok (.getfield 157, 3) := by decide +kernel
theorem d_M_meaning_6 : decode m_M_meaning.2.1 6 = .ok (.iload_n 3, 1) := by decide +kernel
theorem d_M_meaning_7 : decode m_M_meaning.2.1 7 = .ok (.iaload, 1) := by decide +kernel
theorem d_M_meaning_8 : decode m_M_meaning.2.1 8 = .ok (.iload_n 1, 1) := by decide +kernel
theorem d_M_meaning_9 : decode m_M_meaning.2.1 9 = .ok (.if_icmp .eq 13, 3) := by decide +kernel
theorem d_M_meaning_12 : decode m_M_meaning.2.1 12 = .ok (.aload_n 0, 1) := by decide +kernel
theorem d_M_meaning_13 : decode m_M_meaning.2.1 13 = .ok (.getfield 163, 3) := by decide +kernel
theorem d_M_meaning_16 : decode m_M_meaning.2.1 16 = .ok (.iload_n 3, 1) := by decide +kernel
theorem d_M_meaning_17 : decode m_M_meaning.2.1 17 = .ok (.iaload, 1) := by decide +kernel
theorem d_M_meaning_18 : decode m_M_meaning.2.1 18 = .ok (.istore_n 3, 1) := by decide +kernel
theorem d_M_meaning_19 : decode m_M_meaning.2.1 19 = .ok (.goto (-17), 3) := by decide +kernel
theorem d_M_meaning_22 : decode m_M_meaning.2.1 22 = .ok (.aload_n 0, 1) := by decide +kernel
theorem d_M_meaning_23 : decode m_M_meaning.2.1 23 = .ok (.getfield 160, 3) := by decide +kernel
theorem d_M_meaning_26 : decode m_M_meaning.2.1 26 = .ok (.iload_n 3, 1) := by decide +kernel
theorem d_M_meaning_27 : decode m_M_meaning.2.1 27 = .ok (.iaload, 1) := by decide +kernel
theorem d_M_meaning_28 : decode m_M_meaning.2.1 28 = .ok (.ireturn, 1) := by decide +kernel
theorem d_M_compare_0 : decode m_M_compare.2.1 0 = .ok (.aload_n 0, 1) := by decide +kernel
theorem d_M_compare_1 : decode m_M_compare.2.1 1 = .ok (.iload_n 1, 1) := by decide +kernel
theorem d_M_compare_2 : decode m_M_compare.2.1 2 = .ok (.iload_n 2, 1) := by decide +kernel
theorem d_M_compare_3 : decode m_M_compare.2.1 3 = .ok (.invokevirtual 287, 3) := by decide +kernel
theorem d_M_compare_6 : decode m_M_compare.2.1 6 = .ok (.istore_n 3, 1) := by decide +kernel
theorem d_M_compare_7 : decode m_M_compare.2.1 7 = .ok (.iload_n 3, 1) := by decide +kernel
theorem d_M_compare_8 : decode m_M_compare.2.1 8 = .ok (.ifCond .le 89, 3) := by decide +kernel
theorem d_M_compare_11 : decode m_M_compare.2.1 11 = .ok (.aload_n 0, 1) := by decide +kernel
theorem d_M_compare_12 : decode m_M_compare.2.1 12 = .ok (.getfield 103, 3) := by decide +kernel
theorem d_M_compare_15 : decode m_M_compare.2.1 15 = .ok (.iload_n 3, 1) := by decide +kernel
theorem d_M_compare_16 : decode m_M_compare.2.1 16 = .ok (.iconst 1, 1) := by decide +kernel
theorem d_M_compare_17 : decode m_M_compare.2.1 17 = .ok (.isub, 1) := by decide +kernel
theorem d_M_compare_18 : decode m_M_compare.2.1 18 = .ok (.iaload, 1) := by decide +kernel
theorem d_M_compare_19 : decode m_M_compare.2.1 19 = .ok (.istore 4, 2) := by decide +kernel
theorem d_M_compare_21 : decode m_M_compare.2.1 21 = .ok (.aload_n 0, 1) := by decide +kernel
theorem d_M_compare_22 : decode m_M_compare.2.1 22 = .ok (.getfield 106, 3) := by decide +kernel
theorem d_M_compare_25 : decode m_M_compare.2.1 25 = .ok (.iload_n 3, 1) := by decide +kernel
theorem d_M_compare_26 : decode m_M_compare.2.1 26 = .ok (.iconst 1, 1) := by decide +kernel
theorem d_M_compare_27 : decode m_M_compare.2.1 27 = .ok (.isub, 1) := by decide +kernel
theorem d_M_compare_28 : decode m_M_compare.2.1 28 = .ok (.iaload, 1) := by decide +kernel
theorem d_M_compare_29 : decode m_M_compare.2.1 29 = .ok (.istore 5, 2) := by decide +kernel
theorem d_M_compare_31 : decode m_M_compare.2.1 31 = .ok (.aload_n 0, 1) := by decide +kernel
theorem d_M_compare_32 : decode m_M_compare.2.1 32 = .ok (.dup, 1) := by decide +kernel
theorem d_M_compare_33 : decode m_M_compare.2.1 33 = .ok (.getfield 284, 3) := by decide +kernel
theorem d_M_compare_36 : decode m_M_compare.2.1 36 = .ok (.iconst 1, 1) := by decide +kernel
theorem d_M_compare_37 : decode m_M_compare.2.1 37 = .ok (.iadd, 1) := by decide +kernel
theorem d_M_compare_38 : decode m_M_compare.2.1 38 = .ok (.putfield 284, 3) := by decide +kernel
theorem d_M_compare_41 : decode m_M_compare.2.1 41 = .ok (.aload_n 0, 1) := by decide +kernel
theorem d_M_compare_42 : decode m_M_compare.2.1 42 = .ok (.getfield 284, 3) := by decide +kernel
theorem d_M_compare_45 : decode m_M_compare.2.1 45 = .ok (.sipush 1000, 3) := by decide +kernel
theorem d_M_compare_48 : decode m_M_compare.2.1 48 = .ok (.if_icmp .gt 25, 3) := by decide +kernel
theorem d_M_compare_51 : decode m_M_compare.2.1 51 = .ok (.aload_n 0, 1) := by decide +kernel
theorem d_M_compare_52 : decode m_M_compare.2.1 52 = .ok (.getfield 85, 3) := by decide +kernel
theorem d_M_compare_55 : decode m_M_compare.2.1 55 = .ok (.iload 4, 2) := by decide +kernel
theorem d_M_compare_57 : decode m_M_compare.2.1 57 = .ok (.iaload, 1) := by decide +kernel
theorem d_M_compare_58 : decode m_M_compare.2.1 58 = .ok (.iconst 2, 1) := by decide +kernel
theorem d_M_compare_59 : decode m_M_compare.2.1 59 = .ok (.if_icmp .eq 14, 3) := by decide +kernel
theorem d_M_compare_62 : decode m_M_compare.2.1 62 = .ok (.aload_n 0, 1) := by decide +kernel
theorem d_M_compare_63 : decode m_M_compare.2.1 63 = .ok (.getfield 85, 3) := by decide +kernel
theorem d_M_compare_66 : decode m_M_compare.2.1 66 = .ok (.iload 5, 2) := by decide +kernel
theorem d_M_compare_68 : decode m_M_compare.2.1 68 = .ok (.iaload, 1) := by decide +kernel
theorem d_M_compare_69 : decode m_M_compare.2.1 69 = .ok (.iconst 2, 1) := by decide +kernel
theorem d_M_compare_70 : decode m_M_compare.2.1 70 = .ok (.if_icmp .ne 5, 3) := by decide +kernel
theorem d_M_compare_73 : decode m_M_compare.2.1 73 = .ok (.iconst (-1), 1) := by decide +kernel
theorem d_M_compare_74 : decode m_M_compare.2.1 74 = .ok (.ireturn, 1) := by decide +kernel
theorem d_M_compare_75 : decode m_M_compare.2.1 75 = .ok (.aload_n 0, 1) := by decide +kernel
theorem d_M_compare_76 : decode m_M_compare.2.1 76 = .ok (.iload 4, 2) := by decide +kernel
theorem d_M_compare_78 : decode m_M_compare.2.1 78 = .ok (.iload 5, 2) := by decide +kernel
theorem d_M_compare_80 : decode m_M_compare.2.1 80 = .ok (.invokevirtual 296, 3) := by decide +kernel
theorem d_M_compare_83 : decode m_M_compare.2.1 83 = .ok (.ifCond .ne 5, 3) := by decide +kernel
theorem d_M_compare_86 : decode m_M_compare.2.1 86 = .ok (.iconst 0, 1) := by decide +kernel
theorem d_M_compare_87 : decode m_M_compare.2.1 87 = .ok (.ireturn, 1) := by decide +kernel
theorem d_M_compare_88 : decode m_M_compare.2.1 88 = .ok (.aload_n 0, 1) := by decide +kernel
theorem d_M_compare_89 : decode m_M_compare.2.1 89 = .ok (.iload_n 3, 1) := by decide +kernel
theorem d_M_compare_90 : decode m_M_compare.2.1 90 = .ok (.invokevirtual 299, 3) := by decide +kernel
theorem d_M_compare_93 : decode m_M_compare.2.1 93 = .ok (.istore_n 3, 1) := by decide +kernel
theorem d_M_compare_94 : decode m_M_compare.2.1 94 = .ok (.goto (-87), 3) := by decide +kernel
theorem d_M_compare_97 : decode m_M_compare.2.1 97 = .ok (.iconst 1, 1) := by decide +kernel
theorem d_M_compare_98 : decode m_M_compare.2.1 98 = .ok (.ireturn, 1) := by decide +kernel
theorem d_M_call_0 : decode m_M_call.2.1 0 = .ok (.aload_n 0, 1) := by decide +kernel
theorem d_M_call_1 : decode m_M_call.2.1 1 = .ok (.getfield 52, 3) := by decide +kernel
theorem d_M_call_4 : decode m_M_call.2.1 4 = .ok (.iload_n 2, 1) := by decide +kernel
theorem d_M_call_5 : decode m_M_call.2.1 5 = .ok (.iaload, 1) := by decide +kernel
theorem d_M_call_6 : decode m_M_call.2.1 6 = .ok (.istore 4, 2) := by decide +kernel
theorem d_M_call_8 : decode m_M_call.2.1 8 = .ok (.aload_n 0, 1) := by decide +kernel
theorem d_M_call_9 : decode m_M_call.2.1 9 = .ok (.getfield 49, 3) := by decide +kernel
theorem d_M_call_12 : decode m_M_call.2.1 12 = .ok (.iload_n 2, 1) := by decide +kernel
theorem d_M_call_13 : decode m_M_call.2.1 13 = .ok (.iaload, 1) := by decide +kernel
theorem d_M_call_14 : decode m_M_call.2.1 14 = .ok (.istore 5, 2) := by decide +kernel
theorem d_M_call_16 : decode m_M_call.2.1 16 = .ok (.iload_n 3, 1) := by decide +kernel
theorem d_M_call_17 : decode m_M_call.2.1 17 = .ok (.iload 4, 2) := by decide +kernel
theorem d_M_call_19 : decode m_M_call.2.1 19 = .ok (.if_icmp .ge 22, 3) := by decide +kernel
theorem d_M_call_22 : decode m_M_call.2.1 22 = .ok (.aload_n 0, 1) := by decide +kernel
theorem d_M_call_23 : decode m_M_call.2.1 23 = .ok (.aload_n 0, 1) := by decide +kernel
theorem d_M_call_24 : decode m_M_call.2.1 24 = .ok (.iload_n 2, 1) := by decide +kernel
theorem d_M_call_25 : decode m_M_call.2.1 25 = .ok (.iload_n 3, 1) := by decide +kernel
theorem d_M_call_26 : decode m_M_call.2.1 26 = .ok (.invokevirtual 335, 3) := by decide +kernel
theorem d_M_call_29 : decode m_M_call.2.1 29 = .ok (.aload_n 0, 1) := by decide +kernel
theorem d_M_call_30 : decode m_M_call.2.1 30 = .ok (.getfield 151, 3) := by decide +kernel
theorem d_M_call_33 : decode m_M_call.2.1 33 = .ok (.iload_n 1, 1) := by decide +kernel
theorem d_M_call_34 : decode m_M_call.2.1 34 = .ok (.iaload, 1) := by decide +kernel
theorem d_M_call_35 : decode m_M_call.2.1 35 = .ok (.invokevirtual 338, 3) := by decide +kernel
theorem d_M_call_38 : decode m_M_call.2.1 38 = .ok (.goto 200, 3) := by decide +kernel
theorem d_M_call_41 : decode m_M_call.2.1 41 = .ok (.iload_n 3, 1) := by decide +kernel
theorem d_M_call_42 : decode m_M_call.2.1 42 = .ok (.iload 4, 2) := by decide +kernel
theorem d_M_call_44 : decode m_M_call.2.1 44 = .ok (.if_icmp .le 22, 3) := by decide +kernel
theorem d_M_call_47 : decode m_M_call.2.1 47 = .ok (.aload_n 0, 1) := by decide +kernel
theorem d_M_call_48 : decode m_M_call.2.1 48 = .ok (.aload_n 0, 1) := by decide +kernel
theorem d_M_call_49 : decode m_M_call.2.1 49 = .ok (.getfield 154, 3) := by decide +kernel
theorem d_M_call_52 : decode m_M_call.2.1 52 = .ok (.bipush 8, 2) := by decide +kernel
theorem d_M_call_54 : decode m_M_call.2.1 54 = .ok (.iload_n 1, 1) := by decide +kernel
theorem d_M_call_55 : decode m_M_call.2.1 55 = .ok (.imul, 1) := by decide +kernel
theorem d_M_call_56 : decode m_M_call.2.1 56 = .ok (.iload 4, 2) := by decide +kernel
theorem d_M_call_58 : decode m_M_call.2.1 58 = .ok (.iadd, 1) := by decide +kernel
theorem d_M_call_59 : decode m_M_call.2.1 59 = .ok (.iaload, 1) := by decide +kernel
theorem d_M_call_60 : decode m_M_call.2.1 60 = .ok (.invokevirtual 342, 3) := by decide +kernel
theorem d_M_call_63 : decode m_M_call.2.1 63 = .ok (.goto 175, 3) := by decide +kernel
theorem d_M_call_66 : decode m_M_call.2.1 66 = .ok (.aload_n 0, 1) := by decide +kernel
theorem d_M_call_67 : decode m_M_call.2.1 67 = .ok (.getfield 19, 3) := by decide +kernel
theorem d_M_call_70 : decode m_M_call.2.1 70 = .ok (.iload 5, 2) := by decide +kernel
theorem d_M_call_72 : decode m_M_call.2.1 72 = .ok (.iaload, 1) := by decide +kernel
theorem d_M_call_73 : decode m_M_call.2.1 73 = .ok (.iconst 1, 1) := by decide +kernel
theorem d_M_call_74 : decode m_M_call.2.1 74 = .ok (.if_icmp .ne 94, 3) := by decide +kernel
theorem d_M_call_77 : decode m_M_call.2.1 77 = .ok (.aload_n 0, 1) := by decide +kernel
theorem d_M_call_78 : decode m_M_call.2.1 78 = .ok (.iconst 3, 1) := by decide +kernel
theorem d_M_call_79 : decode m_M_call.2.1 79 = .ok (.iload 5, 2) := by decide +kernel
theorem d_M_call_81 : decode m_M_call.2.1 81 = .ok (.invokevirtual 271, 3) := by decide +kernel
theorem d_M_call_84 : decode m_M_call.2.1 84 = .ok (.istore 6, 2) := by decide +kernel
theorem d_M_call_86 : decode m_M_call.2.1 86 = .ok (.aload_n 0, 1) := by decide +kernel
theorem d_M_call_87 : decode m_M_call.2.1 87 = .ok (.getfield 94, 3) := by decide +kernel
theorem d_M_call_90 : decode m_M_call.2.1 90 = .ok (.iload 6, 2) := by decide +kernel
theorem d_M_call_92 : decode m_M_call.2.1 92 = .ok (.iload 4, 2) := by decide +kernel
theorem d_M_call_94 : decode m_M_call.2.1 94 = .ok (.iastore, 1) := by decide +kernel
theorem d_M_call_95 : decode m_M_call.2.1 95 = .ok (.iconst 0, 1) := by decide +kernel
theorem d_M_call_96 : decode m_M_call.2.1 96 = .ok (.istore 7, 2) := by decide +kernel
theorem d_M_call_98 : decode m_M_call.2.1 98 = .ok (.iload 7, 2) := by decide +kernel
theorem d_M_call_100 : decode m_M_call.2.1 100 = .ok (.iload 4, 2) := by decide +kernel
theorem d_M_call_102 : decode m_M_call.2.1 102 = .ok (.if_icmp .ge 40, 3) := by decide +kernel
theorem d_M_call_105 : decode m_M_call.2.1 105 = .ok (.aload_n 0, 1) := by decide +kernel
theorem d_M_call_106 : decode m_M_call.2.1 106 = .ok (.getfield 97, 3) := by decide +kernel
theorem d_M_call_109 : decode m_M_call.2.1 109 = .ok (.aload_n 0, 1) := by decide +kernel
theorem d_M_call_110 : decode m_M_call.2.1 110 = .ok (.getfield 262, 3) := by decide +kernel
theorem d_M_call_113 : decode m_M_call.2.1 113 = .ok (.aload_n 0, 1) := by decide +kernel
theorem d_M_call_114 : decode m_M_call.2.1 114 = .ok (.getfield 154, 3) := by decide +kernel
theorem d_M_call_117 : decode m_M_call.2.1 117 = .ok (.bipush 8, 2) := by decide +kernel
theorem d_M_call_119 : decode m_M_call.2.1 119 = .ok (.iload_n 1, 1) := by decide +kernel
theorem d_M_call_120 : decode m_M_call.2.1 120 = .ok (.imul, 1) := by decide +kernel
theorem d_M_call_121 : decode m_M_call.2.1 121 = .ok (.iload 7, 2) := by decide +kernel
theorem d_M_call_123 : decode m_M_call.2.1 123 = .ok (.iadd, 1) := by decide +kernel
theorem d_M_call_124 : decode m_M_call.2.1 124 = .ok (.iaload, 1) := by decide +kernel
theorem d_M_call_125 : decode m_M_call.2.1 125 = .ok (.iastore, 1) := by decide +kernel
theorem d_M_call_126 : decode m_M_call.2.1 126 = .ok (.aload_n 0, 1) := by decide +kernel
theorem d_M_call_127 : decode m_M_call.2.1 127 = .ok (.dup, 1) := by decide +kernel
theorem d_M_call_128 : decode m_M_call.2.1 128 = .ok (.getfield 262, 3) := by decide +kernel
theorem d_M_call_131 : decode m_M_call.2.1 131 = .ok (.iconst 1, 1) := by decide +kernel
theorem d_M_call_132 : decode m_M_call.2.1 132 = .ok (.iadd, 1) := by decide +kernel
theorem d_M_call_133 : decode m_M_call.2.1 133 = .ok (.putfield 262, 3) := by decide +kernel
theorem d_M_call_136 : decode m_M_call.2.1 136 = .ok (.iinc 7 1, 3) := by decide +kernel
theorem d_M_call_139 : decode m_M_call.2.1 139 = .ok (.goto (-41), 3) := by decide +kernel
theorem d_M_call_142 : decode m_M_call.2.1 142 = .ok (.aload_n 0, 1) := by decide +kernel
theorem d_M_call_143 : decode m_M_call.2.1 143 = .ok (.iload 6, 2) := by decide +kernel
theorem d_M_call_145 : decode m_M_call.2.1 145 = .ok (.invokevirtual 290, 3) := by decide +kernel
theorem d_M_call_148 : decode m_M_call.2.1 148 = .ok (.ifCond .eq 11, 3) := by decide +kernel
theorem d_M_call_151 : decode m_M_call.2.1 151 = .ok (.aload_n 0, 1) := by decide +kernel
theorem d_M_call_152 : decode m_M_call.2.1 152 = .ok (.iconst 1, 1) := by decide +kernel
theorem d_M_call_153 : decode m_M_call.2.1 153 = .ok (.putfield 326, 3) := by decide +kernel
theorem d_M_call_156 : decode m_M_call.2.1 156 = .ok (.goto 9, 3) := by decide +kernel
theorem d_M_call_159 : decode m_M_call.2.1 159 = .ok (.aload_n 0, 1) := by decide +kernel
theorem d_M_call_160 : decode m_M_call.2.1 160 = .ok (.iload 6, 2) := by decide +kernel
theorem d_M_call_162 : decode m_M_call.2.1 162 = .ok (.invokevirtual 342, 3) := by decide +kernel
theorem d_M_call_165 : decode m_M_call.2.1 165 = .ok (.goto 73, 3) := by decide +kernel
theorem d_M_call_168 : decode m_M_call.2.1 168 = .ok (.iconst (-1), 1) := by decide +kernel
theorem d_M_call_169 : decode m_M_call.2.1 169 = .ok (.istore 6, 2) := by decide +kernel
theorem d_M_call_171 : decode m_M_call.2.1 171 = .ok (.iconst 0, 1) := by decide +kernel
theorem d_M_call_172 : decode m_M_call.2.1 172 = .ok (.istore 7, 2) := by decide +kernel
theorem d_M_call_174 : decode m_M_call.2.1 174 = .ok (.iload 7, 2) := by decide +kernel
theorem d_M_call_176 : decode m_M_call.2.1 176 = .ok (.iload 4, 2) := by decide +kernel
theorem d_M_call_178 : decode m_M_call.2.1 178 = .ok (.if_icmp .ge 47, 3) := by decide +kernel
theorem d_M_call_181 : decode m_M_call.2.1 181 = .ok (.aload_n 0, 1) := by decide +kernel
theorem d_M_call_182 : decode m_M_call.2.1 182 = .ok (.aload_n 0, 1) := by decide +kernel
theorem d_M_call_183 : decode m_M_call.2.1 183 = .ok (.getfield 40, 3) := by decide +kernel
theorem d_M_call_186 : decode m_M_call.2.1 186 = .ok (.iconst 4, 1) := by decide +kernel
theorem d_M_call_187 : decode m_M_call.2.1 187 = .ok (.iload 5, 2) := by decide +kernel
theorem d_M_call_189 : decode m_M_call.2.1 189 = .ok (.imul, 1) := by decide +kernel
theorem d_M_call_190 : decode m_M_call.2.1 190 = .ok (.iload 7, 2) := by decide +kernel
theorem d_M_call_192 : decode m_M_call.2.1 192 = .ok (.iadd, 1) := by decide +kernel
theorem d_M_call_193 : decode m_M_call.2.1 193 = .ok (.iaload, 1) := by decide +kernel
theorem d_M_call_194 : decode m_M_call.2.1 194 = .ok (.aload_n 0, 1) := by decide +kernel
theorem d_M_call_195 : decode m_M_call.2.1 195 = .ok (.getfield 154, 3) := by decide +kernel
theorem d_M_call_198 : decode m_M_call.2.1 198 = .ok (.bipush 8, 2) := by decide +kernel
theorem d_M_call_200 : decode m_M_call.2.1 200 = .ok (.iload_n 1, 1) := by decide +kernel
theorem d_M_call_201 : decode m_M_call.2.1 201 = .ok (.imul, 1) := by decide +kernel
theorem d_M_call_202 : decode m_M_call.2.1 202 = .ok (.iload 7, 2) := by decide +kernel
theorem d_M_call_204 : decode m_M_call.2.1 204 = .ok (.iadd, 1) := by decide +kernel
theorem d_M_call_205 : decode m_M_call.2.1 205 = .ok (.iaload, 1) := by decide +kernel
theorem d_M_call_206 : decode m_M_call.2.1 206 = .ok (.iload 6, 2) := by decide +kernel
theorem d_M_call_208 : decode m_M_call.2.1 208 = .ok (.invokevirtual 346, 3) := by decide +kernel
theorem d_M_call_211 : decode m_M_call.2.1 211 = .ok (.aload_n 0, 1) := by decide +kernel
theorem d_M_call_212 : decode m_M_call.2.1 212 = .ok (.getfield 317, 3) := by decide +kernel
theorem d_M_call_215 : decode m_M_call.2.1 215 = .ok (.iconst 1, 1) := by decide +kernel
theorem d_M_call_216 : decode m_M_call.2.1 216 = .ok (.isub, 1) := by decide +kernel
theorem d_M_call_217 : decode m_M_call.2.1 217 = .ok (.istore 6, 2) := by decide +kernel
theorem d_M_call_219 : decode m_M_call.2.1 219 = .ok (.iinc 7 1, 3) := by decide +kernel
theorem d_M_call_222 : decode m_M_call.2.1 222 = .ok (.goto (-48), 3) := by decide +kernel
theorem d_M_call_225 : decode m_M_call.2.1 225 = .ok (.aload_n 0, 1) := by decide +kernel
theorem d_M_call_226 : decode m_M_call.2.1 226 = .ok (.aload_n 0, 1) := by decide +kernel
theorem d_M_call_227 : decode m_M_call.2.1 227 = .ok (.getfield 37, 3) := by decide +kernel
theorem d_M_call_230 : decode m_M_call.2.1 230 = .ok (.iload 5, 2) := by decide +kernel
theorem d_M_call_232 : decode m_M_call.2.1 232 = .ok (.iaload, 1) := by decide +kernel
theorem d_M_call_233 : decode m_M_call.2.1 233 = .ok (.iload 6, 2) := by decide +kernel
theorem d_M_call_235 : decode m_M_call.2.1 235 = .ok (.invokevirtual 338, 3) := by decide +kernel
theorem d_M_call_238 : decode m_M_call.2.1 238 = .ok (.return_, 1) := by decide +kernel
theorem d_M_add_0 : decode m_M_add.2.1 0 = .ok (.iload_n 3, 1) := by decide +kernel
theorem d_M_add_1 : decode m_M_add.2.1 1 = .ok (.iconst 2, 1) := by decide +kernel
theorem d_M_add_2 : decode m_M_add.2.1 2 = .ok (.if_icmp .ge 20, 3) := by decide +kernel
theorem d_M_add_5 : decode m_M_add.2.1 5 = .ok (.aload_n 0, 1) := by decide +kernel
theorem d_M_add_6 : decode m_M_add.2.1 6 = .ok (.aload_n 0, 1) := by decide +kernel
theorem d_M_add_7 : decode m_M_add.2.1 7 = .ok (.iload_n 2, 1) := by decide +kernel
theorem d_M_add_8 : decode m_M_add.2.1 8 = .ok (.iload_n 3, 1) := by decide +kernel
theorem d_M_add_9 : decode m_M_add.2.1 9 = .ok (.invokevirtual 335, 3) := by decide +kernel
theorem d_M_add_12 : decode m_M_add.2.1 12 = .ok (.aload_n 0, 1) := by decide +kernel
theorem d_M_add_13 : decode m_M_add.2.1 13 = .ok (.getfield 151, 3) := by decide +kernel
theorem d_M_add_16 : decode m_M_add.2.1 16 = .ok (.iload_n 1, 1) := by decide +kernel
theorem d_M_add_17 : decode m_M_add.2.1 17 = .ok (.iaload, 1) := by decide +kernel
theorem d_M_add_18 : decode m_M_add.2.1 18 = .ok (.invokevirtual 338, 3) := by decide +kernel
theorem d_M_add_21 : decode m_M_add.2.1 21 = .ok (.return_, 1) := by decide +kernel
theorem d_M_add_22 : decode m_M_add.2.1 22 = .ok (.aload_n 0, 1) := by decide +kernel
theorem d_M_add_23 : decode m_M_add.2.1 23 = .ok (.aload_n 0, 1) := by decide +kernel
theorem d_M_add_24 : decode m_M_add.2.1 24 = .ok (.getfield 154, 3) := by decide +kernel
theorem d_M_add_27 : decode m_M_add.2.1 27 = .ok (.bipush 8, 2) := by decide +kernel
theorem d_M_add_29 : decode m_M_add.2.1 29 = .ok (.iload_n 1, 1) := by decide +kernel
theorem d_M_add_30 : decode m_M_add.2.1 30 = .ok (.imul, 1) := by decide +kernel
theorem d_M_add_31 : decode m_M_add.2.1 31 = .ok (.iaload, 1) := by decide +kernel
theorem d_M_add_32 : decode m_M_add.2.1 32 = .ok (.invokevirtual 275, 3) := by decide +kernel
theorem d_M_add_35 : decode m_M_add.2.1 35 = .ok (.istore 4, 2) := by decide +kernel
theorem d_M_add_37 : decode m_M_add.2.1 37 = .ok (.aload_n 0, 1) := by decide +kernel
theorem d_M_add_38 : decode m_M_add.2.1 38 = .ok (.aload_n 0, 1) := by decide +kernel
theorem d_M_add_39 : decode m_M_add.2.1 39 = .ok (.getfield 154, 3) := by decide +kernel
theorem d_M_add_42 : decode m_M_add.2.1 42 = .ok (.bipush 8, 2) := by decide +kernel
theorem d_M_add_44 : decode m_M_add.2.1 44 = .ok (.iload_n 1, 1) := by decide +kernel
theorem d_M_add_45 : decode m_M_add.2.1 45 = .ok (.imul, 1) := by decide +kernel
theorem d_M_add_46 : decode m_M_add.2.1 46 = .ok (.iconst 1, 1) := by decide +kernel
theorem d_M_add_47 : decode m_M_add.2.1 47 = .ok (.iadd, 1) := by decide +kernel
theorem d_M_add_48 : decode m_M_add.2.1 48 = .ok (.iaload, 1) := by decide +kernel
theorem d_M_add_49 : decode m_M_add.2.1 49 = .ok (.invokevirtual 275, 3) := by decide +kernel
theorem d_M_add_52 : decode m_M_add.2.1 52 = .ok (.istore 5, 2) := by decide +kernel
theorem d_M_add_54 : decode m_M_add.2.1 54 = .ok (.aload_n 0, 1) := by decide +kernel
theorem d_M_add_55 : decode m_M_add.2.1 55 = .ok (.getfield 85, 3) := by decide +kernel
theorem d_M_add_58 : decode m_M_add.2.1 58 = .ok (.iload 4, 2) := by decide +kernel
theorem d_M_add_60 : decode m_M_add.2.1 60 = .ok (.iaload, 1) := by decide +kernel
theorem d_M_add_61 : decode m_M_add.2.1 61 = .ok (.ifCond .ne 13, 3) := by decide +kernel
theorem d_M_add_64 : decode m_M_add.2.1 64 = .ok (.aload_n 0, 1) := by decide +kernel
theorem d_M_add_65 : decode m_M_add.2.1 65 = .ok (.getfield 85, 3) := by decide +kernel
theorem d_M_add_68 : decode m_M_add.2.1 68 = .ok (.iload 5, 2) := by decide +kernel
theorem d_M_add_70 : decode m_M_add.2.1 70 = .ok (.iaload, 1) := by decide +kernel
theorem d_M_add_71 : decode m_M_add.2.1 71 = .ok (.ifCond .eq 11, 3) := by decide +kernel
theorem d_M_add_74 : decode m_M_add.2.1 74 = .ok (.aload_n 0, 1) := by decide +kernel
theorem d_M_add_75 : decode m_M_add.2.1 75 = .ok (.iconst 1, 1) := by decide +kernel
theorem d_M_add_76 : decode m_M_add.2.1 76 = .ok (.putfield 326, 3) := by decide +kernel
theorem d_M_add_79 : decode m_M_add.2.1 79 = .ok (.goto 56, 3) := by decide +kernel
theorem d_M_add_82 : decode m_M_add.2.1 82 = .ok (.aload_n 0, 1) := by decide +kernel
theorem d_M_add_83 : decode m_M_add.2.1 83 = .ok (.aload_n 0, 1) := by decide +kernel
theorem d_M_add_84 : decode m_M_add.2.1 84 = .ok (.iconst 0, 1) := by decide +kernel
theorem d_M_add_85 : decode m_M_add.2.1 85 = .ok (.aload_n 0, 1) := by decide +kernel
theorem d_M_add_86 : decode m_M_add.2.1 86 = .ok (.getfield 46, 3) := by decide +kernel
theorem d_M_add_89 : decode m_M_add.2.1 89 = .ok (.iload_n 2, 1) := by decide +kernel
theorem d_M_add_90 : decode m_M_add.2.1 90 = .ok (.iaload, 1) := by decide +kernel
theorem d_M_add_91 : decode m_M_add.2.1 91 = .ok (.bipush 6, 2) := by decide +kernel
theorem d_M_add_93 : decode m_M_add.2.1 93 = .ok (.if_icmp .ne 21, 3) := by decide +kernel
theorem d_M_add_96 : decode m_M_add.2.1 96 = .ok (.aload_n 0, 1) := by decide +kernel
theorem d_M_add_97 : decode m_M_add.2.1 97 = .ok (.getfield 88, 3) := by decide +kernel
theorem d_M_add_100 : decode m_M_add.2.1 100 = .ok (.iload 4, 2) := by decide +kernel
theorem d_M_add_102 : decode m_M_add.2.1 102 = .ok (.iaload, 1) := by decide +kernel
theorem d_M_add_103 : decode m_M_add.2.1 103 = .ok (.aload_n 0, 1) := by decide +kernel
theorem d_M_add_104 : decode m_M_add.2.1 104 = .ok (.getfield 88, 3) := by decide +kernel
theorem d_M_add_107 : decode m_M_add.2.1 107 = .ok (.iload 5, 2) := by decide +kernel
theorem d_M_add_109 : decode m_M_add.2.1 109 = .ok (.iaload, 1) := by decide +kernel
theorem d_M_add_110 : decode m_M_add.2.1 110 = .ok (.iadd, 1) := by decide +kernel
theorem d_M_add_111 : decode m_M_add.2.1 111 = .ok (.goto 18, 3) := by decide +kernel
theorem d_M_add_114 : decode m_M_add.2.1 114 = .ok (.aload_n 0, 1) := by decide +kernel
theorem d_M_add_115 : decode m_M_add.2.1 115 = .ok (.getfield 88, 3) := by decide +kernel
theorem d_M_add_118 : decode m_M_add.2.1 118 = .ok (.iload 4, 2) := by decide +kernel
theorem d_M_add_120 : decode m_M_add.2.1 120 = .ok (.iaload, 1) := by decide +kernel
theorem d_M_add_121 : decode m_M_add.2.1 121 = .ok (.aload_n 0, 1) := by decide +kernel
theorem d_M_add_122 : decode m_M_add.2.1 122 = .ok (.getfield 88, 3) := by decide +kernel
theorem d_M_add_125 : decode m_M_add.2.1 125 = .ok (.iload 5, 2) := by decide +kernel
theorem d_M_add_127 : decode m_M_add.2.1 127 = .ok (.iaload, 1) := by decide +kernel
theorem d_M_add_128 : decode m_M_add.2.1 128 = .ok (.isub, 1) := by decide +kernel
theorem d_M_add_129 : decode m_M_add.2.1 129 = .ok (.invokevirtual 271, 3) := by decide +kernel
theorem d_M_add_132 : decode m_M_add.2.1 132 = .ok (.invokevirtual 342, 3) := by decide +kernel
theorem d_M_add_135 : decode m_M_add.2.1 135 = .ok (.return_, 1) := by decide +kernel
theorem d_M_match_0 : decode m_M_match.2.1 0 = .ok (.iload_n 3, 1) := by decide +kernel
theorem d_M_match_1 : decode m_M_match.2.1 1 = .ok (.ifCond .ne 17, 3) := by decide +kernel
theorem d_M_match_4 : decode m_M_match.2.1 4 = .ok (.aload_n 0, 1) := by decide +kernel
theorem d_M_match_5 : decode m_M_match.2.1 5 = .ok (.iload_n 2, 1) := by decide +kernel
theorem d_M_match_6 : decode m_M_match.2.1 6 = .ok (.iconst 1, 1) := by decide +kernel
theorem d_M_match_7 : decode m_M_match.2.1 7 = .ok (.iadd, 1) := by decide +kernel
theorem d_M_match_8 : decode m_M_match.2.1 8 = .ok (.aload_n 0, 1) := by decide +kernel
theorem d_M_match_9 : decode m_M_match.2.1 9 = .ok (.getfield 151, 3) := by decide +kernel
theorem d_M_match_12 : decode m_M_match.2.1 12 = .ok (.iload_n 1, 1) := by decide +kernel
theorem d_M_match_13 : decode m_M_match.2.1 13 = .ok (.iaload, 1) := by decide +kernel
theorem d_M_match_14 : decode m_M_match.2.1 14 = .ok (.invokevirtual 338, 3) := by decide +kernel
theorem d_M_match_17 : decode m_M_match.2.1 17 = .ok (.return_, 1) := by decide +kernel
theorem d_M_match_18 : decode m_M_match.2.1 18 = .ok (.iload_n 3, 1) := by decide +kernel
theorem d_M_match_19 : decode m_M_match.2.1 19 = .ok (.iconst 2, 1) := by decide +kernel
theorem d_M_match_20 : decode m_M_match.2.1 20 = .ok (.if_icmp .ne 19, 3) := by decide +kernel
theorem d_M_match_23 : decode m_M_match.2.1 23 = .ok (.aload_n 0, 1) := by decide +kernel
theorem d_M_match_24 : decode m_M_match.2.1 24 = .ok (.aload_n 0, 1) := by decide +kernel
theorem d_M_match_25 : decode m_M_match.2.1 25 = .ok (.getfield 154, 3) := by decide +kernel
theorem d_M_match_28 : decode m_M_match.2.1 28 = .ok (.bipush 8, 2) := by decide +kernel
theorem d_M_match_30 : decode m_M_match.2.1 30 = .ok (.iload_n 1, 1) := by decide +kernel
theorem d_M_match_31 : decode m_M_match.2.1 31 = .ok (.imul, 1) := by decide +kernel
theorem d_M_match_32 : decode m_M_match.2.1 32 = .ok (.iconst 1, 1) := by decide +kernel
theorem d_M_match_33 : decode m_M_match.2.1 33 = .ok (.iadd, 1) := by decide +kernel
theorem d_M_match_34 : decode m_M_match.2.1 34 = .ok (.iaload, 1) := by decide +kernel
theorem d_M_match_35 : decode m_M_match.2.1 35 = .ok (.invokevirtual 342, 3) := by decide +kernel
theorem d_M_match_38 : decode m_M_match.2.1 38 = .ok (.return_, 1) := by decide +kernel
theorem d_M_match_39 : decode m_M_match.2.1 39 = .ok (.aload_n 0, 1) := by decide +kernel
theorem d_M_match_40 : decode m_M_match.2.1 40 = .ok (.aload_n 0, 1) := by decide +kernel
theorem d_M_match_41 : decode m_M_match.2.1 41 = .ok (.getfield 154, 3) := by decide +kernel
theorem d_M_match_44 : decode m_M_match.2.1 44 = .ok (.bipush 8, 2) := by decide +kernel
theorem d_M_match_46 : decode m_M_match.2.1 46 = .ok (.iload_n 1, 1) := by decide +kernel
theorem d_M_match_47 : decode m_M_match.2.1 47 = .ok (.imul, 1) := by decide +kernel
theorem d_M_match_48 : decode m_M_match.2.1 48 = .ok (.iaload, 1) := by decide +kernel
theorem d_M_match_49 : decode m_M_match.2.1 49 = .ok (.invokevirtual 275, 3) := by decide +kernel
theorem d_M_match_52 : decode m_M_match.2.1 52 = .ok (.istore 4, 2) := by decide +kernel
theorem d_M_match_54 : decode m_M_match.2.1 54 = .ok (.aload_n 0, 1) := by decide +kernel
theorem d_M_match_55 : decode m_M_match.2.1 55 = .ok (.getfield 151, 3) := by decide +kernel
theorem d_M_match_58 : decode m_M_match.2.1 58 = .ok (.iload_n 1, 1) := by decide +kernel
theorem d_M_match_59 : decode m_M_match.2.1 59 = .ok (.iaload, 1) := by decide +kernel
theorem d_M_match_60 : decode m_M_match.2.1 60 = .ok (.istore 5, 2) := by decide +kernel
theorem d_M_match_62 : decode m_M_match.2.1 62 = .ok (.aload_n 0, 1) := by decide +kernel
theorem d_M_match_63 : decode m_M_match.2.1 63 = .ok (.iload_n 2, 1) := by decide +kernel
theorem d_M_match_64 : decode m_M_match.2.1 64 = .ok (.iconst 1, 1) := by decide +kernel
theorem d_M_match_65 : decode m_M_match.2.1 65 = .ok (.iadd, 1) := by decide +kernel
theorem d_M_match_66 : decode m_M_match.2.1 66 = .ok (.invokevirtual 268, 3) := by decide +kernel
theorem d_M_match_69 : decode m_M_match.2.1 69 = .ok (.istore 6, 2) := by decide +kernel
theorem d_M_match_71 : decode m_M_match.2.1 71 = .ok (.iconst 0, 1) := by decide +kernel
theorem d_M_match_72 : decode m_M_match.2.1 72 = .ok (.istore 7, 2) := by decide +kernel
theorem d_M_match_74 : decode m_M_match.2.1 74 = .ok (.iload 7, 2) := by decide +kernel
theorem d_M_match_76 : decode m_M_match.2.1 76 = .ok (.aload_n 0, 1) := by decide +kernel
theorem d_M_match_77 : decode m_M_match.2.1 77 = .ok (.getfield 52, 3) := by decide +kernel
theorem d_M_match_80 : decode m_M_match.2.1 80 = .ok (.iload_n 2, 1) := by decide +kernel
theorem d_M_match_81 : decode m_M_match.2.1 81 = .ok (.iaload, 1) := by decide +kernel
theorem d_M_match_82 : decode m_M_match.2.1 82 = .ok (.if_icmp .ge 210, 3) := by decide +kernel
theorem d_M_match_85 : decode m_M_match.2.1 85 = .ok (.aload_n 0, 1) := by decide +kernel
theorem d_M_match_86 : decode m_M_match.2.1 86 = .ok (.getfield 85, 3) := by decide +kernel
theorem d_M_match_89 : decode m_M_match.2.1 89 = .ok (.iload 4, 2) := by decide +kernel
theorem d_M_match_91 : decode m_M_match.2.1 91 = .ok (.iaload, 1) := by decide +kernel
theorem d_M_match_92 : decode m_M_match.2.1 92 = .ok (.iconst 2, 1) := by decide +kernel
theorem d_M_match_93 : decode m_M_match.2.1 93 = .ok (.if_icmp .eq 199, 3) := by decide +kernel
theorem d_M_match_96 : decode m_M_match.2.1 96 = .ok (.aload_n 0, 1) := by decide +kernel
theorem d_M_match_97 : decode m_M_match.2.1 97 = .ok (.iload 6, 2) := by decide +kernel
theorem d_M_match_99 : decode m_M_match.2.1 99 = .ok (.invokevirtual 268, 3) := by decide +kernel
theorem d_M_match_102 : decode m_M_match.2.1 102 = .ok (.istore 8, 2) := by decide +kernel
theorem d_M_match_104 : decode m_M_match.2.1 104 = .ok (.aload_n 0, 1) := by decide +kernel
theorem d_M_match_105 : decode m_M_match.2.1 105 = .ok (.getfield 46, 3) := by decide +kernel
theorem d_M_match_108 : decode m_M_match.2.1 108 = .ok (.iload 6, 2) := by decide +kernel
theorem d_M_match_110 : decode m_M_match.2.1 110 = .ok (.iaload, 1) := by decide +kernel
theorem d_M_match_111 : decode m_M_match.2.1 111 = .ok (.bipush 11, 2) := by decide +kernel
theorem d_M_match_113 : decode m_M_match.2.1 113 = .ok (.if_icmp .eq 82, 3) := by decide +kernel
theorem d_M_match_116 : decode m_M_match.2.1 116 = .ok (.aload_n 0, 1) := by decide +kernel
theorem d_M_match_117 : decode m_M_match.2.1 117 = .ok (.getfield 46, 3) := by decide +kernel
theorem d_M_match_120 : decode m_M_match.2.1 120 = .ok (.iload 6, 2) := by decide +kernel
theorem d_M_match_122 : decode m_M_match.2.1 122 = .ok (.iaload, 1) := by decide +kernel
theorem d_M_match_123 : decode m_M_match.2.1 123 = .ok (.bipush 12, 2) := by decide +kernel
theorem d_M_match_125 : decode m_M_match.2.1 125 = .ok (.if_icmp .ne 30, 3) := by decide +kernel
theorem d_M_match_128 : decode m_M_match.2.1 128 = .ok (.aload_n 0, 1) := by decide +kernel
theorem d_M_match_129 : decode m_M_match.2.1 129 = .ok (.getfield 85, 3) := by decide +kernel
theorem d_M_match_132 : decode m_M_match.2.1 132 = .ok (.iload 4, 2) := by decide +kernel
theorem d_M_match_134 : decode m_M_match.2.1 134 = .ok (.iaload, 1) := by decide +kernel
theorem d_M_match_135 : decode m_M_match.2.1 135 = .ok (.ifCond .ne 20, 3) := by decide +kernel
theorem d_M_match_138 : decode m_M_match.2.1 138 = .ok (.aload_n 0, 1) := by decide +kernel
theorem d_M_match_139 : decode m_M_match.2.1 139 = .ok (.getfield 88, 3) := by decide +kernel
theorem d_M_match_142 : decode m_M_match.2.1 142 = .ok (.iload 4, 2) := by decide +kernel
theorem d_M_match_144 : decode m_M_match.2.1 144 = .ok (.iaload, 1) := by decide +kernel
theorem d_M_match_145 : decode m_M_match.2.1 145 = .ok (.aload_n 0, 1) := by decide +kernel
theorem d_M_match_146 : decode m_M_match.2.1 146 = .ok (.getfield 49, 3) := by decide +kernel
theorem d_M_match_149 : decode m_M_match.2.1 149 = .ok (.iload 6, 2) := by decide +kernel
theorem d_M_match_151 : decode m_M_match.2.1 151 = .ok (.iaload, 1) := by decide +kernel
theorem d_M_match_152 : decode m_M_match.2.1 152 = .ok (.if_icmp .eq 43, 3) := by decide +kernel
theorem d_M_match_155 : decode m_M_match.2.1 155 = .ok (.aload_n 0, 1) := by decide +kernel
theorem d_M_match_156 : decode m_M_match.2.1 156 = .ok (.getfield 46, 3) := by decide +kernel
theorem d_M_match_159 : decode m_M_match.2.1 159 = .ok (.iload 6, 2) := by decide +kernel
theorem d_M_match_161 : decode m_M_match.2.1 161 = .ok (.iaload, 1) := by decide +kernel
theorem d_M_match_162 : decode m_M_match.2.1 162 = .ok (.bipush 13, 2) := by decide +kernel
theorem d_M_match_164 : decode m_M_match.2.1 164 = .ok (.if_icmp .ne 35, 3) := by decide +kernel
theorem d_M_match_167 : decode m_M_match.2.1 167 = .ok (.aload_n 0, 1) := by decide +kernel
theorem d_M_match_168 : decode m_M_match.2.1 168 = .ok (.getfield 85, 3) := by decide +kernel
theorem d_M_match_171 : decode m_M_match.2.1 171 = .ok (.iload 4, 2) := by decide +kernel
theorem d_M_match_173 : decode m_M_match.2.1 173 = .ok (.iaload, 1) := by decide +kernel
theorem d_M_match_174 : decode m_M_match.2.1 174 = .ok (.iconst 3, 1) := by decide +kernel
theorem d_M_match_175 : decode m_M_match.2.1 175 = .ok (.if_icmp .ne 24, 3) := by decide +kernel
theorem d_M_match_178 : decode m_M_match.2.1 178 = .ok (.aload_n 0, 1) := by decide +kernel
theorem d_M_match_179 : decode m_M_match.2.1 179 = .ok (.getfield 88, 3) := by decide +kernel
theorem d_M_match_182 : decode m_M_match.2.1 182 = .ok (.iload 4, 2) := by decide +kernel
theorem d_M_match_184 : decode m_M_match.2.1 184 = .ok (.iaload, 1) := by decide +kernel
theorem d_M_match_185 : decode m_M_match.2.1 185 = .ok (.aload_n 0, 1) := by decide +kernel
theorem d_M_match_186 : decode m_M_match.2.1 186 = .ok (.getfield 49, 3) := by decide +kernel
theorem d_M_match_189 : decode m_M_match.2.1 189 = .ok (.iload 6, 2) := by decide +kernel
theorem d_M_match_191 : decode m_M_match.2.1 191 = .ok (.iaload, 1) := by decide +kernel
theorem d_M_match_192 : decode m_M_match.2.1 192 = .ok (.if_icmp .ne 7, 3) := by decide +kernel
theorem d_M_match_195 : decode m_M_match.2.1 195 = .ok (.iconst 1, 1) := by decide +kernel
theorem d_M_match_196 : decode m_M_match.2.1 196 = .ok (.goto 4, 3) := by decide +kernel
theorem d_M_match_199 : decode m_M_match.2.1 199 = .ok (.iconst 0, 1) := by decide +kernel
theorem d_M_match_200 : decode m_M_match.2.1 200 = .ok (.istore 9, 2) := by decide +kernel
theorem d_M_match_202 : decode m_M_match.2.1 202 = .ok (.iload 9, 2) := by decide +kernel
theorem d_M_match_204 : decode m_M_match.2.1 204 = .ok (.ifCond .eq 74, 3) := by decide +kernel
theorem d_M_match_207 : decode m_M_match.2.1 207 = .ok (.iconst 0, 1) := by decide +kernel
theorem d_M_match_208 : decode m_M_match.2.1 208 = .ok (.istore 10, 2) := by decide +kernel
theorem d_M_match_210 : decode m_M_match.2.1 210 = .ok (.iload 10, 2) := by decide +kernel
theorem d_M_match_212 : decode m_M_match.2.1 212 = .ok (.aload_n 0, 1) := by decide +kernel
theorem d_M_match_213 : decode m_M_match.2.1 213 = .ok (.getfield 52, 3) := by decide +kernel
theorem d_M_match_216 : decode m_M_match.2.1 216 = .ok (.iload 6, 2) := by decide +kernel
theorem d_M_match_218 : decode m_M_match.2.1 218 = .ok (.iaload, 1) := by decide +kernel
theorem d_M_match_219 : decode m_M_match.2.1 219 = .ok (.if_icmp .ge 50, 3) := by decide +kernel
theorem d_M_match_222 : decode m_M_match.2.1 222 = .ok (.aload_n 0, 1) := by decide +kernel
theorem d_M_match_223 : decode m_M_match.2.1 223 = .ok (.aload_n 0, 1) := by decide +kernel
theorem d_M_match_224 : decode m_M_match.2.1 224 = .ok (.getfield 49, 3) := by decide +kernel
theorem d_M_match_227 : decode m_M_match.2.1 227 = .ok (.iload 6, 2) := by decide +kernel
theorem d_M_match_229 : decode m_M_match.2.1 229 = .ok (.iconst 1, 1) := by decide +kernel
theorem d_M_match_230 : decode m_M_match.2.1 230 = .ok (.iadd, 1) := by decide +kernel
theorem d_M_match_231 : decode m_M_match.2.1 231 = .ok (.iload 10, 2) := by decide +kernel
theorem d_M_match_233 : decode m_M_match.2.1 233 = .ok (.iadd, 1) := by decide +kernel
theorem d_M_match_234 : decode m_M_match.2.1 234 = .ok (.iaload, 1) := by decide +kernel
theorem d_M_match_235 : decode m_M_match.2.1 235 = .ok (.aload_n 0, 1) := by decide +kernel
theorem d_M_match_236 : decode m_M_match.2.1 236 = .ok (.getfield 97, 3) := by decide +kernel
theorem d_M_match_239 : decode m_M_match.2.1 239 = .ok (.aload_n 0, 1) := by decide +kernel
theorem d_M_match_240 : decode m_M_match.2.1 240 = .ok (.getfield 91, 3) := by decide +kernel
theorem d_M_match_243 : decode m_M_match.2.1 243 = .ok (.iload 4, 2) := by decide +kernel
theorem d_M_match_245 : decode m_M_match.2.1 245 = .ok (.iaload, 1) := by decide +kernel
theorem d_M_match_246 : decode m_M_match.2.1 246 = .ok (.iload 10, 2) := by decide +kernel
theorem d_M_match_248 : decode m_M_match.2.1 248 = .ok (.iadd, 1) := by decide +kernel
theorem d_M_match_249 : decode m_M_match.2.1 249 = .ok (.iaload, 1) := by decide +kernel
theorem d_M_match_250 : decode m_M_match.2.1 250 = .ok (.iload 5, 2) := by decide +kernel
theorem d_M_match_252 : decode m_M_match.2.1 252 = .ok (.invokevirtual 346, 3) := by decide +kernel
theorem d_M_match_255 : decode m_M_match.2.1 255 = .ok (.aload_n 0, 1) := by decide +kernel
theorem d_M_match_256 : decode m_M_match.2.1 256 = .ok (.getfield 317, 3) := by decide +kernel
theorem d_M_match_259 : decode m_M_match.2.1 259 = .ok (.iconst 1, 1) := by decide +kernel
theorem d_M_match_260 : decode m_M_match.2.1 260 = .ok (.isub, 1) := by decide +kernel
theorem d_M_match_261 : decode m_M_match.2.1 261 = .ok (.istore 5, 2) := by decide +kernel
theorem d_M_match_263 : decode m_M_match.2.1 263 = .ok (.iinc 10 1, 3) := by decide +kernel
theorem d_M_match_266 : decode m_M_match.2.1 266 = .ok (.goto (-56), 3) := by decide +kernel
theorem d_M_match_269 : decode m_M_match.2.1 269 = .ok (.aload_n 0, 1) := by decide +kernel
theorem d_M_match_270 : decode m_M_match.2.1 270 = .ok (.iload 8, 2) := by decide +kernel
theorem d_M_match_272 : decode m_M_match.2.1 272 = .ok (.iload 5, 2) := by decide +kernel
theorem d_M_match_274 : decode m_M_match.2.1 274 = .ok (.invokevirtual 338, 3) := by decide +kernel
theorem d_M_match_277 : decode m_M_match.2.1 277 = .ok (.return_, 1) := by decide +kernel
theorem d_M_match_278 : decode m_M_match.2.1 278 = .ok (.aload_n 0, 1) := by decide +kernel
theorem d_M_match_279 : decode m_M_match.2.1 279 = .ok (.iload 8, 2) := by decide +kernel
theorem d_M_match_281 : decode m_M_match.2.1 281 = .ok (.invokevirtual 268, 3) := by decide +kernel
theorem d_M_match_284 : decode m_M_match.2.1 284 = .ok (.istore 6, 2) := by decide +kernel
theorem d_M_match_286 : decode m_M_match.2.1 286 = .ok (.iinc 7 1, 3) := by decide +kernel
theorem d_M_match_289 : decode m_M_match.2.1 289 = .ok (.goto (-215), 3) := by decide +kernel
theorem d_M_match_292 : decode m_M_match.2.1 292 = .ok (.aload_n 0, 1) := by decide +kernel
theorem d_M_match_293 : decode m_M_match.2.1 293 = .ok (.iconst 1, 1) := by decide +kernel
theorem d_M_match_294 : decode m_M_match.2.1 294 = .ok (.putfield 326, 3) := by decide +kernel
theorem d_M_match_297 : decode m_M_match.2.1 297 = .ok (.return_, 1) := by decide +kernel
theorem d_M_choose_0 : decode m_M_choose.2.1 0 = .ok (.iload_n 3, 1) := by decide +kernel
theorem d_M_choose_1 : decode m_M_choose.2.1 1 = .ok (.iconst 2, 1) := by decide +kernel
theorem d_M_choose_2 : decode m_M_choose.2.1 2 = .ok (.if_icmp .ge 20, 3) := by decide +kernel
theorem d_M_choose_5 : decode m_M_choose.2.1 5 = .ok (.aload_n 0, 1) := by decide +kernel
theorem d_M_choose_6 : decode m_M_choose.2.1 6 = .ok (.aload_n 0, 1) := by decide +kernel
theorem d_M_choose_7 : decode m_M_choose.2.1 7 = .ok (.iload_n 2, 1) := by decide +kernel
theorem d_M_choose_8 : decode m_M_choose.2.1 8 = .ok (.iload_n 3, 1) := by decide +kernel
theorem d_M_choose_9 : decode m_M_choose.2.1 9 = .ok (.invokevirtual 335, 3) := by decide +kernel
theorem d_M_choose_12 : decode m_M_choose.2.1 12 = .ok (.aload_n 0, 1) := by decide +kernel
theorem d_M_choose_13 : decode m_M_choose.2.1 13 = .ok (.getfield 151, 3) := by decide +kernel
theorem d_M_choose_16 : decode m_M_choose.2.1 16 = .ok (.iload_n 1, 1) := by decide +kernel
theorem d_M_choose_17 : decode m_M_choose.2.1 17 = .ok (.iaload, 1) := by decide +kernel
theorem d_M_choose_18 : decode m_M_choose.2.1 18 = .ok (.invokevirtual 338, 3) := by decide +kernel
theorem d_M_choose_21 : decode m_M_choose.2.1 21 = .ok (.return_, 1) := by decide +kernel
theorem d_M_choose_22 : decode m_M_choose.2.1 22 = .ok (.iload_n 3, 1) := by decide +kernel
theorem d_M_choose_23 : decode m_M_choose.2.1 23 = .ok (.iconst 3, 1) := by decide +kernel
theorem d_M_choose_24 : decode m_M_choose.2.1 24 = .ok (.if_icmp .ne 19, 3) := by decide +kernel
theorem d_M_choose_27 : decode m_M_choose.2.1 27 = .ok (.aload_n 0, 1) := by decide +kernel
theorem d_M_choose_28 : decode m_M_choose.2.1 28 = .ok (.aload_n 0, 1) := by decide +kernel
theorem d_M_choose_29 : decode m_M_choose.2.1 29 = .ok (.getfield 154, 3) := by decide +kernel
theorem d_M_choose_32 : decode m_M_choose.2.1 32 = .ok (.bipush 8, 2) := by decide +kernel
theorem d_M_choose_34 : decode m_M_choose.2.1 34 = .ok (.iload_n 1, 1) := by decide +kernel
theorem d_M_choose_35 : decode m_M_choose.2.1 35 = .ok (.imul, 1) := by decide +kernel
theorem d_M_choose_36 : decode m_M_choose.2.1 36 = .ok (.iconst 2, 1) := by decide +kernel
theorem d_M_choose_37 : decode m_M_choose.2.1 37 = .ok (.iadd, 1) := by decide +kernel
theorem d_M_choose_38 : decode m_M_choose.2.1 38 = .ok (.iaload, 1) := by decide +kernel
theorem d_M_choose_39 : decode m_M_choose.2.1 39 = .ok (.invokevirtual 342, 3) := by decide +kernel
theorem d_M_choose_42 : decode m_M_choose.2.1 42 = .ok (.return_, 1) := by decide +kernel
theorem d_M_choose_43 : decode m_M_choose.2.1 43 = .ok (.aload_n 0, 1) := by decide +kernel
theorem d_M_choose_44 : decode m_M_choose.2.1 44 = .ok (.aload_n 0, 1) := by decide +kernel
theorem d_M_choose_45 : decode m_M_choose.2.1 45 = .ok (.getfield 154, 3) := by decide +kernel
theorem d_M_choose_48 : decode m_M_choose.2.1 48 = .ok (.bipush 8, 2) := by decide +kernel
theorem d_M_choose_50 : decode m_M_choose.2.1 50 = .ok (.iload_n 1, 1) := by decide +kernel
theorem d_M_choose_51 : decode m_M_choose.2.1 51 = .ok (.imul, 1) := by decide +kernel
theorem d_M_choose_52 : decode m_M_choose.2.1 52 = .ok (.iaload, 1) := by decide +kernel
theorem d_M_choose_53 : decode m_M_choose.2.1 53 = .ok (.invokevirtual 275, 3) := by decide +kernel
theorem d_M_choose_56 : decode m_M_choose.2.1 56 = .ok (.istore 4, 2) := by decide +kernel
theorem d_M_choose_58 : decode m_M_choose.2.1 58 = .ok (.aload_n 0, 1) := by decide +kernel
theorem d_M_choose_59 : decode m_M_choose.2.1 59 = .ok (.aload_n 0, 1) := by decide +kernel
theorem d_M_choose_60 : decode m_M_choose.2.1 60 = .ok (.getfield 154, 3) := by decide +kernel
theorem d_M_choose_63 : decode m_M_choose.2.1 63 = .ok (.bipush 8, 2) := by decide +kernel
theorem d_M_choose_65 : decode m_M_choose.2.1 65 = .ok (.iload_n 1, 1) := by decide +kernel
theorem d_M_choose_66 : decode m_M_choose.2.1 66 = .ok (.imul, 1) := by decide +kernel
theorem d_M_choose_67 : decode m_M_choose.2.1 67 = .ok (.iconst 1, 1) := by decide +kernel
theorem d_M_choose_68 : decode m_M_choose.2.1 68 = .ok (.iadd, 1) := by decide +kernel
theorem d_M_choose_69 : decode m_M_choose.2.1 69 = .ok (.iaload, 1) := by decide +kernel
theorem d_M_choose_70 : decode m_M_choose.2.1 70 = .ok (.invokevirtual 275, 3) := by decide +kernel
theorem d_M_choose_73 : decode m_M_choose.2.1 73 = .ok (.istore 5, 2) := by decide +kernel
theorem d_M_choose_75 : decode m_M_choose.2.1 75 = .ok (.aload_n 0, 1) := by decide +kernel
theorem d_M_choose_76 : decode m_M_choose.2.1 76 = .ok (.getfield 49, 3) := by decide +kernel
theorem d_M_choose_79 : decode m_M_choose.2.1 79 = .ok (.iload_n 2, 1) := by decide +kernel
theorem d_M_choose_80 : decode m_M_choose.2.1 80 = .ok (.iaload, 1) := by decide +kernel
theorem d_M_choose_81 : decode m_M_choose.2.1 81 = .ok (.bipush 61, 2) := by decide +kernel
theorem d_M_choose_83 : decode m_M_choose.2.1 83 = .ok (.if_icmp .ne 14, 3) := by decide +kernel
theorem d_M_choose_86 : decode m_M_choose.2.1 86 = .ok (.aload_n 0, 1) := by decide +kernel
theorem d_M_choose_87 : decode m_M_choose.2.1 87 = .ok (.iload 4, 2) := by decide +kernel
theorem d_M_choose_89 : decode m_M_choose.2.1 89 = .ok (.iload 5, 2) := by decide +kernel
theorem d_M_choose_91 : decode m_M_choose.2.1 91 = .ok (.invokevirtual 349, 3) := by decide +kernel
theorem d_M_choose_94 : decode m_M_choose.2.1 94 = .ok (.goto 49, 3) := by decide +kernel
theorem d_M_choose_97 : decode m_M_choose.2.1 97 = .ok (.aload_n 0, 1) := by decide +kernel
theorem d_M_choose_98 : decode m_M_choose.2.1 98 = .ok (.getfield 85, 3) := by decide +kernel
theorem d_M_choose_101 : decode m_M_choose.2.1 101 = .ok (.iload 4, 2) := by decide +kernel
theorem d_M_choose_103 : decode m_M_choose.2.1 103 = .ok (.iaload, 1) := by decide +kernel
theorem d_M_choose_104 : decode m_M_choose.2.1 104 = .ok (.ifCond .ne 13, 3) := by decide +kernel
theorem d_M_choose_107 : decode m_M_choose.2.1 107 = .ok (.aload_n 0, 1) := by decide +kernel
theorem d_M_choose_108 : decode m_M_choose.2.1 108 = .ok (.getfield 85, 3) := by decide +kernel
theorem d_M_choose_111 : decode m_M_choose.2.1 111 = .ok (.iload 5, 2) := by decide +kernel
theorem d_M_choose_113 : decode m_M_choose.2.1 113 = .ok (.iaload, 1) := by decide +kernel
theorem d_M_choose_114 : decode m_M_choose.2.1 114 = .ok (.ifCond .eq 7, 3) := by decide +kernel
theorem d_M_choose_117 : decode m_M_choose.2.1 117 = .ok (.iconst (-1), 1) := by decide +kernel
theorem d_M_choose_118 : decode m_M_choose.2.1 118 = .ok (.goto 25, 3) := by decide +kernel
theorem d_M_choose_121 : decode m_M_choose.2.1 121 = .ok (.aload_n 0, 1) := by decide +kernel
theorem d_M_choose_122 : decode m_M_choose.2.1 122 = .ok (.getfield 88, 3) := by decide +kernel
theorem d_M_choose_125 : decode m_M_choose.2.1 125 = .ok (.iload 4, 2) := by decide +kernel
theorem d_M_choose_127 : decode m_M_choose.2.1 127 = .ok (.iaload, 1) := by decide +kernel
theorem d_M_choose_128 : decode m_M_choose.2.1 128 = .ok (.aload_n 0, 1) := by decide +kernel
theorem d_M_choose_129 : decode m_M_choose.2.1 129 = .ok (.getfield 88, 3) := by decide +kernel
theorem d_M_choose_132 : decode m_M_choose.2.1 132 = .ok (.iload 5, 2) := by decide +kernel
theorem d_M_choose_134 : decode m_M_choose.2.1 134 = .ok (.iaload, 1) := by decide +kernel
theorem d_M_choose_135 : decode m_M_choose.2.1 135 = .ok (.if_icmp .ge 7, 3) := by decide +kernel
theorem d_M_choose_138 : decode m_M_choose.2.1 138 = .ok (.iconst 1, 1) := by decide +kernel
theorem d_M_choose_139 : decode m_M_choose.2.1 139 = .ok (.goto 4, 3) := by decide +kernel
theorem d_M_choose_142 : decode m_M_choose.2.1 142 = .ok (.iconst 0, 1) := by decide +kernel
theorem d_M_choose_143 : decode m_M_choose.2.1 143 = .ok (.istore 6, 2) := by decide +kernel
theorem d_M_choose_145 : decode m_M_choose.2.1 145 = .ok (.iload 6, 2) := by decide +kernel
theorem d_M_choose_147 : decode m_M_choose.2.1 147 = .ok (.ifCond .ge 11, 3) := by decide +kernel
theorem d_M_choose_150 : decode m_M_choose.2.1 150 = .ok (.aload_n 0, 1) := by decide +kernel
theorem d_M_choose_151 : decode m_M_choose.2.1 151 = .ok (.iconst 1, 1) := by decide +kernel
theorem d_M_choose_152 : decode m_M_choose.2.1 152 = .ok (.putfield 326, 3) := by decide +kernel
theorem d_M_choose_155 : decode m_M_choose.2.1 155 = .ok (.goto 29, 3) := by decide +kernel
theorem d_M_choose_158 : decode m_M_choose.2.1 158 = .ok (.aload_n 0, 1) := by decide +kernel
theorem d_M_choose_159 : decode m_M_choose.2.1 159 = .ok (.aload_n 0, 1) := by decide +kernel
theorem d_M_choose_160 : decode m_M_choose.2.1 160 = .ok (.iload_n 2, 1) := by decide +kernel
theorem d_M_choose_161 : decode m_M_choose.2.1 161 = .ok (.iload 6, 2) := by decide +kernel
theorem d_M_choose_163 : decode m_M_choose.2.1 163 = .ok (.iconst 1, 1) := by decide +kernel
theorem d_M_choose_164 : decode m_M_choose.2.1 164 = .ok (.if_icmp .ne 7, 3) := by decide +kernel
theorem d_M_choose_167 : decode m_M_choose.2.1 167 = .ok (.iconst 2, 1) := by decide +kernel
theorem d_M_choose_168 : decode m_M_choose.2.1 168 = .ok (.goto 4, 3) := by decide +kernel
theorem d_M_choose_171 : decode m_M_choose.2.1 171 = .ok (.iconst 3, 1) := by decide +kernel
theorem d_M_choose_172 : decode m_M_choose.2.1 172 = .ok (.invokevirtual 335, 3) := by decide +kernel
theorem d_M_choose_175 : decode m_M_choose.2.1 175 = .ok (.aload_n 0, 1) := by decide +kernel
theorem d_M_choose_176 : decode m_M_choose.2.1 176 = .ok (.getfield 151, 3) := by decide +kernel
theorem d_M_choose_179 : decode m_M_choose.2.1 179 = .ok (.iload_n 1, 1) := by decide +kernel
theorem d_M_choose_180 : decode m_M_choose.2.1 180 = .ok (.iaload, 1) := by decide +kernel
theorem d_M_choose_181 : decode m_M_choose.2.1 181 = .ok (.invokevirtual 338, 3) := by decide +kernel
theorem d_M_choose_184 : decode m_M_choose.2.1 184 = .ok (.return_, 1) := by decide +kernel
theorem d_M_runs_0 : decode m_M_runs.2.1 0 = .ok (.aload_n 0, 1) := by decide +kernel
theorem d_M_runs_1 : decode m_M_runs.2.1 1 = .ok (.iconst 0, 1) := by decide +kernel
theorem d_M_runs_2 : decode m_M_runs.2.1 2 = .ok (.putfield 320, 3) := by decide +kernel
theorem d_M_runs_5 : decode m_M_runs.2.1 5 = .ok (.aload_n 0, 1) := by decide +kernel
theorem d_M_runs_6 : decode m_M_runs.2.1 6 = .ok (.iconst 0, 1) := by decide +kernel
theorem d_M_runs_7 : decode m_M_runs.2.1 7 = .ok (.putfield 323, 3) := by decide +kernel
theorem d_M_runs_10 : decode m_M_runs.2.1 10 = .ok (.aload_n 0, 1) := by decide +kernel
theorem d_M_runs_11 : decode m_M_runs.2.1 11 = .ok (.iconst 0, 1) := by decide +kernel
theorem d_M_runs_12 : decode m_M_runs.2.1 12 = .ok (.putfield 317, 3) := by decide +kernel
theorem d_M_runs_15 : decode m_M_runs.2.1 15 = .ok (.aload_n 0, 1) := by decide +kernel
theorem d_M_runs_16 : decode m_M_runs.2.1 16 = .ok (.iconst 0, 1) := by decide +kernel
theorem d_M_runs_17 : decode m_M_runs.2.1 17 = .ok (.putfield 326, 3) := by decide +kernel
theorem d_M_runs_20 : decode m_M_runs.2.1 20 = .ok (.iconst (-1), 1) := by decide +kernel
theorem d_M_runs_21 : decode m_M_runs.2.1 21 = .ok (.istore_n 2, 1) := by decide +kernel
theorem d_M_runs_22 : decode m_M_runs.2.1 22 = .ok (.iconst 0, 1) := by decide +kernel
theorem d_M_runs_23 : decode m_M_runs.2.1 23 = .ok (.istore_n 3, 1) := by decide +kernel
theorem d_M_runs_24 : decode m_M_runs.2.1 24 = .ok (.iload_n 3, 1) := by decide +kernel
theorem d_M_runs_25 : decode m_M_runs.2.1 25 = .ok (.aload_n 0, 1) := by decide +kernel
theorem d_M_runs_26 : decode m_M_runs.2.1 26 = .ok (.getfield 22, 3) := by decide +kernel
theorem d_M_runs_29 : decode m_M_runs.2.1 29 = .ok (.iload_n 1, 1) := by decide +kernel
theorem d_M_runs_30 : decode m_M_runs.2.1 30 = .ok (.iaload, 1) := by decide +kernel
theorem d_M_runs_31 : decode m_M_runs.2.1 31 = .ok (.if_icmp .ge 37, 3) := by decide +kernel
theorem d_M_runs_34 : decode m_M_runs.2.1 34 = .ok (.aload_n 0, 1) := by decide +kernel
theorem d_M_runs_35 : decode m_M_runs.2.1 35 = .ok (.aload_n 0, 1) := by decide +kernel
theorem d_M_runs_36 : decode m_M_runs.2.1 36 = .ok (.getfield 40, 3) := by decide +kernel
theorem d_M_runs_39 : decode m_M_runs.2.1 39 = .ok (.iconst 4, 1) := by decide +kernel
theorem d_M_runs_40 : decode m_M_runs.2.1 40 = .ok (.iload_n 1, 1) := by decide +kernel
theorem d_M_runs_41 : decode m_M_runs.2.1 41 = .ok (.imul, 1) := by decide +kernel
theorem d_M_runs_42 : decode m_M_runs.2.1 42 = .ok (.iload_n 3, 1) := by decide +kernel
theorem d_M_runs_43 : decode m_M_runs.2.1 43 = .ok (.iadd, 1) := by decide +kernel
theorem d_M_runs_44 : decode m_M_runs.2.1 44 = .ok (.iaload, 1) := by decide +kernel
theorem d_M_runs_45 : decode m_M_runs.2.1 45 = .ok (.aload_n 0, 1) := by decide +kernel
theorem d_M_runs_46 : decode m_M_runs.2.1 46 = .ok (.getfield 142, 3) := by decide +kernel
theorem d_M_runs_49 : decode m_M_runs.2.1 49 = .ok (.iload_n 3, 1) := by decide +kernel
theorem d_M_runs_50 : decode m_M_runs.2.1 50 = .ok (.iaload, 1) := by decide +kernel
theorem d_M_runs_51 : decode m_M_runs.2.1 51 = .ok (.iload_n 2, 1) := by decide +kernel
theorem d_M_runs_52 : decode m_M_runs.2.1 52 = .ok (.invokevirtual 346, 3) := by decide +kernel
theorem d_M_runs_55 : decode m_M_runs.2.1 55 = .ok (.aload_n 0, 1) := by decide +kernel
theorem d_M_runs_56 : decode m_M_runs.2.1 56 = .ok (.getfield 317, 3) := by decide +kernel
theorem d_M_runs_59 : decode m_M_runs.2.1 59 = .ok (.iconst 1, 1) := by decide +kernel
theorem d_M_runs_60 : decode m_M_runs.2.1 60 = .ok (.isub, 1) := by decide +kernel
theorem d_M_runs_61 : decode m_M_runs.2.1 61 = .ok (.istore_n 2, 1) := by decide +kernel
theorem d_M_runs_62 : decode m_M_runs.2.1 62 = .ok (.iinc 3 1, 3) := by decide +kernel
theorem d_M_runs_65 : decode m_M_runs.2.1 65 = .ok (.goto (-41), 3) := by decide +kernel
theorem d_M_runs_68 : decode m_M_runs.2.1 68 = .ok (.aload_n 0, 1) := by decide +kernel
theorem d_M_runs_69 : decode m_M_runs.2.1 69 = .ok (.aload_n 0, 1) := by decide +kernel
theorem d_M_runs_70 : decode m_M_runs.2.1 70 = .ok (.getfield 37, 3) := by decide +kernel
theorem d_M_runs_73 : decode m_M_runs.2.1 73 = .ok (.iload_n 1, 1) := by decide +kernel
theorem d_M_runs_74 : decode m_M_runs.2.1 74 = .ok (.iaload, 1) := by decide +kernel
theorem d_M_runs_75 : decode m_M_runs.2.1 75 = .ok (.iload_n 2, 1) := by decide +kernel
theorem d_M_runs_76 : decode m_M_runs.2.1 76 = .ok (.invokevirtual 338, 3) := by decide +kernel
theorem d_M_runs_79 : decode m_M_runs.2.1 79 = .ok (.aload_n 0, 1) := by decide +kernel
theorem d_M_runs_80 : decode m_M_runs.2.1 80 = .ok (.getfield 323, 3) := by decide +kernel
theorem d_M_runs_83 : decode m_M_runs.2.1 83 = .ok (.ifCond .le 188, 3) := by decide +kernel
theorem d_M_runs_86 : decode m_M_runs.2.1 86 = .ok (.aload_n 0, 1) := by decide +kernel
theorem d_M_runs_87 : decode m_M_runs.2.1 87 = .ok (.getfield 326, 3) := by decide +kernel
theorem d_M_runs_90 : decode m_M_runs.2.1 90 = .ok (.ifCond .ne 181, 3) := by decide +kernel
theorem d_M_runs_93 : decode m_M_runs.2.1 93 = .ok (.aload_n 0, 1) := by decide +kernel
theorem d_M_runs_94 : decode m_M_runs.2.1 94 = .ok (.getfield 323, 3) := by decide +kernel
theorem d_M_runs_97 : decode m_M_runs.2.1 97 = .ok (.iconst 1, 1) := by decide +kernel
theorem d_M_runs_98 : decode m_M_runs.2.1 98 = .ok (.isub, 1) := by decide +kernel
theorem d_M_runs_99 : decode m_M_runs.2.1 99 = .ok (.istore_n 3, 1) := by decide +kernel
theorem d_M_runs_100 : decode m_M_runs.2.1 100 = .ok (.aload_n 0, 1) := by decide +kernel
theorem d_M_runs_101 : decode m_M_runs.2.1 101 = .ok (.getfield 145, 3) := by decide +kernel
theorem d_M_runs_104 : decode m_M_runs.2.1 104 = .ok (.iload_n 3, 1) := by decide +kernel
theorem d_M_runs_105 : decode m_M_runs.2.1 105 = .ok (.iaload, 1) := by decide +kernel
theorem d_M_runs_106 : decode m_M_runs.2.1 106 = .ok (.istore 4, 2) := by decide +kernel
theorem d_M_runs_108 : decode m_M_runs.2.1 108 = .ok (.aload_n 0, 1) := by decide +kernel
theorem d_M_runs_109 : decode m_M_runs.2.1 109 = .ok (.getfield 148, 3) := by decide +kernel
theorem d_M_runs_112 : decode m_M_runs.2.1 112 = .ok (.iload_n 3, 1) := by decide +kernel
theorem d_M_runs_113 : decode m_M_runs.2.1 113 = .ok (.iaload, 1) := by decide +kernel
theorem d_M_runs_114 : decode m_M_runs.2.1 114 = .ok (.istore 5, 2) := by decide +kernel
theorem d_M_runs_116 : decode m_M_runs.2.1 116 = .ok (.aload_n 0, 1) := by decide +kernel
theorem d_M_runs_117 : decode m_M_runs.2.1 117 = .ok (.getfield 46, 3) := by decide +kernel
theorem d_M_runs_120 : decode m_M_runs.2.1 120 = .ok (.iload 4, 2) := by decide +kernel
theorem d_M_runs_122 : decode m_M_runs.2.1 122 = .ok (.iaload, 1) := by decide +kernel
theorem d_M_runs_123 : decode m_M_runs.2.1 123 = .ok (.tableswitch 140 1 9 #[49, 73, 140, 140, 92, 104, 104, 116, 128], 49) := by decide +kernel
theorem d_M_runs_172 : decode m_M_runs.2.1 172 = .ok (.aload_n 0, 1) := by decide +kernel
theorem d_M_runs_173 : decode m_M_runs.2.1 173 = .ok (.aload_n 0, 1) := by decide +kernel
theorem d_M_runs_174 : decode m_M_runs.2.1 174 = .ok (.aload_n 0, 1) := by decide +kernel
theorem d_M_runs_175 : decode m_M_runs.2.1 175 = .ok (.getfield 49, 3) := by decide +kernel
theorem d_M_runs_178 : decode m_M_runs.2.1 178 = .ok (.iload 4, 2) := by decide +kernel
theorem d_M_runs_180 : decode m_M_runs.2.1 180 = .ok (.iaload, 1) := by decide +kernel
theorem d_M_runs_181 : decode m_M_runs.2.1 181 = .ok (.aload_n 0, 1) := by decide +kernel
theorem d_M_runs_182 : decode m_M_runs.2.1 182 = .ok (.getfield 151, 3) := by decide +kernel
theorem d_M_runs_185 : decode m_M_runs.2.1 185 = .ok (.iload_n 3, 1) := by decide +kernel
theorem d_M_runs_186 : decode m_M_runs.2.1 186 = .ok (.iaload, 1) := by decide +kernel
theorem d_M_runs_187 : decode m_M_runs.2.1 187 = .ok (.invokevirtual 352, 3) := by decide +kernel
theorem d_M_runs_190 : decode m_M_runs.2.1 190 = .ok (.invokevirtual 342, 3) := by decide +kernel
theorem d_M_runs_193 : decode m_M_runs.2.1 193 = .ok (.goto 75, 3) := by decide +kernel
theorem d_M_runs_196 : decode m_M_runs.2.1 196 = .ok (.aload_n 0, 1) := by decide +kernel
theorem d_M_runs_197 : decode m_M_runs.2.1 197 = .ok (.aload_n 0, 1) := by decide +kernel
theorem d_M_runs_198 : decode m_M_runs.2.1 198 = .ok (.iconst 0, 1) := by decide +kernel
theorem d_M_runs_199 : decode m_M_runs.2.1 199 = .ok (.aload_n 0, 1) := by decide +kernel
theorem d_M_runs_200 : decode m_M_runs.2.1 200 = .ok (.getfield 49, 3) := by decide +kernel
theorem d_M_runs_203 : decode m_M_runs.2.1 203 = .ok (.iload 4, 2) := by decide +kernel
theorem d_M_runs_205 : decode m_M_runs.2.1 205 = .ok (.iaload, 1) := by decide +kernel
theorem d_M_runs_206 : decode m_M_runs.2.1 206 = .ok (.invokevirtual 271, 3) := by decide +kernel
theorem d_M_runs_209 : decode m_M_runs.2.1 209 = .ok (.invokevirtual 342, 3) := by decide +kernel
theorem d_M_runs_212 : decode m_M_runs.2.1 212 = .ok (.goto 56, 3) := by decide +kernel
theorem d_M_runs_215 : decode m_M_runs.2.1 215 = .ok (.aload_n 0, 1) := by decide +kernel
theorem d_M_runs_216 : decode m_M_runs.2.1 216 = .ok (.iload_n 3, 1) := by decide +kernel
theorem d_M_runs_217 : decode m_M_runs.2.1 217 = .ok (.iload 4, 2) := by decide +kernel
theorem d_M_runs_219 : decode m_M_runs.2.1 219 = .ok (.iload 5, 2) := by decide +kernel
theorem d_M_runs_221 : decode m_M_runs.2.1 221 = .ok (.invokevirtual 355, 3) := by decide +kernel
theorem d_M_runs_224 : decode m_M_runs.2.1 224 = .ok (.goto 44, 3) := by decide +kernel
theorem d_M_runs_227 : decode m_M_runs.2.1 227 = .ok (.aload_n 0, 1) := by decide +kernel
theorem d_M_runs_228 : decode m_M_runs.2.1 228 = .ok (.iload_n 3, 1) := by decide +kernel
theorem d_M_runs_229 : decode m_M_runs.2.1 229 = .ok (.iload 4, 2) := by decide +kernel
theorem d_M_runs_231 : decode m_M_runs.2.1 231 = .ok (.iload 5, 2) := by decide +kernel
theorem d_M_runs_233 : decode m_M_runs.2.1 233 = .ok (.invokevirtual 358, 3) := by decide +kernel
theorem d_M_runs_236 : decode m_M_runs.2.1 236 = .ok (.goto 32, 3) := by decide +kernel
theorem d_M_runs_239 : decode m_M_runs.2.1 239 = .ok (.aload_n 0, 1) := by decide +kernel
theorem d_M_runs_240 : decode m_M_runs.2.1 240 = .ok (.iload_n 3, 1) := by decide +kernel
theorem d_M_runs_241 : decode m_M_runs.2.1 241 = .ok (.iload 4, 2) := by decide +kernel
theorem d_M_runs_243 : decode m_M_runs.2.1 243 = .ok (.iload 5, 2) := by decide +kernel
theorem d_M_runs_245 : decode m_M_runs.2.1 245 = .ok (.invokevirtual 361, 3) := by decide +kernel
theorem d_M_runs_248 : decode m_M_runs.2.1 248 = .ok (.goto 20, 3) := by decide +kernel
theorem d_M_runs_251 : decode m_M_runs.2.1 251 = .ok (.aload_n 0, 1) := by decide +kernel
theorem d_M_runs_252 : decode m_M_runs.2.1 252 = .ok (.iload_n 3, 1) := by decide +kernel
theorem d_M_runs_253 : decode m_M_runs.2.1 253 = .ok (.iload 4, 2) := by decide +kernel
theorem d_M_runs_255 : decode m_M_runs.2.1 255 = .ok (.iload 5, 2) := by decide +kernel
theorem d_M_runs_257 : decode m_M_runs.2.1 257 = .ok (.invokevirtual 364, 3) := by decide +kernel
theorem d_M_runs_260 : decode m_M_runs.2.1 260 = .ok (.goto 8, 3) := by decide +kernel
theorem d_M_runs_263 : decode m_M_runs.2.1 263 = .ok (.aload_n 0, 1) := by decide +kernel
theorem d_M_runs_264 : decode m_M_runs.2.1 264 = .ok (.iconst 1, 1) := by decide +kernel
theorem d_M_runs_265 : decode m_M_runs.2.1 265 = .ok (.putfield 326, 3) := by decide +kernel
theorem d_M_runs_268 : decode m_M_runs.2.1 268 = .ok (.goto (-189), 3) := by decide +kernel
theorem d_M_runs_271 : decode m_M_runs.2.1 271 = .ok (.aload_n 0, 1) := by decide +kernel
theorem d_M_runs_272 : decode m_M_runs.2.1 272 = .ok (.getfield 326, 3) := by decide +kernel
theorem d_M_runs_275 : decode m_M_runs.2.1 275 = .ok (.ifCond .eq 7, 3) := by decide +kernel
theorem d_M_runs_278 : decode m_M_runs.2.1 278 = .ok (.iconst (-1), 1) := by decide +kernel
theorem d_M_runs_279 : decode m_M_runs.2.1 279 = .ok (.goto 7, 3) := by decide +kernel
theorem d_M_runs_282 : decode m_M_runs.2.1 282 = .ok (.aload_n 0, 1) := by decide +kernel
theorem d_M_runs_283 : decode m_M_runs.2.1 283 = .ok (.getfield 332, 3) := by decide +kernel
theorem d_M_runs_286 : decode m_M_runs.2.1 286 = .ok (.ireturn, 1) := by decide +kernel
theorem d_M_isConditioned_0 : decode m_M_isConditioned.2.1 0 = .ok (.iconst 0, 1) := by decide +kernel
theorem d_M_isConditioned_1 : decode m_M_isConditioned.2.1 1 = .ok (.istore_n 2, 1) := by decide +kernel
theorem d_M_isConditioned_2 : decode m_M_isConditioned.2.1 2 = .ok (.iconst 0, 1) := by decide +kernel
theorem d_M_isConditioned_3 : decode m_M_isConditioned.2.1 3 = .ok (.istore_n 3, 1) := by decide +kernel
theorem d_M_isConditioned_4 : decode m_M_isConditioned.2.1 4 = .ok (.iload_n 3, 1) := by decide +kernel
theorem d_M_isConditioned_5 : decode m_M_isConditioned.2.1 5 = .ok (.aload_n 0, 1) := by decide +kernel
theorem d_M_isConditioned_6 : decode m_M_isConditioned.2.1 6 = .ok (.getfield 31, 3) := by decide +kernel
theorem d_M_isConditioned_9 : decode m_M_isConditioned.2.1 9 = .ok (.iload_n 1, 1) := by decide +kernel
theorem d_M_isConditioned_10 : decode m_M_isConditioned.2.1 10 = .ok (.iaload, 1) := by decide +kernel
theorem d_M_isConditioned_11 : decode m_M_isConditioned.2.1 11 = .ok (.if_icmp .ge 36, 3) := by decide +kernel
theorem d_M_isConditioned_14 : decode m_M_isConditioned.2.1 14 = .ok (.iload_n 2, 1) := by decide +kernel
theorem d_M_isConditioned_15 : decode m_M_isConditioned.2.1 15 = .ok (.ifCond .ne 20, 3) := by decide +kernel
theorem d_M_isConditioned_18 : decode m_M_isConditioned.2.1 18 = .ok (.aload_n 0, 1) := by decide +kernel
theorem d_M_isConditioned_19 : decode m_M_isConditioned.2.1 19 = .ok (.getfield 61, 3) := by decide +kernel
theorem d_M_isConditioned_22 : decode m_M_isConditioned.2.1 22 = .ok (.aload_n 0, 1) := by decide +kernel
theorem d_M_isConditioned_23 : decode m_M_isConditioned.2.1 23 = .ok (.getfield 28, 3) := by decide +kernel
theorem d_M_isConditioned_26 : decode m_M_isConditioned.2.1 26 = .ok (.iload_n 1, 1) := by decide +kernel
theorem d_M_isConditioned_27 : decode m_M_isConditioned.2.1 27 = .ok (.iaload, 1) := by decide +kernel
theorem d_M_isConditioned_28 : decode m_M_isConditioned.2.1 28 = .ok (.iload_n 3, 1) := by decide +kernel
theorem d_M_isConditioned_29 : decode m_M_isConditioned.2.1 29 = .ok (.iadd, 1) := by decide +kernel
theorem d_M_isConditioned_30 : decode m_M_isConditioned.2.1 30 = .ok (.iaload, 1) := by decide +kernel
theorem d_M_isConditioned_31 : decode m_M_isConditioned.2.1 31 = .ok (.iconst 2, 1) := by decide +kernel
theorem d_M_isConditioned_32 : decode m_M_isConditioned.2.1 32 = .ok (.if_icmp .ne 7, 3) := by decide +kernel
theorem d_M_isConditioned_35 : decode m_M_isConditioned.2.1 35 = .ok (.iconst 1, 1) := by decide +kernel
theorem d_M_isConditioned_36 : decode m_M_isConditioned.2.1 36 = .ok (.goto 4, 3) := by decide +kernel
theorem d_M_isConditioned_39 : decode m_M_isConditioned.2.1 39 = .ok (.iconst 0, 1) := by decide +kernel
theorem d_M_isConditioned_40 : decode m_M_isConditioned.2.1 40 = .ok (.istore_n 2, 1) := by decide +kernel
theorem d_M_isConditioned_41 : decode m_M_isConditioned.2.1 41 = .ok (.iinc 3 1, 3) := by decide +kernel
theorem d_M_isConditioned_44 : decode m_M_isConditioned.2.1 44 = .ok (.goto (-40), 3) := by decide +kernel
theorem d_M_isConditioned_47 : decode m_M_isConditioned.2.1 47 = .ok (.iload_n 2, 1) := by decide +kernel
theorem d_M_isConditioned_48 : decode m_M_isConditioned.2.1 48 = .ok (.ireturn, 1) := by decide +kernel
theorem d_M_wrong_0 : decode m_M_wrong.2.1 0 = .ok (.aload_n 0, 1) := by decide +kernel
theorem d_M_wrong_1 : decode m_M_wrong.2.1 1 = .ok (.iload_n 1, 1) := by decide +kernel
theorem d_M_wrong_2 : decode m_M_wrong.2.1 2 = .ok (.putfield 367, 3) := by decide +kernel
theorem d_M_wrong_5 : decode m_M_wrong.2.1 5 = .ok (.iconst (-1), 1) := by decide +kernel
theorem d_M_wrong_6 : decode m_M_wrong.2.1 6 = .ok (.ireturn, 1) := by decide +kernel
theorem d_M_simple_0 : decode m_M_simple.2.1 0 = .ok (.aload_n 0, 1) := by decide +kernel
theorem d_M_simple_1 : decode m_M_simple.2.1 1 = .ok (.getfield 46, 3) := by decide +kernel
theorem d_M_simple_4 : decode m_M_simple.2.1 4 = .ok (.iload_n 1, 1) := by decide +kernel
theorem d_M_simple_5 : decode m_M_simple.2.1 5 = .ok (.iaload, 1) := by decide +kernel
theorem d_M_simple_6 : decode m_M_simple.2.1 6 = .ok (.iconst 2, 1) := by decide +kernel
theorem d_M_simple_7 : decode m_M_simple.2.1 7 = .ok (.if_icmp .ne 10, 3) := by decide +kernel
theorem d_M_simple_10 : decode m_M_simple.2.1 10 = .ok (.aload_n 0, 1) := by decide +kernel
theorem d_M_simple_11 : decode m_M_simple.2.1 11 = .ok (.iconst 1, 1) := by decide +kernel
theorem d_M_simple_12 : decode m_M_simple.2.1 12 = .ok (.iconst 0, 1) := by decide +kernel
theorem d_M_simple_13 : decode m_M_simple.2.1 13 = .ok (.invokevirtual 271, 3) := by decide +kernel
theorem d_M_simple_16 : decode m_M_simple.2.1 16 = .ok (.ireturn, 1) := by decide +kernel
theorem d_M_simple_17 : decode m_M_simple.2.1 17 = .ok (.aload_n 0, 1) := by decide +kernel
theorem d_M_simple_18 : decode m_M_simple.2.1 18 = .ok (.getfield 46, 3) := by decide +kernel
theorem d_M_simple_21 : decode m_M_simple.2.1 21 = .ok (.iload_n 1, 1) := by decide +kernel
theorem d_M_simple_22 : decode m_M_simple.2.1 22 = .ok (.iaload, 1) := by decide +kernel
theorem d_M_simple_23 : decode m_M_simple.2.1 23 = .ok (.iconst 3, 1) := by decide +kernel
theorem d_M_simple_24 : decode m_M_simple.2.1 24 = .ok (.if_icmp .ne 6, 3) := by decide +kernel
theorem d_M_simple_27 : decode m_M_simple.2.1 27 = .ok (.bipush (-2), 2) := by decide +kernel
theorem d_M_simple_29 : decode m_M_simple.2.1 29 = .ok (.ireturn, 1) := by decide +kernel
theorem d_M_simple_30 : decode m_M_simple.2.1 30 = .ok (.aload_n 0, 1) := by decide +kernel
theorem d_M_simple_31 : decode m_M_simple.2.1 31 = .ok (.getfield 46, 3) := by decide +kernel
theorem d_M_simple_34 : decode m_M_simple.2.1 34 = .ok (.iload_n 1, 1) := by decide +kernel
theorem d_M_simple_35 : decode m_M_simple.2.1 35 = .ok (.iaload, 1) := by decide +kernel
theorem d_M_simple_36 : decode m_M_simple.2.1 36 = .ok (.iconst 1, 1) := by decide +kernel
theorem d_M_simple_37 : decode m_M_simple.2.1 37 = .ok (.if_icmp .ne 17, 3) := by decide +kernel
theorem d_M_simple_40 : decode m_M_simple.2.1 40 = .ok (.aload_n 0, 1) := by decide +kernel
theorem d_M_simple_41 : decode m_M_simple.2.1 41 = .ok (.getfield 121, 3) := by decide +kernel
theorem d_M_simple_44 : decode m_M_simple.2.1 44 = .ok (.aload_n 0, 1) := by decide +kernel
theorem d_M_simple_45 : decode m_M_simple.2.1 45 = .ok (.getfield 49, 3) := by decide +kernel
theorem d_M_simple_48 : decode m_M_simple.2.1 48 = .ok (.iload_n 1, 1) := by decide +kernel
theorem d_M_simple_49 : decode m_M_simple.2.1 49 = .ok (.iaload, 1) := by decide +kernel
theorem d_M_simple_50 : decode m_M_simple.2.1 50 = .ok (.iaload, 1) := by decide +kernel
theorem d_M_simple_51 : decode m_M_simple.2.1 51 = .ok (.goto 4, 3) := by decide +kernel
theorem d_M_simple_54 : decode m_M_simple.2.1 54 = .ok (.iconst (-1), 1) := by decide +kernel
theorem d_M_simple_55 : decode m_M_simple.2.1 55 = .ok (.istore_n 2, 1) := by decide +kernel
theorem d_M_simple_56 : decode m_M_simple.2.1 56 = .ok (.iload_n 2, 1) := by decide +kernel
theorem d_M_simple_57 : decode m_M_simple.2.1 57 = .ok (.iconst (-1), 1) := by decide +kernel
theorem d_M_simple_58 : decode m_M_simple.2.1 58 = .ok (.if_icmp .ne 21, 3) := by decide +kernel
theorem d_M_simple_61 : decode m_M_simple.2.1 61 = .ok (.aload_n 0, 1) := by decide +kernel
theorem d_M_simple_62 : decode m_M_simple.2.1 62 = .ok (.aload_n 0, 1) := by decide +kernel
theorem d_M_simple_63 : decode m_M_simple.2.1 63 = .ok (.getfield 55, 3) := by decide +kernel
theorem d_M_simple_66 : decode m_M_simple.2.1 66 = .ok (.iload_n 1, 1) := by decide +kernel
theorem d_M_simple_67 : decode m_M_simple.2.1 67 = .ok (.aload_n 0, 1) := by decide +kernel
theorem d_M_simple_68 : decode m_M_simple.2.1 68 = .ok (.getfield 197, 3) := by decide +kernel
theorem d_M_simple_71 : decode m_M_simple.2.1 71 = .ok (.isub, 1) := by decide +kernel
theorem d_M_simple_72 : decode m_M_simple.2.1 72 = .ok (.iaload, 1) := by decide +kernel
theorem d_M_simple_73 : decode m_M_simple.2.1 73 = .ok (.invokevirtual 370, 3) := by decide +kernel
theorem d_M_simple_76 : decode m_M_simple.2.1 76 = .ok (.goto 4, 3) := by decide +kernel
theorem d_M_simple_79 : decode m_M_simple.2.1 79 = .ok (.iload_n 2, 1) := by decide +kernel
theorem d_M_simple_80 : decode m_M_simple.2.1 80 = .ok (.ireturn, 1) := by decide +kernel
theorem d_M_begin_0 : decode m_M_begin.2.1 0 = .ok (.aload_n 0, 1) := by decide +kernel
theorem d_M_begin_1 : decode m_M_begin.2.1 1 = .ok (.getfield 49, 3) := by decide +kernel
theorem d_M_begin_4 : decode m_M_begin.2.1 4 = .ok (.iload_n 1, 1) := by decide +kernel
theorem d_M_begin_5 : decode m_M_begin.2.1 5 = .ok (.iaload, 1) := by decide +kernel
theorem d_M_begin_6 : decode m_M_begin.2.1 6 = .ok (.istore_n 3, 1) := by decide +kernel
theorem d_M_begin_7 : decode m_M_begin.2.1 7 = .ok (.aload_n 0, 1) := by decide +kernel
theorem d_M_begin_8 : decode m_M_begin.2.1 8 = .ok (.getfield 19, 3) := by decide +kernel
theorem d_M_begin_11 : decode m_M_begin.2.1 11 = .ok (.iload_n 3, 1) := by decide +kernel
theorem d_M_begin_12 : decode m_M_begin.2.1 12 = .ok (.iaload, 1) := by decide +kernel
theorem d_M_begin_13 : decode m_M_begin.2.1 13 = .ok (.iconst 1, 1) := by decide +kernel
theorem d_M_begin_14 : decode m_M_begin.2.1 14 = .ok (.if_icmp .ne 33, 3) := by decide +kernel
theorem d_M_begin_17 : decode m_M_begin.2.1 17 = .ok (.aload_n 0, 1) := by decide +kernel
theorem d_M_begin_18 : decode m_M_begin.2.1 18 = .ok (.getfield 22, 3) := by decide +kernel
theorem d_M_begin_21 : decode m_M_begin.2.1 21 = .ok (.iload_n 3, 1) := by decide +kernel
theorem d_M_begin_22 : decode m_M_begin.2.1 22 = .ok (.iaload, 1) := by decide +kernel
theorem d_M_begin_23 : decode m_M_begin.2.1 23 = .ok (.aload_n 0, 1) := by decide +kernel
theorem d_M_begin_24 : decode m_M_begin.2.1 24 = .ok (.getfield 52, 3) := by decide +kernel
theorem d_M_begin_27 : decode m_M_begin.2.1 27 = .ok (.iload_n 1, 1) := by decide +kernel
theorem d_M_begin_28 : decode m_M_begin.2.1 28 = .ok (.iaload, 1) := by decide +kernel
theorem d_M_begin_29 : decode m_M_begin.2.1 29 = .ok (.if_icmp .ne 18, 3) := by decide +kernel
theorem d_M_begin_32 : decode m_M_begin.2.1 32 = .ok (.aload_n 0, 1) := by decide +kernel
theorem d_M_begin_33 : decode m_M_begin.2.1 33 = .ok (.getfield 373, 3) := by decide +kernel
theorem d_M_begin_36 : decode m_M_begin.2.1 36 = .ok (.ifCond .eq 28, 3) := by decide +kernel
theorem d_M_begin_39 : decode m_M_begin.2.1 39 = .ok (.aload_n 0, 1) := by decide +kernel
theorem d_M_begin_40 : decode m_M_begin.2.1 40 = .ok (.iload_n 3, 1) := by decide +kernel
theorem d_M_begin_41 : decode m_M_begin.2.1 41 = .ok (.invokevirtual 376, 3) := by decide +kernel
theorem d_M_begin_44 : decode m_M_begin.2.1 44 = .ok (.ifCond .eq 20, 3) := by decide +kernel
theorem d_M_begin_47 : decode m_M_begin.2.1 47 = .ok (.aload_n 0, 1) := by decide +kernel
theorem d_M_begin_48 : decode m_M_begin.2.1 48 = .ok (.aload_n 0, 1) := by decide +kernel
theorem d_M_begin_49 : decode m_M_begin.2.1 49 = .ok (.getfield 55, 3) := by decide +kernel
theorem d_M_begin_52 : decode m_M_begin.2.1 52 = .ok (.iload_n 1, 1) := by decide +kernel
theorem d_M_begin_53 : decode m_M_begin.2.1 53 = .ok (.aload_n 0, 1) := by decide +kernel
theorem d_M_begin_54 : decode m_M_begin.2.1 54 = .ok (.getfield 197, 3) := by decide +kernel
theorem d_M_begin_57 : decode m_M_begin.2.1 57 = .ok (.isub, 1) := by decide +kernel
theorem d_M_begin_58 : decode m_M_begin.2.1 58 = .ok (.iaload, 1) := by decide +kernel
theorem d_M_begin_59 : decode m_M_begin.2.1 59 = .ok (.putfield 367, 3) := by decide +kernel
theorem d_M_begin_62 : decode m_M_begin.2.1 62 = .ok (.iconst 0, 1) := by decide +kernel
theorem d_M_begin_63 : decode m_M_begin.2.1 63 = .ok (.ireturn, 1) := by decide +kernel
theorem d_M_begin_64 : decode m_M_begin.2.1 64 = .ok (.aload_n 0, 1) := by decide +kernel
theorem d_M_begin_65 : decode m_M_begin.2.1 65 = .ok (.getfield 124, 3) := by decide +kernel
theorem d_M_begin_68 : decode m_M_begin.2.1 68 = .ok (.iload_n 2, 1) := by decide +kernel
theorem d_M_begin_69 : decode m_M_begin.2.1 69 = .ok (.iload_n 1, 1) := by decide +kernel
theorem d_M_begin_70 : decode m_M_begin.2.1 70 = .ok (.iastore, 1) := by decide +kernel
theorem d_M_begin_71 : decode m_M_begin.2.1 71 = .ok (.aload_n 0, 1) := by decide +kernel
theorem d_M_begin_72 : decode m_M_begin.2.1 72 = .ok (.getfield 127, 3) := by decide +kernel
theorem d_M_begin_75 : decode m_M_begin.2.1 75 = .ok (.iload_n 2, 1) := by decide +kernel
theorem d_M_begin_76 : decode m_M_begin.2.1 76 = .ok (.iconst 0, 1) := by decide +kernel
theorem d_M_begin_77 : decode m_M_begin.2.1 77 = .ok (.iastore, 1) := by decide +kernel
theorem d_M_begin_78 : decode m_M_begin.2.1 78 = .ok (.aload_n 0, 1) := by decide +kernel
theorem d_M_begin_79 : decode m_M_begin.2.1 79 = .ok (.getfield 130, 3) := by decide +kernel
theorem d_M_begin_82 : decode m_M_begin.2.1 82 = .ok (.iload_n 2, 1) := by decide +kernel
theorem d_M_begin_83 : decode m_M_begin.2.1 83 = .ok (.iload_n 1, 1) := by decide +kernel
theorem d_M_begin_84 : decode m_M_begin.2.1 84 = .ok (.iconst 1, 1) := by decide +kernel
theorem d_M_begin_85 : decode m_M_begin.2.1 85 = .ok (.iadd, 1) := by decide +kernel
theorem d_M_begin_86 : decode m_M_begin.2.1 86 = .ok (.iastore, 1) := by decide +kernel
theorem d_M_begin_87 : decode m_M_begin.2.1 87 = .ok (.aload_n 0, 1) := by decide +kernel
theorem d_M_begin_88 : decode m_M_begin.2.1 88 = .ok (.getfield 133, 3) := by decide +kernel
theorem d_M_begin_91 : decode m_M_begin.2.1 91 = .ok (.iload_n 2, 1) := by decide +kernel
theorem d_M_begin_92 : decode m_M_begin.2.1 92 = .ok (.aload_n 0, 1) := by decide +kernel
theorem d_M_begin_93 : decode m_M_begin.2.1 93 = .ok (.getfield 259, 3) := by decide +kernel
theorem d_M_begin_96 : decode m_M_begin.2.1 96 = .ok (.iastore, 1) := by decide +kernel
theorem d_M_begin_97 : decode m_M_begin.2.1 97 = .ok (.aload_n 0, 1) := by decide +kernel
theorem d_M_begin_98 : decode m_M_begin.2.1 98 = .ok (.getfield 136, 3) := by decide +kernel
theorem d_M_begin_101 : decode m_M_begin.2.1 101 = .ok (.iload_n 2, 1) := by decide +kernel
theorem d_M_begin_102 : decode m_M_begin.2.1 102 = .ok (.aload_n 0, 1) := by decide +kernel
theorem d_M_begin_103 : decode m_M_begin.2.1 103 = .ok (.getfield 262, 3) := by decide +kernel
theorem d_M_begin_106 : decode m_M_begin.2.1 106 = .ok (.iastore, 1) := by decide +kernel
theorem d_M_begin_107 : decode m_M_begin.2.1 107 = .ok (.aload_n 0, 1) := by decide +kernel
theorem d_M_begin_108 : decode m_M_begin.2.1 108 = .ok (.getfield 139, 3) := by decide +kernel
theorem d_M_begin_111 : decode m_M_begin.2.1 111 = .ok (.iload_n 2, 1) := by decide +kernel
theorem d_M_begin_112 : decode m_M_begin.2.1 112 = .ok (.aload_n 0, 1) := by decide +kernel
theorem d_M_begin_113 : decode m_M_begin.2.1 113 = .ok (.getfield 265, 3) := by decide +kernel
theorem d_M_begin_116 : decode m_M_begin.2.1 116 = .ok (.iastore, 1) := by decide +kernel
theorem d_M_begin_117 : decode m_M_begin.2.1 117 = .ok (.iconst 0, 1) := by decide +kernel
theorem d_M_begin_118 : decode m_M_begin.2.1 118 = .ok (.istore 4, 2) := by decide +kernel
theorem d_M_begin_120 : decode m_M_begin.2.1 120 = .ok (.iload 4, 2) := by decide +kernel
theorem d_M_begin_122 : decode m_M_begin.2.1 122 = .ok (.bipush 26, 2) := by decide +kernel
theorem d_M_begin_124 : decode m_M_begin.2.1 124 = .ok (.if_icmp .ge 22, 3) := by decide +kernel
theorem d_M_begin_127 : decode m_M_begin.2.1 127 = .ok (.aload_n 0, 1) := by decide +kernel
theorem d_M_begin_128 : decode m_M_begin.2.1 128 = .ok (.getfield 118, 3) := by decide +kernel
theorem d_M_begin_131 : decode m_M_begin.2.1 131 = .ok (.bipush 26, 2) := by decide +kernel
theorem d_M_begin_133 : decode m_M_begin.2.1 133 = .ok (.iload_n 2, 1) := by decide +kernel
theorem d_M_begin_134 : decode m_M_begin.2.1 134 = .ok (.imul, 1) := by decide +kernel
theorem d_M_begin_135 : decode m_M_begin.2.1 135 = .ok (.iload 4, 2) := by decide +kernel
theorem d_M_begin_137 : decode m_M_begin.2.1 137 = .ok (.iadd, 1) := by decide +kernel
theorem d_M_begin_138 : decode m_M_begin.2.1 138 = .ok (.iconst (-1), 1) := by decide +kernel
theorem d_M_begin_139 : decode m_M_begin.2.1 139 = .ok (.iastore, 1) := by decide +kernel
theorem d_M_begin_140 : decode m_M_begin.2.1 140 = .ok (.iinc 4 1, 3) := by decide +kernel
theorem d_M_begin_143 : decode m_M_begin.2.1 143 = .ok (.goto (-23), 3) := by decide +kernel
theorem d_M_begin_146 : decode m_M_begin.2.1 146 = .ok (.iconst 1, 1) := by decide +kernel
theorem d_M_begin_147 : decode m_M_begin.2.1 147 = .ok (.ireturn, 1) := by decide +kernel
theorem d_M_settle_0 : decode m_M_settle.2.1 0 = .ok (.aload_n 0, 1) := by decide +kernel
theorem d_M_settle_1 : decode m_M_settle.2.1 1 = .ok (.getfield 28, 3) := by decide +kernel
theorem d_M_settle_4 : decode m_M_settle.2.1 4 = .ok (.aload_n 0, 1) := by decide +kernel
theorem d_M_settle_5 : decode m_M_settle.2.1 5 = .ok (.getfield 49, 3) := by decide +kernel
theorem d_M_settle_8 : decode m_M_settle.2.1 8 = .ok (.aload_n 0, 1) := by decide +kernel
theorem d_M_settle_9 : decode m_M_settle.2.1 9 = .ok (.getfield 124, 3) := by decide +kernel
theorem d_M_settle_12 : decode m_M_settle.2.1 12 = .ok (.iload_n 1, 1) := by decide +kernel
theorem d_M_settle_13 : decode m_M_settle.2.1 13 = .ok (.iaload, 1) := by decide +kernel
theorem d_M_settle_14 : decode m_M_settle.2.1 14 = .ok (.iaload, 1) := by decide +kernel
theorem d_M_settle_15 : decode m_M_settle.2.1 15 = .ok (.iaload, 1) := by decide +kernel
theorem d_M_settle_16 : decode m_M_settle.2.1 16 = .ok (.aload_n 0, 1) := by decide +kernel
theorem d_M_settle_17 : decode m_M_settle.2.1 17 = .ok (.getfield 127, 3) := by decide +kernel
theorem d_M_settle_20 : decode m_M_settle.2.1 20 = .ok (.iload_n 1, 1) := by decide +kernel
theorem d_M_settle_21 : decode m_M_settle.2.1 21 = .ok (.iaload, 1) := by decide +kernel
theorem d_M_settle_22 : decode m_M_settle.2.1 22 = .ok (.iadd, 1) := by decide +kernel
theorem d_M_settle_23 : decode m_M_settle.2.1 23 = .ok (.istore_n 2, 1) := by decide +kernel
theorem d_M_settle_24 : decode m_M_settle.2.1 24 = .ok (.aload_n 0, 1) := by decide +kernel
theorem d_M_settle_25 : decode m_M_settle.2.1 25 = .ok (.getfield 61, 3) := by decide +kernel
theorem d_M_settle_28 : decode m_M_settle.2.1 28 = .ok (.iload_n 2, 1) := by decide +kernel
theorem d_M_settle_29 : decode m_M_settle.2.1 29 = .ok (.iaload, 1) := by decide +kernel
theorem d_M_settle_30 : decode m_M_settle.2.1 30 = .ok (.ifCond .ne 30, 3) := by decide +kernel
theorem d_M_settle_33 : decode m_M_settle.2.1 33 = .ok (.aload_n 0, 1) := by decide +kernel
theorem d_M_settle_34 : decode m_M_settle.2.1 34 = .ok (.getfield 118, 3) := by decide +kernel
theorem d_M_settle_37 : decode m_M_settle.2.1 37 = .ok (.bipush 26, 2) := by decide +kernel
theorem d_M_settle_39 : decode m_M_settle.2.1 39 = .ok (.iload_n 1, 1) := by decide +kernel
theorem d_M_settle_40 : decode m_M_settle.2.1 40 = .ok (.imul, 1) := by decide +kernel
theorem d_M_settle_41 : decode m_M_settle.2.1 41 = .ok (.aload_n 0, 1) := by decide +kernel
theorem d_M_settle_42 : decode m_M_settle.2.1 42 = .ok (.getfield 64, 3) := by decide +kernel
theorem d_M_settle_45 : decode m_M_settle.2.1 45 = .ok (.iload_n 2, 1) := by decide +kernel
theorem d_M_settle_46 : decode m_M_settle.2.1 46 = .ok (.iaload, 1) := by decide +kernel
theorem d_M_settle_47 : decode m_M_settle.2.1 47 = .ok (.iadd, 1) := by decide +kernel
theorem d_M_settle_48 : decode m_M_settle.2.1 48 = .ok (.aload_n 0, 1) := by decide +kernel
theorem d_M_settle_49 : decode m_M_settle.2.1 49 = .ok (.aload_n 0, 1) := by decide +kernel
theorem d_M_settle_50 : decode m_M_settle.2.1 50 = .ok (.getfield 130, 3) := by decide +kernel
theorem d_M_settle_53 : decode m_M_settle.2.1 53 = .ok (.iload_n 1, 1) := by decide +kernel
theorem d_M_settle_54 : decode m_M_settle.2.1 54 = .ok (.iaload, 1) := by decide +kernel
theorem d_M_settle_55 : decode m_M_settle.2.1 55 = .ok (.iconst 0, 1) := by decide +kernel
theorem d_M_settle_56 : decode m_M_settle.2.1 56 = .ok (.invokevirtual 379, 3) := by decide +kernel
theorem d_M_settle_59 : decode m_M_settle.2.1 59 = .ok (.iastore, 1) := by decide +kernel
theorem d_M_settle_60 : decode m_M_settle.2.1 60 = .ok (.aload_n 0, 1) := by decide +kernel
theorem d_M_settle_61 : decode m_M_settle.2.1 61 = .ok (.getfield 130, 3) := by decide +kernel
theorem d_M_settle_64 : decode m_M_settle.2.1 64 = .ok (.iload_n 1, 1) := by decide +kernel
theorem d_M_settle_65 : decode m_M_settle.2.1 65 = .ok (.aload_n 0, 1) := by decide +kernel
theorem d_M_settle_66 : decode m_M_settle.2.1 66 = .ok (.aload_n 0, 1) := by decide +kernel
theorem d_M_settle_67 : decode m_M_settle.2.1 67 = .ok (.getfield 130, 3) := by decide +kernel
theorem d_M_settle_70 : decode m_M_settle.2.1 70 = .ok (.iload_n 1, 1) := by decide +kernel
theorem d_M_settle_71 : decode m_M_settle.2.1 71 = .ok (.iaload, 1) := by decide +kernel
theorem d_M_settle_72 : decode m_M_settle.2.1 72 = .ok (.invokevirtual 268, 3) := by decide +kernel
theorem d_M_settle_75 : decode m_M_settle.2.1 75 = .ok (.iastore, 1) := by decide +kernel
theorem d_M_settle_76 : decode m_M_settle.2.1 76 = .ok (.aload_n 0, 1) := by decide +kernel
theorem d_M_settle_77 : decode m_M_settle.2.1 77 = .ok (.getfield 127, 3) := by decide +kernel
theorem d_M_settle_80 : decode m_M_settle.2.1 80 = .ok (.iload_n 1, 1) := by decide +kernel
theorem d_M_settle_81 : decode m_M_settle.2.1 81 = .ok (.dup2, 1) := by decide +kernel
theorem d_M_settle_82 : decode m_M_settle.2.1 82 = .ok (.iaload, 1) := by decide +kernel
theorem d_M_settle_83 : decode m_M_settle.2.1 83 = .ok (.iconst 1, 1) := by decide +kernel
theorem d_M_settle_84 : decode m_M_settle.2.1 84 = .ok (.iadd, 1) := by decide +kernel
theorem d_M_settle_85 : decode m_M_settle.2.1 85 = .ok (.iastore, 1) := by decide +kernel
theorem d_M_settle_86 : decode m_M_settle.2.1 86 = .ok (.return_, 1) := by decide +kernel
theorem d_M_condition_0 : decode m_M_condition.2.1 0 = .ok (.aload_n 0, 1) := by decide +kernel
theorem d_M_condition_1 : decode m_M_condition.2.1 1 = .ok (.getfield 67, 3) := by decide +kernel
theorem d_M_condition_4 : decode m_M_condition.2.1 4 = .ok (.iload_n 1, 1) := by decide +kernel
theorem d_M_condition_5 : decode m_M_condition.2.1 5 = .ok (.iaload, 1) := by decide +kernel
theorem d_M_condition_6 : decode m_M_condition.2.1 6 = .ok (.istore_n 3, 1) := by decide +kernel
theorem d_M_condition_7 : decode m_M_condition.2.1 7 = .ok (.aload_n 0, 1) := by decide +kernel
theorem d_M_condition_8 : decode m_M_condition.2.1 8 = .ok (.getfield 259, 3) := by decide +kernel
theorem d_M_condition_11 : decode m_M_condition.2.1 11 = .ok (.istore 4, 2) := by decide +kernel
theorem d_M_condition_13 : decode m_M_condition.2.1 13 = .ok (.aload_n 0, 1) := by decide +kernel
theorem d_M_condition_14 : decode m_M_condition.2.1 14 = .ok (.getfield 262, 3) := by decide +kernel
theorem d_M_condition_17 : decode m_M_condition.2.1 17 = .ok (.istore 5, 2) := by decide +kernel
theorem d_M_condition_19 : decode m_M_condition.2.1 19 = .ok (.aload_n 0, 1) := by decide +kernel
theorem d_M_condition_20 : decode m_M_condition.2.1 20 = .ok (.getfield 265, 3) := by decide +kernel
theorem d_M_condition_23 : decode m_M_condition.2.1 23 = .ok (.istore 6, 2) := by decide +kernel
theorem d_M_condition_25 : decode m_M_condition.2.1 25 = .ok (.iconst 0, 1) := by decide +kernel
theorem d_M_condition_26 : decode m_M_condition.2.1 26 = .ok (.istore 7, 2) := by decide +kernel
theorem d_M_condition_28 : decode m_M_condition.2.1 28 = .ok (.iload 7, 2) := by decide +kernel
theorem d_M_condition_30 : decode m_M_condition.2.1 30 = .ok (.aload_n 0, 1) := by decide +kernel
theorem d_M_condition_31 : decode m_M_condition.2.1 31 = .ok (.getfield 70, 3) := by decide +kernel
theorem d_M_condition_34 : decode m_M_condition.2.1 34 = .ok (.iload_n 1, 1) := by decide +kernel
theorem d_M_condition_35 : decode m_M_condition.2.1 35 = .ok (.iaload, 1) := by decide +kernel
theorem d_M_condition_36 : decode m_M_condition.2.1 36 = .ok (.if_icmp .ge 28, 3) := by decide +kernel
theorem d_M_condition_39 : decode m_M_condition.2.1 39 = .ok (.aload_n 0, 1) := by decide +kernel
theorem d_M_condition_40 : decode m_M_condition.2.1 40 = .ok (.getfield 142, 3) := by decide +kernel
theorem d_M_condition_43 : decode m_M_condition.2.1 43 = .ok (.iload 7, 2) := by decide +kernel
theorem d_M_condition_45 : decode m_M_condition.2.1 45 = .ok (.aload_n 0, 1) := by decide +kernel
theorem d_M_condition_46 : decode m_M_condition.2.1 46 = .ok (.iload_n 3, 1) := by decide +kernel
theorem d_M_condition_47 : decode m_M_condition.2.1 47 = .ok (.iload_n 2, 1) := by decide +kernel
theorem d_M_condition_48 : decode m_M_condition.2.1 48 = .ok (.invokevirtual 379, 3) := by decide +kernel
theorem d_M_condition_51 : decode m_M_condition.2.1 51 = .ok (.iastore, 1) := by decide +kernel
theorem d_M_condition_52 : decode m_M_condition.2.1 52 = .ok (.aload_n 0, 1) := by decide +kernel
theorem d_M_condition_53 : decode m_M_condition.2.1 53 = .ok (.iload_n 3, 1) := by decide +kernel
theorem d_M_condition_54 : decode m_M_condition.2.1 54 = .ok (.invokevirtual 268, 3) := by decide +kernel
theorem d_M_condition_57 : decode m_M_condition.2.1 57 = .ok (.istore_n 3, 1) := by decide +kernel
theorem d_M_condition_58 : decode m_M_condition.2.1 58 = .ok (.iinc 7 1, 3) := by decide +kernel
theorem d_M_condition_61 : decode m_M_condition.2.1 61 = .ok (.goto (-33), 3) := by decide +kernel
theorem d_M_condition_64 : decode m_M_condition.2.1 64 = .ok (.aload_n 0, 1) := by decide +kernel
theorem d_M_condition_65 : decode m_M_condition.2.1 65 = .ok (.aload_n 0, 1) := by decide +kernel
theorem d_M_condition_66 : decode m_M_condition.2.1 66 = .ok (.getfield 64, 3) := by decide +kernel
theorem d_M_condition_69 : decode m_M_condition.2.1 69 = .ok (.iload_n 1, 1) := by decide +kernel
theorem d_M_condition_70 : decode m_M_condition.2.1 70 = .ok (.iaload, 1) := by decide +kernel
theorem d_M_condition_71 : decode m_M_condition.2.1 71 = .ok (.invokevirtual 382, 3) := by decide +kernel
theorem d_M_condition_74 : decode m_M_condition.2.1 74 = .ok (.istore 7, 2) := by decide +kernel
theorem d_M_condition_76 : decode m_M_condition.2.1 76 = .ok (.iload 7, 2) := by decide +kernel
theorem d_M_condition_78 : decode m_M_condition.2.1 78 = .ok (.iconst (-1), 1) := by decide +kernel
theorem d_M_condition_79 : decode m_M_condition.2.1 79 = .ok (.if_icmp .eq 22, 3) := by decide +kernel
theorem d_M_condition_82 : decode m_M_condition.2.1 82 = .ok (.aload_n 0, 1) := by decide +kernel
theorem d_M_condition_83 : decode m_M_condition.2.1 83 = .ok (.iload 7, 2) := by decide +kernel
theorem d_M_condition_85 : decode m_M_condition.2.1 85 = .ok (.aload_n 0, 1) := by decide +kernel
theorem d_M_condition_86 : decode m_M_condition.2.1 86 = .ok (.iload_n 3, 1) := by decide +kernel
theorem d_M_condition_87 : decode m_M_condition.2.1 87 = .ok (.iload_n 2, 1) := by decide +kernel
theorem d_M_condition_88 : decode m_M_condition.2.1 88 = .ok (.invokevirtual 379, 3) := by decide +kernel
theorem d_M_condition_91 : decode m_M_condition.2.1 91 = .ok (.invokevirtual 385, 3) := by decide +kernel
theorem d_M_condition_94 : decode m_M_condition.2.1 94 = .ok (.ifCond .eq 7, 3) := by decide +kernel
theorem d_M_condition_97 : decode m_M_condition.2.1 97 = .ok (.iconst 1, 1) := by decide +kernel
theorem d_M_condition_98 : decode m_M_condition.2.1 98 = .ok (.goto 4, 3) := by decide +kernel
theorem d_M_condition_101 : decode m_M_condition.2.1 101 = .ok (.iconst 0, 1) := by decide +kernel
theorem d_M_condition_102 : decode m_M_condition.2.1 102 = .ok (.istore 8, 2) := by decide +kernel
theorem d_M_condition_104 : decode m_M_condition.2.1 104 = .ok (.aload_n 0, 1) := by decide +kernel
theorem d_M_condition_105 : decode m_M_condition.2.1 105 = .ok (.getfield 265, 3) := by decide +kernel
theorem d_M_condition_108 : decode m_M_condition.2.1 108 = .ok (.iload 6, 2) := by decide +kernel
theorem d_M_condition_110 : decode m_M_condition.2.1 110 = .ok (.if_icmp .ne 15, 3) := by decide +kernel
theorem d_M_condition_113 : decode m_M_condition.2.1 113 = .ok (.aload_n 0, 1) := by decide +kernel
theorem d_M_condition_114 : decode m_M_condition.2.1 114 = .ok (.iload 4, 2) := by decide +kernel
theorem d_M_condition_116 : decode m_M_condition.2.1 116 = .ok (.putfield 259, 3) := by decide +kernel
theorem d_M_condition_119 : decode m_M_condition.2.1 119 = .ok (.aload_n 0, 1) := by decide +kernel
theorem d_M_condition_120 : decode m_M_condition.2.1 120 = .ok (.iload 5, 2) := by decide +kernel
theorem d_M_condition_122 : decode m_M_condition.2.1 122 = .ok (.putfield 262, 3) := by decide +kernel
theorem d_M_condition_125 : decode m_M_condition.2.1 125 = .ok (.iload 8, 2) := by decide +kernel
theorem d_M_condition_127 : decode m_M_condition.2.1 127 = .ok (.ireturn, 1) := by decide +kernel
theorem d_M_goOn_0 : decode m_M_goOn.2.1 0 = .ok (.aload_n 0, 1) := by decide +kernel
theorem d_M_goOn_1 : decode m_M_goOn.2.1 1 = .ok (.getfield 49, 3) := by decide +kernel
theorem d_M_goOn_4 : decode m_M_goOn.2.1 4 = .ok (.aload_n 0, 1) := by decide +kernel
theorem d_M_goOn_5 : decode m_M_goOn.2.1 5 = .ok (.getfield 124, 3) := by decide +kernel
theorem d_M_goOn_8 : decode m_M_goOn.2.1 8 = .ok (.iload_n 1, 1) := by decide +kernel
theorem d_M_goOn_9 : decode m_M_goOn.2.1 9 = .ok (.iaload, 1) := by decide +kernel
theorem d_M_goOn_10 : decode m_M_goOn.2.1 10 = .ok (.iaload, 1) := by decide +kernel
theorem d_M_goOn_11 : decode m_M_goOn.2.1 11 = .ok (.istore_n 2, 1) := by decide +kernel
theorem d_M_goOn_12 : decode m_M_goOn.2.1 12 = .ok (.aload_n 0, 1) := by decide +kernel
theorem d_M_goOn_13 : decode m_M_goOn.2.1 13 = .ok (.getfield 127, 3) := by decide +kernel
theorem d_M_goOn_16 : decode m_M_goOn.2.1 16 = .ok (.iload_n 1, 1) := by decide +kernel
theorem d_M_goOn_17 : decode m_M_goOn.2.1 17 = .ok (.iaload, 1) := by decide +kernel
theorem d_M_goOn_18 : decode m_M_goOn.2.1 18 = .ok (.aload_n 0, 1) := by decide +kernel
theorem d_M_goOn_19 : decode m_M_goOn.2.1 19 = .ok (.getfield 31, 3) := by decide +kernel
theorem d_M_goOn_22 : decode m_M_goOn.2.1 22 = .ok (.iload_n 2, 1) := by decide +kernel
theorem d_M_goOn_23 : decode m_M_goOn.2.1 23 = .ok (.iaload, 1) := by decide +kernel
theorem d_M_goOn_24 : decode m_M_goOn.2.1 24 = .ok (.if_icmp .ge 133, 3) := by decide +kernel
theorem d_M_goOn_27 : decode m_M_goOn.2.1 27 = .ok (.aload_n 0, 1) := by decide +kernel
theorem d_M_goOn_28 : decode m_M_goOn.2.1 28 = .ok (.getfield 28, 3) := by decide +kernel
theorem d_M_goOn_31 : decode m_M_goOn.2.1 31 = .ok (.iload_n 2, 1) := by decide +kernel
theorem d_M_goOn_32 : decode m_M_goOn.2.1 32 = .ok (.iaload, 1) := by decide +kernel
theorem d_M_goOn_33 : decode m_M_goOn.2.1 33 = .ok (.aload_n 0, 1) := by decide +kernel
theorem d_M_goOn_34 : decode m_M_goOn.2.1 34 = .ok (.getfield 127, 3) := by decide +kernel
theorem d_M_goOn_37 : decode m_M_goOn.2.1 37 = .ok (.iload_n 1, 1) := by decide +kernel
theorem d_M_goOn_38 : decode m_M_goOn.2.1 38 = .ok (.iaload, 1) := by decide +kernel
theorem d_M_goOn_39 : decode m_M_goOn.2.1 39 = .ok (.iadd, 1) := by decide +kernel
theorem d_M_goOn_40 : decode m_M_goOn.2.1 40 = .ok (.istore_n 3, 1) := by decide +kernel
theorem d_M_goOn_41 : decode m_M_goOn.2.1 41 = .ok (.aload_n 0, 1) := by decide +kernel
theorem d_M_goOn_42 : decode m_M_goOn.2.1 42 = .ok (.getfield 130, 3) := by decide +kernel
theorem d_M_goOn_45 : decode m_M_goOn.2.1 45 = .ok (.iload_n 1, 1) := by decide +kernel
theorem d_M_goOn_46 : decode m_M_goOn.2.1 46 = .ok (.iaload, 1) := by decide +kernel
theorem d_M_goOn_47 : decode m_M_goOn.2.1 47 = .ok (.istore 4, 2) := by decide +kernel
theorem d_M_goOn_49 : decode m_M_goOn.2.1 49 = .ok (.aload_n 0, 1) := by decide +kernel
theorem d_M_goOn_50 : decode m_M_goOn.2.1 50 = .ok (.getfield 61, 3) := by decide +kernel
theorem d_M_goOn_53 : decode m_M_goOn.2.1 53 = .ok (.iload_n 3, 1) := by decide +kernel
theorem d_M_goOn_54 : decode m_M_goOn.2.1 54 = .ok (.iaload, 1) := by decide +kernel
theorem d_M_goOn_55 : decode m_M_goOn.2.1 55 = .ok (.iconst 2, 1) := by decide +kernel
theorem d_M_goOn_56 : decode m_M_goOn.2.1 56 = .ok (.if_icmp .ne 48, 3) := by decide +kernel
theorem d_M_goOn_59 : decode m_M_goOn.2.1 59 = .ok (.aload_n 0, 1) := by decide +kernel
theorem d_M_goOn_60 : decode m_M_goOn.2.1 60 = .ok (.iload_n 3, 1) := by decide +kernel
theorem d_M_goOn_61 : decode m_M_goOn.2.1 61 = .ok (.iload_n 1, 1) := by decide +kernel
theorem d_M_goOn_62 : decode m_M_goOn.2.1 62 = .ok (.invokevirtual 388, 3) := by decide +kernel
theorem d_M_goOn_65 : decode m_M_goOn.2.1 65 = .ok (.ifCond .ne 26, 3) := by decide +kernel
theorem d_M_goOn_68 : decode m_M_goOn.2.1 68 = .ok (.aload_n 0, 1) := by decide +kernel
theorem d_M_goOn_69 : decode m_M_goOn.2.1 69 = .ok (.aload_n 0, 1) := by decide +kernel
theorem d_M_goOn_70 : decode m_M_goOn.2.1 70 = .ok (.getfield 55, 3) := by decide +kernel
theorem d_M_goOn_73 : decode m_M_goOn.2.1 73 = .ok (.aload_n 0, 1) := by decide +kernel
theorem d_M_goOn_74 : decode m_M_goOn.2.1 74 = .ok (.getfield 124, 3) := by decide +kernel
theorem d_M_goOn_77 : decode m_M_goOn.2.1 77 = .ok (.iload_n 1, 1) := by decide +kernel
theorem d_M_goOn_78 : decode m_M_goOn.2.1 78 = .ok (.iaload, 1) := by decide +kernel
theorem d_M_goOn_79 : decode m_M_goOn.2.1 79 = .ok (.aload_n 0, 1) := by decide +kernel
theorem d_M_goOn_80 : decode m_M_goOn.2.1 80 = .ok (.getfield 197, 3) := by decide +kernel
theorem d_M_goOn_83 : decode m_M_goOn.2.1 83 = .ok (.isub, 1) := by decide +kernel
theorem d_M_goOn_84 : decode m_M_goOn.2.1 84 = .ok (.iaload, 1) := by decide +kernel
theorem d_M_goOn_85 : decode m_M_goOn.2.1 85 = .ok (.putfield 367, 3) := by decide +kernel
theorem d_M_goOn_88 : decode m_M_goOn.2.1 88 = .ok (.bipush (-2), 2) := by decide +kernel
theorem d_M_goOn_90 : decode m_M_goOn.2.1 90 = .ok (.ireturn, 1) := by decide +kernel
theorem d_M_goOn_91 : decode m_M_goOn.2.1 91 = .ok (.aload_n 0, 1) := by decide +kernel
theorem d_M_goOn_92 : decode m_M_goOn.2.1 92 = .ok (.getfield 127, 3) := by decide +kernel
theorem d_M_goOn_95 : decode m_M_goOn.2.1 95 = .ok (.iload_n 1, 1) := by decide +kernel
theorem d_M_goOn_96 : decode m_M_goOn.2.1 96 = .ok (.dup2, 1) := by decide +kernel
theorem d_M_goOn_97 : decode m_M_goOn.2.1 97 = .ok (.iaload, 1) := by decide +kernel
theorem d_M_goOn_98 : decode m_M_goOn.2.1 98 = .ok (.iconst 1, 1) := by decide +kernel
theorem d_M_goOn_99 : decode m_M_goOn.2.1 99 = .ok (.iadd, 1) := by decide +kernel
theorem d_M_goOn_100 : decode m_M_goOn.2.1 100 = .ok (.iastore, 1) := by decide +kernel
theorem d_M_goOn_101 : decode m_M_goOn.2.1 101 = .ok (.goto 53, 3) := by decide +kernel
theorem d_M_goOn_104 : decode m_M_goOn.2.1 104 = .ok (.aload_n 0, 1) := by decide +kernel
theorem d_M_goOn_105 : decode m_M_goOn.2.1 105 = .ok (.getfield 46, 3) := by decide +kernel
theorem d_M_goOn_108 : decode m_M_goOn.2.1 108 = .ok (.iload 4, 2) := by decide +kernel
theorem d_M_goOn_110 : decode m_M_goOn.2.1 110 = .ok (.iaload, 1) := by decide +kernel
theorem d_M_goOn_111 : decode m_M_goOn.2.1 111 = .ok (.iconst 4, 1) := by decide +kernel
theorem d_M_goOn_112 : decode m_M_goOn.2.1 112 = .ok (.if_icmp .ne 39, 3) := by decide +kernel
theorem d_M_goOn_115 : decode m_M_goOn.2.1 115 = .ok (.aload_n 0, 1) := by decide +kernel
theorem d_M_goOn_116 : decode m_M_goOn.2.1 116 = .ok (.getfield 58, 3) := by decide +kernel
theorem d_M_goOn_119 : decode m_M_goOn.2.1 119 = .ok (.iload 4, 2) := by decide +kernel
theorem d_M_goOn_121 : decode m_M_goOn.2.1 121 = .ok (.aload_n 0, 1) := by decide +kernel
theorem d_M_goOn_122 : decode m_M_goOn.2.1 122 = .ok (.getfield 197, 3) := by decide +kernel
theorem d_M_goOn_125 : decode m_M_goOn.2.1 125 = .ok (.isub, 1) := by decide +kernel
theorem d_M_goOn_126 : decode m_M_goOn.2.1 126 = .ok (.aload_n 0, 1) := by decide +kernel
theorem d_M_goOn_127 : decode m_M_goOn.2.1 127 = .ok (.iconst 2, 1) := by decide +kernel
theorem d_M_goOn_128 : decode m_M_goOn.2.1 128 = .ok (.iconst (-1), 1) := by decide +kernel
theorem d_M_goOn_129 : decode m_M_goOn.2.1 129 = .ok (.invokevirtual 271, 3) := by decide +kernel
theorem d_M_goOn_132 : decode m_M_goOn.2.1 132 = .ok (.iastore, 1) := by decide +kernel
theorem d_M_goOn_133 : decode m_M_goOn.2.1 133 = .ok (.aload_n 0, 1) := by decide +kernel
theorem d_M_goOn_134 : decode m_M_goOn.2.1 134 = .ok (.dup, 1) := by decide +kernel
theorem d_M_goOn_135 : decode m_M_goOn.2.1 135 = .ok (.getfield 265, 3) := by decide +kernel
theorem d_M_goOn_138 : decode m_M_goOn.2.1 138 = .ok (.iconst 1, 1) := by decide +kernel
theorem d_M_goOn_139 : decode m_M_goOn.2.1 139 = .ok (.iadd, 1) := by decide +kernel
theorem d_M_goOn_140 : decode m_M_goOn.2.1 140 = .ok (.putfield 265, 3) := by decide +kernel
theorem d_M_goOn_143 : decode m_M_goOn.2.1 143 = .ok (.aload_n 0, 1) := by decide +kernel
theorem d_M_goOn_144 : decode m_M_goOn.2.1 144 = .ok (.iload_n 1, 1) := by decide +kernel
theorem d_M_goOn_145 : decode m_M_goOn.2.1 145 = .ok (.invokevirtual 391, 3) := by decide +kernel
theorem d_M_goOn_148 : decode m_M_goOn.2.1 148 = .ok (.goto 6, 3) := by decide +kernel
theorem d_M_goOn_151 : decode m_M_goOn.2.1 151 = .ok (.iload 4, 2) := by decide +kernel
theorem d_M_goOn_153 : decode m_M_goOn.2.1 153 = .ok (.ireturn, 1) := by decide +kernel
theorem d_M_goOn_154 : decode m_M_goOn.2.1 154 = .ok (.goto (-142), 3) := by decide +kernel
theorem d_M_goOn_157 : decode m_M_goOn.2.1 157 = .ok (.iconst (-1), 1) := by decide +kernel
theorem d_M_goOn_158 : decode m_M_goOn.2.1 158 = .ok (.ireturn, 1) := by decide +kernel
theorem d_M_typeOf_0 : decode m_M_typeOf.2.1 0 = .ok (.aload_n 0, 1) := by decide +kernel
theorem d_M_typeOf_1 : decode m_M_typeOf.2.1 1 = .ok (.getfield 46, 3) := by decide +kernel
theorem d_M_typeOf_4 : decode m_M_typeOf.2.1 4 = .ok (.iload_n 1, 1) := by decide +kernel
theorem d_M_typeOf_5 : decode m_M_typeOf.2.1 5 = .ok (.iaload, 1) := by decide +kernel
theorem d_M_typeOf_6 : decode m_M_typeOf.2.1 6 = .ok (.iconst 5, 1) := by decide +kernel
theorem d_M_typeOf_7 : decode m_M_typeOf.2.1 7 = .ok (.if_icmp .eq 9, 3) := by decide +kernel
theorem d_M_typeOf_10 : decode m_M_typeOf.2.1 10 = .ok (.aload_n 0, 1) := by decide +kernel
theorem d_M_typeOf_11 : decode m_M_typeOf.2.1 11 = .ok (.iload_n 1, 1) := by decide +kernel
theorem d_M_typeOf_12 : decode m_M_typeOf.2.1 12 = .ok (.invokevirtual 394, 3) := by decide +kernel
theorem d_M_typeOf_15 : decode m_M_typeOf.2.1 15 = .ok (.ireturn, 1) := by decide +kernel
theorem d_M_typeOf_16 : decode m_M_typeOf.2.1 16 = .ok (.iconst 1, 1) := by decide +kernel
theorem d_M_typeOf_17 : decode m_M_typeOf.2.1 17 = .ok (.istore_n 2, 1) := by decide +kernel
theorem d_M_typeOf_18 : decode m_M_typeOf.2.1 18 = .ok (.iconst (-1), 1) := by decide +kernel
theorem d_M_typeOf_19 : decode m_M_typeOf.2.1 19 = .ok (.istore_n 3, 1) := by decide +kernel
theorem d_M_typeOf_20 : decode m_M_typeOf.2.1 20 = .ok (.aload_n 0, 1) := by decide +kernel
theorem d_M_typeOf_21 : decode m_M_typeOf.2.1 21 = .ok (.iload_n 1, 1) := by decide +kernel
theorem d_M_typeOf_22 : decode m_M_typeOf.2.1 22 = .ok (.iconst 1, 1) := by decide +kernel
theorem d_M_typeOf_23 : decode m_M_typeOf.2.1 23 = .ok (.invokevirtual 397, 3) := by decide +kernel
theorem d_M_typeOf_26 : decode m_M_typeOf.2.1 26 = .ok (.ifCond .ne 5, 3) := by decide +kernel
theorem d_M_typeOf_29 : decode m_M_typeOf.2.1 29 = .ok (.iconst (-1), 1) := by decide +kernel
theorem d_M_typeOf_30 : decode m_M_typeOf.2.1 30 = .ok (.ireturn, 1) := by decide +kernel
theorem d_M_typeOf_31 : decode m_M_typeOf.2.1 31 = .ok (.iload_n 2, 1) := by decide +kernel
theorem d_M_typeOf_32 : decode m_M_typeOf.2.1 32 = .ok (.ifCond .le 141, 3) := by decide +kernel
theorem d_M_typeOf_35 : decode m_M_typeOf.2.1 35 = .ok (.aload_n 0, 1) := by decide +kernel
theorem d_M_typeOf_36 : decode m_M_typeOf.2.1 36 = .ok (.iload_n 2, 1) := by decide +kernel
theorem d_M_typeOf_37 : decode m_M_typeOf.2.1 37 = .ok (.invokevirtual 400, 3) := by decide +kernel
theorem d_M_typeOf_40 : decode m_M_typeOf.2.1 40 = .ok (.istore 4, 2) := by decide +kernel
theorem d_M_typeOf_42 : decode m_M_typeOf.2.1 42 = .ok (.iload 4, 2) := by decide +kernel
theorem d_M_typeOf_44 : decode m_M_typeOf.2.1 44 = .ok (.bipush (-2), 2) := by decide +kernel
theorem d_M_typeOf_46 : decode m_M_typeOf.2.1 46 = .ok (.if_icmp .ne 5, 3) := by decide +kernel
theorem d_M_typeOf_49 : decode m_M_typeOf.2.1 49 = .ok (.iconst (-1), 1) := by decide +kernel
theorem d_M_typeOf_50 : decode m_M_typeOf.2.1 50 = .ok (.ireturn, 1) := by decide +kernel
theorem d_M_typeOf_51 : decode m_M_typeOf.2.1 51 = .ok (.iload 4, 2) := by decide +kernel
theorem d_M_typeOf_53 : decode m_M_typeOf.2.1 53 = .ok (.ifCond .lt 29, 3) := by decide +kernel
theorem d_M_typeOf_56 : decode m_M_typeOf.2.1 56 = .ok (.aload_n 0, 1) := by decide +kernel
theorem d_M_typeOf_57 : decode m_M_typeOf.2.1 57 = .ok (.getfield 46, 3) := by decide +kernel
theorem d_M_typeOf_60 : decode m_M_typeOf.2.1 60 = .ok (.iload 4, 2) := by decide +kernel
theorem d_M_typeOf_62 : decode m_M_typeOf.2.1 62 = .ok (.iaload, 1) := by decide +kernel
theorem d_M_typeOf_63 : decode m_M_typeOf.2.1 63 = .ok (.iconst 5, 1) := by decide +kernel
theorem d_M_typeOf_64 : decode m_M_typeOf.2.1 64 = .ok (.if_icmp .ne 18, 3) := by decide +kernel
theorem d_M_typeOf_67 : decode m_M_typeOf.2.1 67 = .ok (.iinc 2 1, 3) := by decide +kernel
theorem d_M_typeOf_70 : decode m_M_typeOf.2.1 70 = .ok (.aload_n 0, 1) := by decide +kernel
theorem d_M_typeOf_71 : decode m_M_typeOf.2.1 71 = .ok (.iload 4, 2) := by decide +kernel
theorem d_M_typeOf_73 : decode m_M_typeOf.2.1 73 = .ok (.iload_n 2, 1) := by decide +kernel
theorem d_M_typeOf_74 : decode m_M_typeOf.2.1 74 = .ok (.invokevirtual 397, 3) := by decide +kernel
theorem d_M_typeOf_77 : decode m_M_typeOf.2.1 77 = .ok (.ifCond .ne 93, 3) := by decide +kernel
theorem d_M_typeOf_80 : decode m_M_typeOf.2.1 80 = .ok (.iconst (-1), 1) := by decide +kernel
theorem d_M_typeOf_81 : decode m_M_typeOf.2.1 81 = .ok (.ireturn, 1) := by decide +kernel
theorem d_M_typeOf_82 : decode m_M_typeOf.2.1 82 = .ok (.iload 4, 2) := by decide +kernel
theorem d_M_typeOf_84 : decode m_M_typeOf.2.1 84 = .ok (.ifCond .lt 13, 3) := by decide +kernel
theorem d_M_typeOf_87 : decode m_M_typeOf.2.1 87 = .ok (.aload_n 0, 1) := by decide +kernel
theorem d_M_typeOf_88 : decode m_M_typeOf.2.1 88 = .ok (.iload 4, 2) := by decide +kernel
theorem d_M_typeOf_90 : decode m_M_typeOf.2.1 90 = .ok (.invokevirtual 394, 3) := by decide +kernel
theorem d_M_typeOf_93 : decode m_M_typeOf.2.1 93 = .ok (.istore_n 3, 1) := by decide +kernel
theorem d_M_typeOf_94 : decode m_M_typeOf.2.1 94 = .ok (.goto 44, 3) := by decide +kernel
theorem d_M_typeOf_97 : decode m_M_typeOf.2.1 97 = .ok (.aload_n 0, 1) := by decide +kernel
theorem d_M_typeOf_98 : decode m_M_typeOf.2.1 98 = .ok (.getfield 34, 3) := by decide +kernel
theorem d_M_typeOf_101 : decode m_M_typeOf.2.1 101 = .ok (.aload_n 0, 1) := by decide +kernel
theorem d_M_typeOf_102 : decode m_M_typeOf.2.1 102 = .ok (.getfield 49, 3) := by decide +kernel
theorem d_M_typeOf_105 : decode m_M_typeOf.2.1 105 = .ok (.aload_n 0, 1) := by decide +kernel
theorem d_M_typeOf_106 : decode m_M_typeOf.2.1 106 = .ok (.getfield 124, 3) := by decide +kernel
theorem d_M_typeOf_109 : decode m_M_typeOf.2.1 109 = .ok (.iload_n 2, 1) := by decide +kernel
theorem d_M_typeOf_110 : decode m_M_typeOf.2.1 110 = .ok (.iaload, 1) := by decide +kernel
theorem d_M_typeOf_111 : decode m_M_typeOf.2.1 111 = .ok (.iaload, 1) := by decide +kernel
theorem d_M_typeOf_112 : decode m_M_typeOf.2.1 112 = .ok (.iaload, 1) := by decide +kernel
theorem d_M_typeOf_113 : decode m_M_typeOf.2.1 113 = .ok (.istore 5, 2) := by decide +kernel
theorem d_M_typeOf_115 : decode m_M_typeOf.2.1 115 = .ok (.iload 5, 2) := by decide +kernel
theorem d_M_typeOf_117 : decode m_M_typeOf.2.1 117 = .ok (.bipush (-2), 2) := by decide +kernel
theorem d_M_typeOf_119 : decode m_M_typeOf.2.1 119 = .ok (.if_icmp .ne 8, 3) := by decide +kernel
theorem d_M_typeOf_122 : decode m_M_typeOf.2.1 122 = .ok (.bipush (-2), 2) := by decide +kernel
theorem d_M_typeOf_124 : decode m_M_typeOf.2.1 124 = .ok (.goto 10, 3) := by decide +kernel
theorem d_M_typeOf_127 : decode m_M_typeOf.2.1 127 = .ok (.aload_n 0, 1) := by decide +kernel
theorem d_M_typeOf_128 : decode m_M_typeOf.2.1 128 = .ok (.iload 5, 2) := by decide +kernel
theorem d_M_typeOf_130 : decode m_M_typeOf.2.1 130 = .ok (.iload_n 2, 1) := by decide +kernel
theorem d_M_typeOf_131 : decode m_M_typeOf.2.1 131 = .ok (.invokevirtual 379, 3) := by decide +kernel
theorem d_M_typeOf_134 : decode m_M_typeOf.2.1 134 = .ok (.istore_n 3, 1) := by decide +kernel
theorem d_M_typeOf_135 : decode m_M_typeOf.2.1 135 = .ok (.iinc 2 (-1), 3) := by decide +kernel
theorem d_M_typeOf_138 : decode m_M_typeOf.2.1 138 = .ok (.iload_n 3, 1) := by decide +kernel
theorem d_M_typeOf_139 : decode m_M_typeOf.2.1 139 = .ok (.iconst (-1), 1) := by decide +kernel
theorem d_M_typeOf_140 : decode m_M_typeOf.2.1 140 = .ok (.if_icmp .ne 5, 3) := by decide +kernel
theorem d_M_typeOf_143 : decode m_M_typeOf.2.1 143 = .ok (.iconst (-1), 1) := by decide +kernel
theorem d_M_typeOf_144 : decode m_M_typeOf.2.1 144 = .ok (.ireturn, 1) := by decide +kernel
theorem d_M_typeOf_145 : decode m_M_typeOf.2.1 145 = .ok (.iload_n 2, 1) := by decide +kernel
theorem d_M_typeOf_146 : decode m_M_typeOf.2.1 146 = .ok (.ifCond .le 24, 3) := by decide +kernel
theorem d_M_typeOf_149 : decode m_M_typeOf.2.1 149 = .ok (.aload_n 0, 1) := by decide +kernel
theorem d_M_typeOf_150 : decode m_M_typeOf.2.1 150 = .ok (.iload_n 3, 1) := by decide +kernel
theorem d_M_typeOf_151 : decode m_M_typeOf.2.1 151 = .ok (.iload_n 2, 1) := by decide +kernel
theorem d_M_typeOf_152 : decode m_M_typeOf.2.1 152 = .ok (.iload 4, 2) := by decide +kernel
theorem d_M_typeOf_154 : decode m_M_typeOf.2.1 154 = .ok (.ifCond .ge 7, 3) := by decide +kernel
theorem d_M_typeOf_157 : decode m_M_typeOf.2.1 157 = .ok (.iconst 1, 1) := by decide +kernel
theorem d_M_typeOf_158 : decode m_M_typeOf.2.1 158 = .ok (.goto 4, 3) := by decide +kernel
theorem d_M_typeOf_161 : decode m_M_typeOf.2.1 161 = .ok (.iconst 0, 1) := by decide +kernel
theorem d_M_typeOf_162 : decode m_M_typeOf.2.1 162 = .ok (.invokevirtual 403, 3) := by decide +kernel
theorem d_M_typeOf_165 : decode m_M_typeOf.2.1 165 = .ok (.ifCond .ne 5, 3) := by decide +kernel
theorem d_M_typeOf_168 : decode m_M_typeOf.2.1 168 = .ok (.iconst (-1), 1) := by decide +kernel
theorem d_M_typeOf_169 : decode m_M_typeOf.2.1 169 = .ok (.ireturn, 1) := by decide +kernel
theorem d_M_typeOf_170 : decode m_M_typeOf.2.1 170 = .ok (.goto (-139), 3) := by decide +kernel
theorem d_M_typeOf_173 : decode m_M_typeOf.2.1 173 = .ok (.iload_n 3, 1) := by decide +kernel
theorem d_M_typeOf_174 : decode m_M_typeOf.2.1 174 = .ok (.ireturn, 1) := by decide +kernel
theorem d_M_suits_0 : decode m_M_suits.2.1 0 = .ok (.aload_n 0, 1) := by decide +kernel
theorem d_M_suits_1 : decode m_M_suits.2.1 1 = .ok (.getfield 28, 3) := by decide +kernel
theorem d_M_suits_4 : decode m_M_suits.2.1 4 = .ok (.aload_n 0, 1) := by decide +kernel
theorem d_M_suits_5 : decode m_M_suits.2.1 5 = .ok (.getfield 49, 3) := by decide +kernel
theorem d_M_suits_8 : decode m_M_suits.2.1 8 = .ok (.aload_n 0, 1) := by decide +kernel
theorem d_M_suits_9 : decode m_M_suits.2.1 9 = .ok (.getfield 124, 3) := by decide +kernel
theorem d_M_suits_12 : decode m_M_suits.2.1 12 = .ok (.iload_n 2, 1) := by decide +kernel
theorem d_M_suits_13 : decode m_M_suits.2.1 13 = .ok (.iaload, 1) := by decide +kernel
theorem d_M_suits_14 : decode m_M_suits.2.1 14 = .ok (.iaload, 1) := by decide +kernel
theorem d_M_suits_15 : decode m_M_suits.2.1 15 = .ok (.iaload, 1) := by decide +kernel
theorem d_M_suits_16 : decode m_M_suits.2.1 16 = .ok (.aload_n 0, 1) := by decide +kernel
theorem d_M_suits_17 : decode m_M_suits.2.1 17 = .ok (.getfield 127, 3) := by decide +kernel
theorem d_M_suits_20 : decode m_M_suits.2.1 20 = .ok (.iload_n 2, 1) := by decide +kernel
theorem d_M_suits_21 : decode m_M_suits.2.1 21 = .ok (.iaload, 1) := by decide +kernel
theorem d_M_suits_22 : decode m_M_suits.2.1 22 = .ok (.iadd, 1) := by decide +kernel
theorem d_M_suits_23 : decode m_M_suits.2.1 23 = .ok (.istore 4, 2) := by decide +kernel
theorem d_M_suits_25 : decode m_M_suits.2.1 25 = .ok (.iload_n 1, 1) := by decide +kernel
theorem d_M_suits_26 : decode m_M_suits.2.1 26 = .ok (.bipush (-2), 2) := by decide +kernel
theorem d_M_suits_28 : decode m_M_suits.2.1 28 = .ok (.if_icmp .eq 23, 3) := by decide +kernel
theorem d_M_suits_31 : decode m_M_suits.2.1 31 = .ok (.aload_n 0, 1) := by decide +kernel
theorem d_M_suits_32 : decode m_M_suits.2.1 32 = .ok (.iload_n 1, 1) := by decide +kernel
theorem d_M_suits_33 : decode m_M_suits.2.1 33 = .ok (.aload_n 0, 1) := by decide +kernel
theorem d_M_suits_34 : decode m_M_suits.2.1 34 = .ok (.aload_n 0, 1) := by decide +kernel
theorem d_M_suits_35 : decode m_M_suits.2.1 35 = .ok (.getfield 67, 3) := by decide +kernel
theorem d_M_suits_38 : decode m_M_suits.2.1 38 = .ok (.iload 4, 2) := by decide +kernel
theorem d_M_suits_40 : decode m_M_suits.2.1 40 = .ok (.iaload, 1) := by decide +kernel
theorem d_M_suits_41 : decode m_M_suits.2.1 41 = .ok (.iload_n 2, 1) := by decide +kernel
theorem d_M_suits_42 : decode m_M_suits.2.1 42 = .ok (.invokevirtual 379, 3) := by decide +kernel
theorem d_M_suits_45 : decode m_M_suits.2.1 45 = .ok (.invokevirtual 385, 3) := by decide +kernel
theorem d_M_suits_48 : decode m_M_suits.2.1 48 = .ok (.ifCond .ne 25, 3) := by decide +kernel
theorem d_M_suits_51 : decode m_M_suits.2.1 51 = .ok (.aload_n 0, 1) := by decide +kernel
theorem d_M_suits_52 : decode m_M_suits.2.1 52 = .ok (.aload_n 0, 1) := by decide +kernel
theorem d_M_suits_53 : decode m_M_suits.2.1 53 = .ok (.getfield 55, 3) := by decide +kernel
theorem d_M_suits_56 : decode m_M_suits.2.1 56 = .ok (.aload_n 0, 1) := by decide +kernel
theorem d_M_suits_57 : decode m_M_suits.2.1 57 = .ok (.getfield 130, 3) := by decide +kernel
theorem d_M_suits_60 : decode m_M_suits.2.1 60 = .ok (.iload_n 2, 1) := by decide +kernel
theorem d_M_suits_61 : decode m_M_suits.2.1 61 = .ok (.iaload, 1) := by decide +kernel
theorem d_M_suits_62 : decode m_M_suits.2.1 62 = .ok (.aload_n 0, 1) := by decide +kernel
theorem d_M_suits_63 : decode m_M_suits.2.1 63 = .ok (.getfield 197, 3) := by decide +kernel
theorem d_M_suits_66 : decode m_M_suits.2.1 66 = .ok (.isub, 1) := by decide +kernel
theorem d_M_suits_67 : decode m_M_suits.2.1 67 = .ok (.iaload, 1) := by decide +kernel
theorem d_M_suits_68 : decode m_M_suits.2.1 68 = .ok (.putfield 367, 3) := by decide +kernel
theorem d_M_suits_71 : decode m_M_suits.2.1 71 = .ok (.iconst 0, 1) := by decide +kernel
theorem d_M_suits_72 : decode m_M_suits.2.1 72 = .ok (.ireturn, 1) := by decide +kernel
theorem d_M_suits_73 : decode m_M_suits.2.1 73 = .ok (.iload_n 3, 1) := by decide +kernel
theorem d_M_suits_74 : decode m_M_suits.2.1 74 = .ok (.ifCond .eq 42, 3) := by decide +kernel
theorem d_M_suits_77 : decode m_M_suits.2.1 77 = .ok (.aload_n 0, 1) := by decide +kernel
theorem d_M_suits_78 : decode m_M_suits.2.1 78 = .ok (.getfield 265, 3) := by decide +kernel
theorem d_M_suits_81 : decode m_M_suits.2.1 81 = .ok (.aload_n 0, 1) := by decide +kernel
theorem d_M_suits_82 : decode m_M_suits.2.1 82 = .ok (.getfield 139, 3) := by decide +kernel
theorem d_M_suits_85 : decode m_M_suits.2.1 85 = .ok (.iload_n 2, 1) := by decide +kernel
theorem d_M_suits_86 : decode m_M_suits.2.1 86 = .ok (.iconst 1, 1) := by decide +kernel
theorem d_M_suits_87 : decode m_M_suits.2.1 87 = .ok (.iadd, 1) := by decide +kernel
theorem d_M_suits_88 : decode m_M_suits.2.1 88 = .ok (.iaload, 1) := by decide +kernel
theorem d_M_suits_89 : decode m_M_suits.2.1 89 = .ok (.if_icmp .ne 27, 3) := by decide +kernel
theorem d_M_suits_92 : decode m_M_suits.2.1 92 = .ok (.aload_n 0, 1) := by decide +kernel
theorem d_M_suits_93 : decode m_M_suits.2.1 93 = .ok (.aload_n 0, 1) := by decide +kernel
theorem d_M_suits_94 : decode m_M_suits.2.1 94 = .ok (.getfield 133, 3) := by decide +kernel
theorem d_M_suits_97 : decode m_M_suits.2.1 97 = .ok (.iload_n 2, 1) := by decide +kernel
theorem d_M_suits_98 : decode m_M_suits.2.1 98 = .ok (.iconst 1, 1) := by decide +kernel
theorem d_M_suits_99 : decode m_M_suits.2.1 99 = .ok (.iadd, 1) := by decide +kernel
theorem d_M_suits_100 : decode m_M_suits.2.1 100 = .ok (.iaload, 1) := by decide +kernel
theorem d_M_suits_101 : decode m_M_suits.2.1 101 = .ok (.putfield 259, 3) := by decide +kernel
theorem d_M_suits_104 : decode m_M_suits.2.1 104 = .ok (.aload_n 0, 1) := by decide +kernel
theorem d_M_suits_105 : decode m_M_suits.2.1 105 = .ok (.aload_n 0, 1) := by decide +kernel
theorem d_M_suits_106 : decode m_M_suits.2.1 106 = .ok (.getfield 136, 3) := by decide +kernel
theorem d_M_suits_109 : decode m_M_suits.2.1 109 = .ok (.iload_n 2, 1) := by decide +kernel
theorem d_M_suits_110 : decode m_M_suits.2.1 110 = .ok (.iconst 1, 1) := by decide +kernel
theorem d_M_suits_111 : decode m_M_suits.2.1 111 = .ok (.iadd, 1) := by decide +kernel
theorem d_M_suits_112 : decode m_M_suits.2.1 112 = .ok (.iaload, 1) := by decide +kernel
theorem d_M_suits_113 : decode m_M_suits.2.1 113 = .ok (.putfield 262, 3) := by decide +kernel
theorem d_M_suits_116 : decode m_M_suits.2.1 116 = .ok (.aload_n 0, 1) := by decide +kernel
theorem d_M_suits_117 : decode m_M_suits.2.1 117 = .ok (.iload_n 2, 1) := by decide +kernel
theorem d_M_suits_118 : decode m_M_suits.2.1 118 = .ok (.invokevirtual 391, 3) := by decide +kernel
theorem d_M_suits_121 : decode m_M_suits.2.1 121 = .ok (.iconst 1, 1) := by decide +kernel
theorem d_M_suits_122 : decode m_M_suits.2.1 122 = .ok (.ireturn, 1) := by decide +kernel
theorem d_M_noNames_0 : decode m_M_noNames.2.1 0 = .ok (.iconst 0, 1) := by decide +kernel
theorem d_M_noNames_1 : decode m_M_noNames.2.1 1 = .ok (.istore_n 1, 1) := by decide +kernel
theorem d_M_noNames_2 : decode m_M_noNames.2.1 2 = .ok (.iload_n 1, 1) := by decide +kernel
theorem d_M_noNames_3 : decode m_M_noNames.2.1 3 = .ok (.bipush 26, 2) := by decide +kernel
theorem d_M_noNames_5 : decode m_M_noNames.2.1 5 = .ok (.if_icmp .ge 23, 3) := by decide +kernel
theorem d_M_noNames_8 : decode m_M_noNames.2.1 8 = .ok (.aload_n 0, 1) := by decide +kernel
theorem d_M_noNames_9 : decode m_M_noNames.2.1 9 = .ok (.getfield 118, 3) := by decide +kernel
theorem d_M_noNames_12 : decode m_M_noNames.2.1 12 = .ok (.iload_n 1, 1) := by decide +kernel
theorem d_M_noNames_13 : decode m_M_noNames.2.1 13 = .ok (.iconst (-1), 1) := by decide +kernel
theorem d_M_noNames_14 : decode m_M_noNames.2.1 14 = .ok (.iastore, 1) := by decide +kernel
theorem d_M_noNames_15 : decode m_M_noNames.2.1 15 = .ok (.aload_n 0, 1) := by decide +kernel
theorem d_M_noNames_16 : decode m_M_noNames.2.1 16 = .ok (.getfield 121, 3) := by decide +kernel
theorem d_M_noNames_19 : decode m_M_noNames.2.1 19 = .ok (.iload_n 1, 1) := by decide +kernel
theorem d_M_noNames_20 : decode m_M_noNames.2.1 20 = .ok (.iconst (-1), 1) := by decide +kernel
theorem d_M_noNames_21 : decode m_M_noNames.2.1 21 = .ok (.iastore, 1) := by decide +kernel
theorem d_M_noNames_22 : decode m_M_noNames.2.1 22 = .ok (.iinc 1 1, 3) := by decide +kernel
theorem d_M_noNames_25 : decode m_M_noNames.2.1 25 = .ok (.goto (-23), 3) := by decide +kernel
theorem d_M_noNames_28 : decode m_M_noNames.2.1 28 = .ok (.return_, 1) := by decide +kernel
theorem d_M_mayName_0 : decode m_M_mayName.2.1 0 = .ok (.aload_n 0, 1) := by decide +kernel
theorem d_M_mayName_1 : decode m_M_mayName.2.1 1 = .ok (.iload_n 1, 1) := by decide +kernel
theorem d_M_mayName_2 : decode m_M_mayName.2.1 2 = .ok (.invokestatic 215, 3) := by decide +kernel
theorem d_M_mayName_5 : decode m_M_mayName.2.1 5 = .ok (.ifCond .ne 7, 3) := by decide +kernel
theorem d_M_mayName_8 : decode m_M_mayName.2.1 8 = .ok (.iconst 1, 1) := by decide +kernel
theorem d_M_mayName_9 : decode m_M_mayName.2.1 9 = .ok (.goto 20, 3) := by decide +kernel
theorem d_M_mayName_12 : decode m_M_mayName.2.1 12 = .ok (.aload_n 0, 1) := by decide +kernel
theorem d_M_mayName_13 : decode m_M_mayName.2.1 13 = .ok (.getfield 19, 3) := by decide +kernel
theorem d_M_mayName_16 : decode m_M_mayName.2.1 16 = .ok (.iload_n 1, 1) := by decide +kernel
theorem d_M_mayName_17 : decode m_M_mayName.2.1 17 = .ok (.bipush 65, 2) := by decide +kernel
theorem d_M_mayName_19 : decode m_M_mayName.2.1 19 = .ok (.isub, 1) := by decide +kernel
theorem d_M_mayName_20 : decode m_M_mayName.2.1 20 = .ok (.iaload, 1) := by decide +kernel
theorem d_M_mayName_21 : decode m_M_mayName.2.1 21 = .ok (.ifCond .eq 7, 3) := by decide +kernel
theorem d_M_mayName_24 : decode m_M_mayName.2.1 24 = .ok (.iconst 2, 1) := by decide +kernel
theorem d_M_mayName_25 : decode m_M_mayName.2.1 25 = .ok (.goto 4, 3) := by decide +kernel
theorem d_M_mayName_28 : decode m_M_mayName.2.1 28 = .ok (.iconst 0, 1) := by decide +kernel
theorem d_M_mayName_29 : decode m_M_mayName.2.1 29 = .ok (.putfield 184, 3) := by decide +kernel
theorem d_M_mayName_32 : decode m_M_mayName.2.1 32 = .ok (.aload_n 0, 1) := by decide +kernel
theorem d_M_mayName_33 : decode m_M_mayName.2.1 33 = .ok (.getfield 184, 3) := by decide +kernel
theorem d_M_mayName_36 : decode m_M_mayName.2.1 36 = .ok (.ifCond .ne 7, 3) := by decide +kernel
theorem d_M_mayName_39 : decode m_M_mayName.2.1 39 = .ok (.iconst 1, 1) := by decide +kernel
theorem d_M_mayName_40 : decode m_M_mayName.2.1 40 = .ok (.goto 4, 3) := by decide +kernel
theorem d_M_mayName_43 : decode m_M_mayName.2.1 43 = .ok (.iconst 0, 1) := by decide +kernel
theorem d_M_mayName_44 : decode m_M_mayName.2.1 44 = .ok (.ireturn, 1) := by decide +kernel
theorem d_M_isType_0 : decode m_M_isType.2.1 0 = .ok (.aload_n 0, 1) := by decide +kernel
theorem d_M_isType_1 : decode m_M_isType.2.1 1 = .ok (.iload_n 1, 1) := by decide +kernel
theorem d_M_isType_2 : decode m_M_isType.2.1 2 = .ok (.invokevirtual 407, 3) := by decide +kernel
theorem d_M_isType_5 : decode m_M_isType.2.1 5 = .ok (.istore_n 2, 1) := by decide +kernel
theorem d_M_isType_6 : decode m_M_isType.2.1 6 = .ok (.iload_n 2, 1) := by decide +kernel
theorem d_M_isType_7 : decode m_M_isType.2.1 7 = .ok (.bipush (-2), 2) := by decide +kernel
theorem d_M_isType_9 : decode m_M_isType.2.1 9 = .ok (.if_icmp .eq 23, 3) := by decide +kernel
theorem d_M_isType_12 : decode m_M_isType.2.1 12 = .ok (.iload_n 2, 1) := by decide +kernel
theorem d_M_isType_13 : decode m_M_isType.2.1 13 = .ok (.iconst (-1), 1) := by decide +kernel
theorem d_M_isType_14 : decode m_M_isType.2.1 14 = .ok (.if_icmp .eq 18, 3) := by decide +kernel
theorem d_M_isType_17 : decode m_M_isType.2.1 17 = .ok (.aload_n 0, 1) := by decide +kernel
theorem d_M_isType_18 : decode m_M_isType.2.1 18 = .ok (.aload_n 0, 1) := by decide +kernel
theorem d_M_isType_19 : decode m_M_isType.2.1 19 = .ok (.getfield 55, 3) := by decide +kernel
theorem d_M_isType_22 : decode m_M_isType.2.1 22 = .ok (.iload_n 1, 1) := by decide +kernel
theorem d_M_isType_23 : decode m_M_isType.2.1 23 = .ok (.aload_n 0, 1) := by decide +kernel
theorem d_M_isType_24 : decode m_M_isType.2.1 24 = .ok (.getfield 197, 3) := by decide +kernel
theorem d_M_isType_27 : decode m_M_isType.2.1 27 = .ok (.isub, 1) := by decide +kernel
theorem d_M_isType_28 : decode m_M_isType.2.1 28 = .ok (.iaload, 1) := by decide +kernel
theorem d_M_isType_29 : decode m_M_isType.2.1 29 = .ok (.putfield 367, 3) := by decide +kernel
theorem d_M_isType_32 : decode m_M_isType.2.1 32 = .ok (.iload_n 2, 1) := by decide +kernel
theorem d_M_isType_33 : decode m_M_isType.2.1 33 = .ok (.bipush (-2), 2) := by decide +kernel
theorem d_M_isType_35 : decode m_M_isType.2.1 35 = .ok (.if_icmp .ne 7, 3) := by decide +kernel
theorem d_M_isType_38 : decode m_M_isType.2.1 38 = .ok (.iconst 1, 1) := by decide +kernel
theorem d_M_isType_39 : decode m_M_isType.2.1 39 = .ok (.goto 4, 3) := by decide +kernel
theorem d_M_isType_42 : decode m_M_isType.2.1 42 = .ok (.iconst 0, 1) := by decide +kernel
theorem d_M_isType_43 : decode m_M_isType.2.1 43 = .ok (.ireturn, 1) := by decide +kernel
theorem d_M_isRightCondition_0 : decode m_M_isRightCondition.2.1 0 = .ok (.aload_n 0, 1) := by decide +kernel
theorem d_M_isRightCondition_1 : decode m_M_isRightCondition.2.1 1 = .ok (.getfield 64, 3) := by decide +kernel
theorem d_M_isRightCondition_4 : decode m_M_isRightCondition.2.1 4 = .ok (.iload_n 1, 1) := by decide +kernel
theorem d_M_isRightCondition_5 : decode m_M_isRightCondition.2.1 5 = .ok (.iaload, 1) := by decide +kernel
theorem d_M_isRightCondition_6 : decode m_M_isRightCondition.2.1 6 = .ok (.istore_n 2, 1) := by decide +kernel
theorem d_M_isRightCondition_7 : decode m_M_isRightCondition.2.1 7 = .ok (.aload_n 0, 1) := by decide +kernel
theorem d_M_isRightCondition_8 : decode m_M_isRightCondition.2.1 8 = .ok (.getfield 19, 3) := by decide +kernel
theorem d_M_isRightCondition_11 : decode m_M_isRightCondition.2.1 11 = .ok (.iload_n 2, 1) := by decide +kernel
theorem d_M_isRightCondition_12 : decode m_M_isRightCondition.2.1 12 = .ok (.iaload, 1) := by decide +kernel
theorem d_M_isRightCondition_13 : decode m_M_isRightCondition.2.1 13 = .ok (.iconst 2, 1) := by decide +kernel
theorem d_M_isRightCondition_14 : decode m_M_isRightCondition.2.1 14 = .ok (.if_icmp .ne 18, 3) := by decide +kernel
theorem d_M_isRightCondition_17 : decode m_M_isRightCondition.2.1 17 = .ok (.aload_n 0, 1) := by decide +kernel
theorem d_M_isRightCondition_18 : decode m_M_isRightCondition.2.1 18 = .ok (.getfield 22, 3) := by decide +kernel
theorem d_M_isRightCondition_21 : decode m_M_isRightCondition.2.1 21 = .ok (.iload_n 2, 1) := by decide +kernel
theorem d_M_isRightCondition_22 : decode m_M_isRightCondition.2.1 22 = .ok (.iaload, 1) := by decide +kernel
theorem d_M_isRightCondition_23 : decode m_M_isRightCondition.2.1 23 = .ok (.aload_n 0, 1) := by decide +kernel
theorem d_M_isRightCondition_24 : decode m_M_isRightCondition.2.1 24 = .ok (.getfield 70, 3) := by decide +kernel
theorem d_M_isRightCondition_27 : decode m_M_isRightCondition.2.1 27 = .ok (.iload_n 1, 1) := by decide +kernel
theorem d_M_isRightCondition_28 : decode m_M_isRightCondition.2.1 28 = .ok (.iaload, 1) := by decide +kernel
theorem d_M_isRightCondition_29 : decode m_M_isRightCondition.2.1 29 = .ok (.if_icmp .eq 15, 3) := by decide +kernel
theorem d_M_isRightCondition_32 : decode m_M_isRightCondition.2.1 32 = .ok (.aload_n 0, 1) := by decide +kernel
theorem d_M_isRightCondition_33 : decode m_M_isRightCondition.2.1 33 = .ok (.aload_n 0, 1) := by decide +kernel
theorem d_M_isRightCondition_34 : decode m_M_isRightCondition.2.1 34 = .ok (.getfield 73, 3) := by decide +kernel
theorem d_M_isRightCondition_37 : decode m_M_isRightCondition.2.1 37 = .ok (.iload_n 1, 1) := by decide +kernel
theorem d_M_isRightCondition_38 : decode m_M_isRightCondition.2.1 38 = .ok (.iaload, 1) := by decide +kernel
theorem d_M_isRightCondition_39 : decode m_M_isRightCondition.2.1 39 = .ok (.putfield 367, 3) := by decide +kernel
theorem d_M_isRightCondition_42 : decode m_M_isRightCondition.2.1 42 = .ok (.iconst 0, 1) := by decide +kernel
theorem d_M_isRightCondition_43 : decode m_M_isRightCondition.2.1 43 = .ok (.ireturn, 1) := by decide +kernel
theorem d_M_isRightCondition_44 : decode m_M_isRightCondition.2.1 44 = .ok (.aload_n 0, 1) := by decide +kernel
theorem d_M_isRightCondition_45 : decode m_M_isRightCondition.2.1 45 = .ok (.getfield 67, 3) := by decide +kernel
theorem d_M_isRightCondition_48 : decode m_M_isRightCondition.2.1 48 = .ok (.iload_n 1, 1) := by decide +kernel
theorem d_M_isRightCondition_49 : decode m_M_isRightCondition.2.1 49 = .ok (.iaload, 1) := by decide +kernel
theorem d_M_isRightCondition_50 : decode m_M_isRightCondition.2.1 50 = .ok (.istore_n 3, 1) := by decide +kernel
theorem d_M_isRightCondition_51 : decode m_M_isRightCondition.2.1 51 = .ok (.iconst 0, 1) := by decide +kernel
theorem d_M_isRightCondition_52 : decode m_M_isRightCondition.2.1 52 = .ok (.istore 4, 2) := by decide +kernel
theorem d_M_isRightCondition_54 : decode m_M_isRightCondition.2.1 54 = .ok (.iload 4, 2) := by decide +kernel
theorem d_M_isRightCondition_56 : decode m_M_isRightCondition.2.1 56 = .ok (.aload_n 0, 1) := by decide +kernel
theorem d_M_isRightCondition_57 : decode m_M_isRightCondition.2.1 57 = .ok (.getfield 70, 3) := by decide +kernel
theorem d_M_isRightCondition_60 : decode m_M_isRightCondition.2.1 60 = .ok (.iload_n 1, 1) := by decide +kernel
theorem d_M_isRightCondition_61 : decode m_M_isRightCondition.2.1 61 = .ok (.iaload, 1) := by decide +kernel
theorem d_M_isRightCondition_62 : decode m_M_isRightCondition.2.1 62 = .ok (.if_icmp .gt 26, 3) := by decide +kernel
theorem d_M_isRightCondition_65 : decode m_M_isRightCondition.2.1 65 = .ok (.aload_n 0, 1) := by decide +kernel
theorem d_M_isRightCondition_66 : decode m_M_isRightCondition.2.1 66 = .ok (.iload_n 3, 1) := by decide +kernel
theorem d_M_isRightCondition_67 : decode m_M_isRightCondition.2.1 67 = .ok (.invokevirtual 407, 3) := by decide +kernel
theorem d_M_isRightCondition_70 : decode m_M_isRightCondition.2.1 70 = .ok (.iconst (-1), 1) := by decide +kernel
theorem d_M_isRightCondition_71 : decode m_M_isRightCondition.2.1 71 = .ok (.if_icmp .ne 5, 3) := by decide +kernel
theorem d_M_isRightCondition_74 : decode m_M_isRightCondition.2.1 74 = .ok (.iconst 0, 1) := by decide +kernel
theorem d_M_isRightCondition_75 : decode m_M_isRightCondition.2.1 75 = .ok (.ireturn, 1) := by decide +kernel
theorem d_M_isRightCondition_76 : decode m_M_isRightCondition.2.1 76 = .ok (.aload_n 0, 1) := by decide +kernel
theorem d_M_isRightCondition_77 : decode m_M_isRightCondition.2.1 77 = .ok (.iload_n 3, 1) := by decide +kernel
theorem d_M_isRightCondition_78 : decode m_M_isRightCondition.2.1 78 = .ok (.invokevirtual 268, 3) := by decide +kernel
theorem d_M_isRightCondition_81 : decode m_M_isRightCondition.2.1 81 = .ok (.istore_n 3, 1) := by decide +kernel
theorem d_M_isRightCondition_82 : decode m_M_isRightCondition.2.1 82 = .ok (.iinc 4 1, 3) := by decide +kernel
theorem d_M_isRightCondition_85 : decode m_M_isRightCondition.2.1 85 = .ok (.goto (-31), 3) := by decide +kernel
theorem d_M_isRightCondition_88 : decode m_M_isRightCondition.2.1 88 = .ok (.iconst 1, 1) := by decide +kernel
theorem d_M_isRightCondition_89 : decode m_M_isRightCondition.2.1 89 = .ok (.ireturn, 1) := by decide +kernel
theorem d_M_isRight_0 : decode m_M_isRight.2.1 0 = .ok (.aload_n 0, 1) := by decide +kernel
theorem d_M_isRight_1 : decode m_M_isRight.2.1 1 = .ok (.invokevirtual 410, 3) := by decide +kernel
theorem d_M_isRight_4 : decode m_M_isRight.2.1 4 = .ok (.aload_n 0, 1) := by decide +kernel
theorem d_M_isRight_5 : decode m_M_isRight.2.1 5 = .ok (.invokevirtual 413, 3) := by decide +kernel
theorem d_M_isRight_8 : decode m_M_isRight.2.1 8 = .ok (.aload_n 0, 1) := by decide +kernel
theorem d_M_isRight_9 : decode m_M_isRight.2.1 9 = .ok (.iconst 0, 1) := by decide +kernel
theorem d_M_isRight_10 : decode m_M_isRight.2.1 10 = .ok (.putfield 320, 3) := by decide +kernel
theorem d_M_isRight_13 : decode m_M_isRight.2.1 13 = .ok (.aload_n 0, 1) := by decide +kernel
theorem d_M_isRight_14 : decode m_M_isRight.2.1 14 = .ok (.iconst 1, 1) := by decide +kernel
theorem d_M_isRight_15 : decode m_M_isRight.2.1 15 = .ok (.putfield 373, 3) := by decide +kernel
theorem d_M_isRight_18 : decode m_M_isRight.2.1 18 = .ok (.iconst 1, 1) := by decide +kernel
theorem d_M_isRight_19 : decode m_M_isRight.2.1 19 = .ok (.istore_n 2, 1) := by decide +kernel
theorem d_M_isRight_20 : decode m_M_isRight.2.1 20 = .ok (.aload_n 0, 1) := by decide +kernel
theorem d_M_isRight_21 : decode m_M_isRight.2.1 21 = .ok (.getfield 253, 3) := by decide +kernel
theorem d_M_isRight_24 : decode m_M_isRight.2.1 24 = .ok (.istore_n 3, 1) := by decide +kernel
theorem d_M_isRight_25 : decode m_M_isRight.2.1 25 = .ok (.iload_n 3, 1) := by decide +kernel
theorem d_M_isRight_26 : decode m_M_isRight.2.1 26 = .ok (.aload_n 0, 1) := by decide +kernel
theorem d_M_isRight_27 : decode m_M_isRight.2.1 27 = .ok (.getfield 222, 3) := by decide +kernel
theorem d_M_isRight_30 : decode m_M_isRight.2.1 30 = .ok (.if_icmp .ge 105, 3) := by decide +kernel
theorem d_M_isRight_33 : decode m_M_isRight.2.1 33 = .ok (.iload_n 2, 1) := by decide +kernel
theorem d_M_isRight_34 : decode m_M_isRight.2.1 34 = .ok (.ifCond .eq 101, 3) := by decide +kernel
theorem d_M_isRight_37 : decode m_M_isRight.2.1 37 = .ok (.aload_n 0, 1) := by decide +kernel
theorem d_M_isRight_38 : decode m_M_isRight.2.1 38 = .ok (.getfield 61, 3) := by decide +kernel
theorem d_M_isRight_41 : decode m_M_isRight.2.1 41 = .ok (.iload_n 3, 1) := by decide +kernel
theorem d_M_isRight_42 : decode m_M_isRight.2.1 42 = .ok (.iaload, 1) := by decide +kernel
theorem d_M_isRight_43 : decode m_M_isRight.2.1 43 = .ok (.iconst 2, 1) := by decide +kernel
theorem d_M_isRight_44 : decode m_M_isRight.2.1 44 = .ok (.if_icmp .ne 12, 3) := by decide +kernel
theorem d_M_isRight_47 : decode m_M_isRight.2.1 47 = .ok (.aload_n 0, 1) := by decide +kernel
theorem d_M_isRight_48 : decode m_M_isRight.2.1 48 = .ok (.iload_n 3, 1) := by decide +kernel
theorem d_M_isRight_49 : decode m_M_isRight.2.1 49 = .ok (.invokevirtual 416, 3) := by decide +kernel
theorem d_M_isRight_52 : decode m_M_isRight.2.1 52 = .ok (.istore_n 2, 1) := by decide +kernel
theorem d_M_isRight_53 : decode m_M_isRight.2.1 53 = .ok (.goto 76, 3) := by decide +kernel
theorem d_M_isRight_56 : decode m_M_isRight.2.1 56 = .ok (.aload_n 0, 1) := by decide +kernel
theorem d_M_isRight_57 : decode m_M_isRight.2.1 57 = .ok (.dup, 1) := by decide +kernel
theorem d_M_isRight_58 : decode m_M_isRight.2.1 58 = .ok (.getfield 320, 3) := by decide +kernel
theorem d_M_isRight_61 : decode m_M_isRight.2.1 61 = .ok (.iconst 1, 1) := by decide +kernel
theorem d_M_isRight_62 : decode m_M_isRight.2.1 62 = .ok (.iadd, 1) := by decide +kernel
theorem d_M_isRight_63 : decode m_M_isRight.2.1 63 = .ok (.putfield 320, 3) := by decide +kernel
theorem d_M_isRight_66 : decode m_M_isRight.2.1 66 = .ok (.aload_n 0, 1) := by decide +kernel
theorem d_M_isRight_67 : decode m_M_isRight.2.1 67 = .ok (.aload_n 0, 1) := by decide +kernel
theorem d_M_isRight_68 : decode m_M_isRight.2.1 68 = .ok (.getfield 67, 3) := by decide +kernel
theorem d_M_isRight_71 : decode m_M_isRight.2.1 71 = .ok (.iload_n 3, 1) := by decide +kernel
theorem d_M_isRight_72 : decode m_M_isRight.2.1 72 = .ok (.iaload, 1) := by decide +kernel
theorem d_M_isRight_73 : decode m_M_isRight.2.1 73 = .ok (.invokevirtual 419, 3) := by decide +kernel
theorem d_M_isRight_76 : decode m_M_isRight.2.1 76 = .ok (.istore_n 2, 1) := by decide +kernel
theorem d_M_isRight_77 : decode m_M_isRight.2.1 77 = .ok (.iload_n 2, 1) := by decide +kernel
theorem d_M_isRight_78 : decode m_M_isRight.2.1 78 = .ok (.ifCond .eq 51, 3) := by decide +kernel
theorem d_M_isRight_81 : decode m_M_isRight.2.1 81 = .ok (.aload_n 0, 1) := by decide +kernel
theorem d_M_isRight_82 : decode m_M_isRight.2.1 82 = .ok (.getfield 61, 3) := by decide +kernel
theorem d_M_isRight_85 : decode m_M_isRight.2.1 85 = .ok (.iload_n 3, 1) := by decide +kernel
theorem d_M_isRight_86 : decode m_M_isRight.2.1 86 = .ok (.iaload, 1) := by decide +kernel
theorem d_M_isRight_87 : decode m_M_isRight.2.1 87 = .ok (.ifCond .ne 42, 3) := by decide +kernel
theorem d_M_isRight_90 : decode m_M_isRight.2.1 90 = .ok (.aload_n 0, 1) := by decide +kernel
theorem d_M_isRight_91 : decode m_M_isRight.2.1 91 = .ok (.getfield 121, 3) := by decide +kernel
theorem d_M_isRight_94 : decode m_M_isRight.2.1 94 = .ok (.aload_n 0, 1) := by decide +kernel
theorem d_M_isRight_95 : decode m_M_isRight.2.1 95 = .ok (.getfield 64, 3) := by decide +kernel
theorem d_M_isRight_98 : decode m_M_isRight.2.1 98 = .ok (.iload_n 3, 1) := by decide +kernel
theorem d_M_isRight_99 : decode m_M_isRight.2.1 99 = .ok (.iaload, 1) := by decide +kernel
theorem d_M_isRight_100 : decode m_M_isRight.2.1 100 = .ok (.aload_n 0, 1) := by decide +kernel
theorem d_M_isRight_101 : decode m_M_isRight.2.1 101 = .ok (.aload_n 0, 1) := by decide +kernel
theorem d_M_isRight_102 : decode m_M_isRight.2.1 102 = .ok (.getfield 67, 3) := by decide +kernel
theorem d_M_isRight_105 : decode m_M_isRight.2.1 105 = .ok (.iload_n 3, 1) := by decide +kernel
theorem d_M_isRight_106 : decode m_M_isRight.2.1 106 = .ok (.iaload, 1) := by decide +kernel
theorem d_M_isRight_107 : decode m_M_isRight.2.1 107 = .ok (.iconst 0, 1) := by decide +kernel
theorem d_M_isRight_108 : decode m_M_isRight.2.1 108 = .ok (.invokevirtual 379, 3) := by decide +kernel
theorem d_M_isRight_111 : decode m_M_isRight.2.1 111 = .ok (.iastore, 1) := by decide +kernel
theorem d_M_isRight_112 : decode m_M_isRight.2.1 112 = .ok (.aload_n 0, 1) := by decide +kernel
theorem d_M_isRight_113 : decode m_M_isRight.2.1 113 = .ok (.getfield 118, 3) := by decide +kernel
theorem d_M_isRight_116 : decode m_M_isRight.2.1 116 = .ok (.aload_n 0, 1) := by decide +kernel
theorem d_M_isRight_117 : decode m_M_isRight.2.1 117 = .ok (.getfield 64, 3) := by decide +kernel
theorem d_M_isRight_120 : decode m_M_isRight.2.1 120 = .ok (.iload_n 3, 1) := by decide +kernel
theorem d_M_isRight_121 : decode m_M_isRight.2.1 121 = .ok (.iaload, 1) := by decide +kernel
theorem d_M_isRight_122 : decode m_M_isRight.2.1 122 = .ok (.aload_n 0, 1) := by decide +kernel
theorem d_M_isRight_123 : decode m_M_isRight.2.1 123 = .ok (.iconst 4, 1) := by decide +kernel
theorem d_M_isRight_124 : decode m_M_isRight.2.1 124 = .ok (.iload_n 3, 1) := by decide +kernel
theorem d_M_isRight_125 : decode m_M_isRight.2.1 125 = .ok (.invokevirtual 271, 3) := by decide +kernel
theorem d_M_isRight_128 : decode m_M_isRight.2.1 128 = .ok (.iastore, 1) := by decide +kernel
theorem d_M_isRight_129 : decode m_M_isRight.2.1 129 = .ok (.iinc 3 1, 3) := by decide +kernel
theorem d_M_isRight_132 : decode m_M_isRight.2.1 132 = .ok (.goto (-107), 3) := by decide +kernel
theorem d_M_isRight_135 : decode m_M_isRight.2.1 135 = .ok (.iload_n 2, 1) := by decide +kernel
theorem d_M_isRight_136 : decode m_M_isRight.2.1 136 = .ok (.ifCond .eq 21, 3) := by decide +kernel
theorem d_M_isRight_139 : decode m_M_isRight.2.1 139 = .ok (.iload_n 1, 1) := by decide +kernel
theorem d_M_isRight_140 : decode m_M_isRight.2.1 140 = .ok (.bipush (-2), 2) := by decide +kernel
theorem d_M_isRight_142 : decode m_M_isRight.2.1 142 = .ok (.if_icmp .eq 11, 3) := by decide +kernel
theorem d_M_isRight_145 : decode m_M_isRight.2.1 145 = .ok (.aload_n 0, 1) := by decide +kernel
theorem d_M_isRight_146 : decode m_M_isRight.2.1 146 = .ok (.iload_n 1, 1) := by decide +kernel
theorem d_M_isRight_147 : decode m_M_isRight.2.1 147 = .ok (.invokevirtual 419, 3) := by decide +kernel
theorem d_M_isRight_150 : decode m_M_isRight.2.1 150 = .ok (.ifCond .eq 7, 3) := by decide +kernel
theorem d_M_isRight_153 : decode m_M_isRight.2.1 153 = .ok (.iconst 1, 1) := by decide +kernel
theorem d_M_isRight_154 : decode m_M_isRight.2.1 154 = .ok (.goto 4, 3) := by decide +kernel
theorem d_M_isRight_157 : decode m_M_isRight.2.1 157 = .ok (.iconst 0, 1) := by decide +kernel
theorem d_M_isRight_158 : decode m_M_isRight.2.1 158 = .ok (.istore_n 2, 1) := by decide +kernel
theorem d_M_isRight_159 : decode m_M_isRight.2.1 159 = .ok (.aload_n 0, 1) := by decide +kernel
theorem d_M_isRight_160 : decode m_M_isRight.2.1 160 = .ok (.iconst 0, 1) := by decide +kernel
theorem d_M_isRight_161 : decode m_M_isRight.2.1 161 = .ok (.putfield 373, 3) := by decide +kernel
theorem d_M_isRight_164 : decode m_M_isRight.2.1 164 = .ok (.iload_n 2, 1) := by decide +kernel
theorem d_M_isRight_165 : decode m_M_isRight.2.1 165 = .ok (.ireturn, 1) := by decide +kernel
theorem d_M_remember_0 : decode m_M_remember.2.1 0 = .ok (.aload_n 0, 1) := by decide +kernel
theorem d_M_remember_1 : decode m_M_remember.2.1 1 = .ok (.getfield 19, 3) := by decide +kernel
theorem d_M_remember_4 : decode m_M_remember.2.1 4 = .ok (.iload_n 1, 1) := by decide +kernel
theorem d_M_remember_5 : decode m_M_remember.2.1 5 = .ok (.iload_n 2, 1) := by decide +kernel
theorem d_M_remember_6 : decode m_M_remember.2.1 6 = .ok (.iastore, 1) := by decide +kernel
theorem d_M_remember_7 : decode m_M_remember.2.1 7 = .ok (.aload_n 0, 1) := by decide +kernel
theorem d_M_remember_8 : decode m_M_remember.2.1 8 = .ok (.getfield 22, 3) := by decide +kernel
theorem d_M_remember_11 : decode m_M_remember.2.1 11 = .ok (.iload_n 1, 1) := by decide +kernel
theorem d_M_remember_12 : decode m_M_remember.2.1 12 = .ok (.iload_n 3, 1) := by decide +kernel
theorem d_M_remember_13 : decode m_M_remember.2.1 13 = .ok (.iastore, 1) := by decide +kernel
theorem d_M_remember_14 : decode m_M_remember.2.1 14 = .ok (.aload_n 0, 1) := by decide +kernel
theorem d_M_remember_15 : decode m_M_remember.2.1 15 = .ok (.getfield 43, 3) := by decide +kernel
theorem d_M_remember_18 : decode m_M_remember.2.1 18 = .ok (.aload_n 0, 1) := by decide +kernel
theorem d_M_remember_19 : decode m_M_remember.2.1 19 = .ok (.getfield 422, 3) := by decide +kernel
theorem d_M_remember_22 : decode m_M_remember.2.1 22 = .ok (.iload_n 1, 1) := by decide +kernel
theorem d_M_remember_23 : decode m_M_remember.2.1 23 = .ok (.iastore, 1) := by decide +kernel
theorem d_M_remember_24 : decode m_M_remember.2.1 24 = .ok (.aload_n 0, 1) := by decide +kernel
theorem d_M_remember_25 : decode m_M_remember.2.1 25 = .ok (.dup, 1) := by decide +kernel
theorem d_M_remember_26 : decode m_M_remember.2.1 26 = .ok (.getfield 422, 3) := by decide +kernel
theorem d_M_remember_29 : decode m_M_remember.2.1 29 = .ok (.iconst 1, 1) := by decide +kernel
theorem d_M_remember_30 : decode m_M_remember.2.1 30 = .ok (.iadd, 1) := by decide +kernel
theorem d_M_remember_31 : decode m_M_remember.2.1 31 = .ok (.putfield 422, 3) := by decide +kernel
theorem d_M_remember_34 : decode m_M_remember.2.1 34 = .ok (.return_, 1) := by decide +kernel
theorem d_M_declare_0 : decode m_M_declare.2.1 0 = .ok (.aload_n 0, 1) := by decide +kernel
theorem d_M_declare_1 : decode m_M_declare.2.1 1 = .ok (.iload_n 1, 1) := by decide +kernel
theorem d_M_declare_2 : decode m_M_declare.2.1 2 = .ok (.invokevirtual 425, 3) := by decide +kernel
theorem d_M_declare_5 : decode m_M_declare.2.1 5 = .ok (.ifCond .ne 5, 3) := by decide +kernel
theorem d_M_declare_8 : decode m_M_declare.2.1 8 = .ok (.iconst 0, 1) := by decide +kernel
theorem d_M_declare_9 : decode m_M_declare.2.1 9 = .ok (.ireturn, 1) := by decide +kernel
theorem d_M_declare_10 : decode m_M_declare.2.1 10 = .ok (.iload_n 1, 1) := by decide +kernel
theorem d_M_declare_11 : decode m_M_declare.2.1 11 = .ok (.bipush 65, 2) := by decide +kernel
theorem d_M_declare_13 : decode m_M_declare.2.1 13 = .ok (.isub, 1) := by decide +kernel
theorem d_M_declare_14 : decode m_M_declare.2.1 14 = .ok (.istore_n 2, 1) := by decide +kernel
theorem d_M_declare_15 : decode m_M_declare.2.1 15 = .ok (.aload_n 0, 1) := by decide +kernel
theorem d_M_declare_16 : decode m_M_declare.2.1 16 = .ok (.getfield 194, 3) := by decide +kernel
theorem d_M_declare_19 : decode m_M_declare.2.1 19 = .ok (.istore_n 3, 1) := by decide +kernel
theorem d_M_declare_20 : decode m_M_declare.2.1 20 = .ok (.aload_n 0, 1) := by decide +kernel
theorem d_M_declare_21 : decode m_M_declare.2.1 21 = .ok (.sipush 203, 3) := by decide +kernel
theorem d_M_declare_24 : decode m_M_declare.2.1 24 = .ok (.iconst 0, 1) := by decide +kernel
theorem d_M_declare_25 : decode m_M_declare.2.1 25 = .ok (.iconst 0, 1) := by decide +kernel
theorem d_M_declare_26 : decode m_M_declare.2.1 26 = .ok (.invokevirtual 429, 3) := by decide +kernel
theorem d_M_declare_29 : decode m_M_declare.2.1 29 = .ok (.istore 4, 2) := by decide +kernel
theorem d_M_declare_31 : decode m_M_declare.2.1 31 = .ok (.aload_n 0, 1) := by decide +kernel
theorem d_M_declare_32 : decode m_M_declare.2.1 32 = .ok (.getfield 243, 3) := by decide +kernel
theorem d_M_declare_35 : decode m_M_declare.2.1 35 = .ok (.istore 5, 2) := by decide +kernel
theorem d_M_declare_37 : decode m_M_declare.2.1 37 = .ok (.iload 4, 2) := by decide +kernel
theorem d_M_declare_39 : decode m_M_declare.2.1 39 = .ok (.ifCond .ge 12, 3) := by decide +kernel
theorem d_M_declare_42 : decode m_M_declare.2.1 42 = .ok (.aload_n 0, 1) := by decide +kernel
theorem d_M_declare_43 : decode m_M_declare.2.1 43 = .ok (.iload 5, 2) := by decide +kernel
theorem d_M_declare_45 : decode m_M_declare.2.1 45 = .ok (.invokevirtual 432, 3) := by decide +kernel
theorem d_M_declare_48 : decode m_M_declare.2.1 48 = .ok (.ifCond .ne 28, 3) := by decide +kernel
theorem d_M_declare_51 : decode m_M_declare.2.1 51 = .ok (.aload_n 0, 1) := by decide +kernel
theorem d_M_declare_52 : decode m_M_declare.2.1 52 = .ok (.iload_n 3, 1) := by decide +kernel
theorem d_M_declare_53 : decode m_M_declare.2.1 53 = .ok (.putfield 194, 3) := by decide +kernel
theorem d_M_declare_56 : decode m_M_declare.2.1 56 = .ok (.iload 4, 2) := by decide +kernel
theorem d_M_declare_58 : decode m_M_declare.2.1 58 = .ok (.ifCond .lt 10, 3) := by decide +kernel
theorem d_M_declare_61 : decode m_M_declare.2.1 61 = .ok (.iconst (-1), 1) := by decide +kernel
theorem d_M_declare_62 : decode m_M_declare.2.1 62 = .ok (.iload 4, 2) := by decide +kernel
theorem d_M_declare_64 : decode m_M_declare.2.1 64 = .ok (.isub, 1) := by decide +kernel
theorem d_M_declare_65 : decode m_M_declare.2.1 65 = .ok (.goto 10, 3) := by decide +kernel
theorem d_M_declare_68 : decode m_M_declare.2.1 68 = .ok (.bipush (-100), 2) := by decide +kernel
theorem d_M_declare_70 : decode m_M_declare.2.1 70 = .ok (.aload_n 0, 1) := by decide +kernel
theorem d_M_declare_71 : decode m_M_declare.2.1 71 = .ok (.getfield 367, 3) := by decide +kernel
theorem d_M_declare_74 : decode m_M_declare.2.1 74 = .ok (.isub, 1) := by decide +kernel
theorem d_M_declare_75 : decode m_M_declare.2.1 75 = .ok (.ireturn, 1) := by decide +kernel
theorem d_M_declare_76 : decode m_M_declare.2.1 76 = .ok (.aload_n 0, 1) := by decide +kernel
theorem d_M_declare_77 : decode m_M_declare.2.1 77 = .ok (.getfield 25, 3) := by decide +kernel
theorem d_M_declare_80 : decode m_M_declare.2.1 80 = .ok (.iload_n 2, 1) := by decide +kernel
theorem d_M_declare_81 : decode m_M_declare.2.1 81 = .ok (.iload_n 3, 1) := by decide +kernel
theorem d_M_declare_82 : decode m_M_declare.2.1 82 = .ok (.iastore, 1) := by decide +kernel
theorem d_M_declare_83 : decode m_M_declare.2.1 83 = .ok (.aload_n 0, 1) := by decide +kernel
theorem d_M_declare_84 : decode m_M_declare.2.1 84 = .ok (.getfield 28, 3) := by decide +kernel
theorem d_M_declare_87 : decode m_M_declare.2.1 87 = .ok (.iload_n 2, 1) := by decide +kernel
theorem d_M_declare_88 : decode m_M_declare.2.1 88 = .ok (.aload_n 0, 1) := by decide +kernel
theorem d_M_declare_89 : decode m_M_declare.2.1 89 = .ok (.getfield 253, 3) := by decide +kernel
theorem d_M_declare_92 : decode m_M_declare.2.1 92 = .ok (.iastore, 1) := by decide +kernel
theorem d_M_declare_93 : decode m_M_declare.2.1 93 = .ok (.aload_n 0, 1) := by decide +kernel
theorem d_M_declare_94 : decode m_M_declare.2.1 94 = .ok (.getfield 31, 3) := by decide +kernel
theorem d_M_declare_97 : decode m_M_declare.2.1 97 = .ok (.iload_n 2, 1) := by decide +kernel
theorem d_M_declare_98 : decode m_M_declare.2.1 98 = .ok (.aload_n 0, 1) := by decide +kernel
theorem d_M_declare_99 : decode m_M_declare.2.1 99 = .ok (.getfield 222, 3) := by decide +kernel
theorem d_M_declare_102 : decode m_M_declare.2.1 102 = .ok (.aload_n 0, 1) := by decide +kernel
theorem d_M_declare_103 : decode m_M_declare.2.1 103 = .ok (.getfield 253, 3) := by decide +kernel
theorem d_M_declare_106 : decode m_M_declare.2.1 106 = .ok (.isub, 1) := by decide +kernel
theorem d_M_declare_107 : decode m_M_declare.2.1 107 = .ok (.iastore, 1) := by decide +kernel
theorem d_M_declare_108 : decode m_M_declare.2.1 108 = .ok (.aload_n 0, 1) := by decide +kernel
theorem d_M_declare_109 : decode m_M_declare.2.1 109 = .ok (.getfield 34, 3) := by decide +kernel
theorem d_M_declare_112 : decode m_M_declare.2.1 112 = .ok (.iload_n 2, 1) := by decide +kernel
theorem d_M_declare_113 : decode m_M_declare.2.1 113 = .ok (.iload 5, 2) := by decide +kernel
theorem d_M_declare_115 : decode m_M_declare.2.1 115 = .ok (.iastore, 1) := by decide +kernel
theorem d_M_declare_116 : decode m_M_declare.2.1 116 = .ok (.aload_n 0, 1) := by decide +kernel
theorem d_M_declare_117 : decode m_M_declare.2.1 117 = .ok (.aload_n 0, 1) := by decide +kernel
theorem d_M_declare_118 : decode m_M_declare.2.1 118 = .ok (.getfield 222, 3) := by decide +kernel
theorem d_M_declare_121 : decode m_M_declare.2.1 121 = .ok (.putfield 253, 3) := by decide +kernel
theorem d_M_declare_124 : decode m_M_declare.2.1 124 = .ok (.aload_n 0, 1) := by decide +kernel
theorem d_M_declare_125 : decode m_M_declare.2.1 125 = .ok (.iload_n 2, 1) := by decide +kernel
theorem d_M_declare_126 : decode m_M_declare.2.1 126 = .ok (.iconst 1, 1) := by decide +kernel
theorem d_M_declare_127 : decode m_M_declare.2.1 127 = .ok (.aload_n 0, 1) := by decide +kernel
theorem d_M_declare_128 : decode m_M_declare.2.1 128 = .ok (.getfield 320, 3) := by decide +kernel
theorem d_M_declare_131 : decode m_M_declare.2.1 131 = .ok (.invokevirtual 435, 3) := by decide +kernel
theorem d_M_declare_134 : decode m_M_declare.2.1 134 = .ok (.aload_n 0, 1) := by decide +kernel
theorem d_M_declare_135 : decode m_M_declare.2.1 135 = .ok (.getfield 320, 3) := by decide +kernel
theorem d_M_declare_138 : decode m_M_declare.2.1 138 = .ok (.ireturn, 1) := by decide +kernel
theorem d_M_isBound_0 : decode m_M_isBound.2.1 0 = .ok (.iconst 0, 1) := by decide +kernel
theorem d_M_isBound_1 : decode m_M_isBound.2.1 1 = .ok (.istore 4, 2) := by decide +kernel
theorem d_M_isBound_3 : decode m_M_isBound.2.1 3 = .ok (.iconst 0, 1) := by decide +kernel
theorem d_M_isBound_4 : decode m_M_isBound.2.1 4 = .ok (.istore 5, 2) := by decide +kernel
theorem d_M_isBound_6 : decode m_M_isBound.2.1 6 = .ok (.iload 5, 2) := by decide +kernel
theorem d_M_isBound_8 : decode m_M_isBound.2.1 8 = .ok (.iload_n 3, 1) := by decide +kernel
theorem d_M_isBound_9 : decode m_M_isBound.2.1 9 = .ok (.if_icmp .ge 37, 3) := by decide +kernel
theorem d_M_isBound_12 : decode m_M_isBound.2.1 12 = .ok (.iload 4, 2) := by decide +kernel
theorem d_M_isBound_14 : decode m_M_isBound.2.1 14 = .ok (.ifCond .ne 19, 3) := by decide +kernel
theorem d_M_isBound_17 : decode m_M_isBound.2.1 17 = .ok (.aload_n 0, 1) := by decide +kernel
theorem d_M_isBound_18 : decode m_M_isBound.2.1 18 = .ok (.getfield 142, 3) := by decide +kernel
theorem d_M_isBound_21 : decode m_M_isBound.2.1 21 = .ok (.iload 5, 2) := by decide +kernel
theorem d_M_isBound_23 : decode m_M_isBound.2.1 23 = .ok (.iaload, 1) := by decide +kernel
theorem d_M_isBound_24 : decode m_M_isBound.2.1 24 = .ok (.aload_n 0, 1) := by decide +kernel
theorem d_M_isBound_25 : decode m_M_isBound.2.1 25 = .ok (.getfield 49, 3) := by decide +kernel
theorem d_M_isBound_28 : decode m_M_isBound.2.1 28 = .ok (.iload_n 1, 1) := by decide +kernel
theorem d_M_isBound_29 : decode m_M_isBound.2.1 29 = .ok (.iaload, 1) := by decide +kernel
theorem d_M_isBound_30 : decode m_M_isBound.2.1 30 = .ok (.if_icmp .ne 7, 3) := by decide +kernel
theorem d_M_isBound_33 : decode m_M_isBound.2.1 33 = .ok (.iconst 1, 1) := by decide +kernel
theorem d_M_isBound_34 : decode m_M_isBound.2.1 34 = .ok (.goto 4, 3) := by decide +kernel
theorem d_M_isBound_37 : decode m_M_isBound.2.1 37 = .ok (.iconst 0, 1) := by decide +kernel
theorem d_M_isBound_38 : decode m_M_isBound.2.1 38 = .ok (.istore 4, 2) := by decide +kernel
theorem d_M_isBound_40 : decode m_M_isBound.2.1 40 = .ok (.iinc 5 1, 3) := by decide +kernel
theorem d_M_isBound_43 : decode m_M_isBound.2.1 43 = .ok (.goto (-37), 3) := by decide +kernel
theorem d_M_isBound_46 : decode m_M_isBound.2.1 46 = .ok (.iload_n 2, 1) := by decide +kernel
theorem d_M_isBound_47 : decode m_M_isBound.2.1 47 = .ok (.istore 5, 2) := by decide +kernel
theorem d_M_isBound_49 : decode m_M_isBound.2.1 49 = .ok (.iload 5, 2) := by decide +kernel
theorem d_M_isBound_51 : decode m_M_isBound.2.1 51 = .ok (.iload_n 1, 1) := by decide +kernel
theorem d_M_isBound_52 : decode m_M_isBound.2.1 52 = .ok (.if_icmp .ge 111, 3) := by decide +kernel
theorem d_M_isBound_55 : decode m_M_isBound.2.1 55 = .ok (.aload_n 0, 1) := by decide +kernel
theorem d_M_isBound_56 : decode m_M_isBound.2.1 56 = .ok (.getfield 46, 3) := by decide +kernel
theorem d_M_isBound_59 : decode m_M_isBound.2.1 59 = .ok (.iload 5, 2) := by decide +kernel
theorem d_M_isBound_61 : decode m_M_isBound.2.1 61 = .ok (.iaload, 1) := by decide +kernel
theorem d_M_isBound_62 : decode m_M_isBound.2.1 62 = .ok (.bipush 13, 2) := by decide +kernel
theorem d_M_isBound_64 : decode m_M_isBound.2.1 64 = .ok (.if_icmp .ne 93, 3) := by decide +kernel
theorem d_M_isBound_67 : decode m_M_isBound.2.1 67 = .ok (.aload_n 0, 1) := by decide +kernel
theorem d_M_isBound_68 : decode m_M_isBound.2.1 68 = .ok (.iload 5, 2) := by decide +kernel
theorem d_M_isBound_70 : decode m_M_isBound.2.1 70 = .ok (.invokevirtual 268, 3) := by decide +kernel
theorem d_M_isBound_73 : decode m_M_isBound.2.1 73 = .ok (.istore 6, 2) := by decide +kernel
theorem d_M_isBound_75 : decode m_M_isBound.2.1 75 = .ok (.iload 6, 2) := by decide +kernel
theorem d_M_isBound_77 : decode m_M_isBound.2.1 77 = .ok (.iload_n 1, 1) := by decide +kernel
theorem d_M_isBound_78 : decode m_M_isBound.2.1 78 = .ok (.if_icmp .gt 17, 3) := by decide +kernel
theorem d_M_isBound_81 : decode m_M_isBound.2.1 81 = .ok (.iload_n 1, 1) := by decide +kernel
theorem d_M_isBound_82 : decode m_M_isBound.2.1 82 = .ok (.aload_n 0, 1) := by decide +kernel
theorem d_M_isBound_83 : decode m_M_isBound.2.1 83 = .ok (.iload 6, 2) := by decide +kernel
theorem d_M_isBound_85 : decode m_M_isBound.2.1 85 = .ok (.invokevirtual 268, 3) := by decide +kernel
theorem d_M_isBound_88 : decode m_M_isBound.2.1 88 = .ok (.if_icmp .ge 7, 3) := by decide +kernel
theorem d_M_isBound_91 : decode m_M_isBound.2.1 91 = .ok (.iconst 1, 1) := by decide +kernel
theorem d_M_isBound_92 : decode m_M_isBound.2.1 92 = .ok (.goto 4, 3) := by decide +kernel
theorem d_M_isBound_95 : decode m_M_isBound.2.1 95 = .ok (.iconst 0, 1) := by decide +kernel
theorem d_M_isBound_96 : decode m_M_isBound.2.1 96 = .ok (.istore 7, 2) := by decide +kernel
theorem d_M_isBound_98 : decode m_M_isBound.2.1 98 = .ok (.iconst 0, 1) := by decide +kernel
theorem d_M_isBound_99 : decode m_M_isBound.2.1 99 = .ok (.istore 8, 2) := by decide +kernel
theorem d_M_isBound_101 : decode m_M_isBound.2.1 101 = .ok (.iload 8, 2) := by decide +kernel
theorem d_M_isBound_103 : decode m_M_isBound.2.1 103 = .ok (.aload_n 0, 1) := by decide +kernel
theorem d_M_isBound_104 : decode m_M_isBound.2.1 104 = .ok (.getfield 52, 3) := by decide +kernel
theorem d_M_isBound_107 : decode m_M_isBound.2.1 107 = .ok (.iload 5, 2) := by decide +kernel
theorem d_M_isBound_109 : decode m_M_isBound.2.1 109 = .ok (.iaload, 1) := by decide +kernel
theorem d_M_isBound_110 : decode m_M_isBound.2.1 110 = .ok (.if_icmp .ge 47, 3) := by decide +kernel
theorem d_M_isBound_113 : decode m_M_isBound.2.1 113 = .ok (.iload 7, 2) := by decide +kernel
theorem d_M_isBound_115 : decode m_M_isBound.2.1 115 = .ok (.ifCond .eq 42, 3) := by decide +kernel
theorem d_M_isBound_118 : decode m_M_isBound.2.1 118 = .ok (.iload 4, 2) := by decide +kernel
theorem d_M_isBound_120 : decode m_M_isBound.2.1 120 = .ok (.ifCond .ne 24, 3) := by decide +kernel
theorem d_M_isBound_123 : decode m_M_isBound.2.1 123 = .ok (.aload_n 0, 1) := by decide +kernel
theorem d_M_isBound_124 : decode m_M_isBound.2.1 124 = .ok (.getfield 49, 3) := by decide +kernel
theorem d_M_isBound_127 : decode m_M_isBound.2.1 127 = .ok (.iload 5, 2) := by decide +kernel
theorem d_M_isBound_129 : decode m_M_isBound.2.1 129 = .ok (.iconst 1, 1) := by decide +kernel
theorem d_M_isBound_130 : decode m_M_isBound.2.1 130 = .ok (.iadd, 1) := by decide +kernel
theorem d_M_isBound_131 : decode m_M_isBound.2.1 131 = .ok (.iload 8, 2) := by decide +kernel
theorem d_M_isBound_133 : decode m_M_isBound.2.1 133 = .ok (.iadd, 1) := by decide +kernel
theorem d_M_isBound_134 : decode m_M_isBound.2.1 134 = .ok (.iaload, 1) := by decide +kernel
theorem d_M_isBound_135 : decode m_M_isBound.2.1 135 = .ok (.aload_n 0, 1) := by decide +kernel
theorem d_M_isBound_136 : decode m_M_isBound.2.1 136 = .ok (.getfield 49, 3) := by decide +kernel
theorem d_M_isBound_139 : decode m_M_isBound.2.1 139 = .ok (.iload_n 1, 1) := by decide +kernel
theorem d_M_isBound_140 : decode m_M_isBound.2.1 140 = .ok (.iaload, 1) := by decide +kernel
theorem d_M_isBound_141 : decode m_M_isBound.2.1 141 = .ok (.if_icmp .ne 7, 3) := by decide +kernel
theorem d_M_isBound_144 : decode m_M_isBound.2.1 144 = .ok (.iconst 1, 1) := by decide +kernel
theorem d_M_isBound_145 : decode m_M_isBound.2.1 145 = .ok (.goto 4, 3) := by decide +kernel
theorem d_M_isBound_148 : decode m_M_isBound.2.1 148 = .ok (.iconst 0, 1) := by decide +kernel
theorem d_M_isBound_149 : decode m_M_isBound.2.1 149 = .ok (.istore 4, 2) := by decide +kernel
theorem d_M_isBound_151 : decode m_M_isBound.2.1 151 = .ok (.iinc 8 1, 3) := by decide +kernel
theorem d_M_isBound_154 : decode m_M_isBound.2.1 154 = .ok (.goto (-53), 3) := by decide +kernel
theorem d_M_isBound_157 : decode m_M_isBound.2.1 157 = .ok (.iinc 5 1, 3) := by decide +kernel
theorem d_M_isBound_160 : decode m_M_isBound.2.1 160 = .ok (.goto (-111), 3) := by decide +kernel
theorem d_M_isBound_163 : decode m_M_isBound.2.1 163 = .ok (.iload 4, 2) := by decide +kernel
theorem d_M_isBound_165 : decode m_M_isBound.2.1 165 = .ok (.ireturn, 1) := by decide +kernel
theorem d_M_isRightCode_0 : decode m_M_isRightCode.2.1 0 = .ok (.iload_n 2, 1) := by decide +kernel
theorem d_M_isRightCode_1 : decode m_M_isRightCode.2.1 1 = .ok (.istore 4, 2) := by decide +kernel
theorem d_M_isRightCode_3 : decode m_M_isRightCode.2.1 3 = .ok (.iload 4, 2) := by decide +kernel
theorem d_M_isRightCode_5 : decode m_M_isRightCode.2.1 5 = .ok (.aload_n 0, 1) := by decide +kernel
theorem d_M_isRightCode_6 : decode m_M_isRightCode.2.1 6 = .ok (.getfield 194, 3) := by decide +kernel
theorem d_M_isRightCode_9 : decode m_M_isRightCode.2.1 9 = .ok (.if_icmp .ge 188, 3) := by decide +kernel
theorem d_M_isRightCode_12 : decode m_M_isRightCode.2.1 12 = .ok (.aload_n 0, 1) := by decide +kernel
theorem d_M_isRightCode_13 : decode m_M_isRightCode.2.1 13 = .ok (.getfield 49, 3) := by decide +kernel
theorem d_M_isRightCode_16 : decode m_M_isRightCode.2.1 16 = .ok (.iload 4, 2) := by decide +kernel
theorem d_M_isRightCode_18 : decode m_M_isRightCode.2.1 18 = .ok (.iaload, 1) := by decide +kernel
theorem d_M_isRightCode_19 : decode m_M_isRightCode.2.1 19 = .ok (.istore 5, 2) := by decide +kernel
theorem d_M_isRightCode_21 : decode m_M_isRightCode.2.1 21 = .ok (.iconst 1, 1) := by decide +kernel
theorem d_M_isRightCode_22 : decode m_M_isRightCode.2.1 22 = .ok (.istore 6, 2) := by decide +kernel
theorem d_M_isRightCode_24 : decode m_M_isRightCode.2.1 24 = .ok (.aload_n 0, 1) := by decide +kernel
theorem d_M_isRightCode_25 : decode m_M_isRightCode.2.1 25 = .ok (.getfield 46, 3) := by decide +kernel
theorem d_M_isRightCode_28 : decode m_M_isRightCode.2.1 28 = .ok (.iload 4, 2) := by decide +kernel
theorem d_M_isRightCode_30 : decode m_M_isRightCode.2.1 30 = .ok (.iaload, 1) := by decide +kernel
theorem d_M_isRightCode_31 : decode m_M_isRightCode.2.1 31 = .ok (.iconst 1, 1) := by decide +kernel
theorem d_M_isRightCode_32 : decode m_M_isRightCode.2.1 32 = .ok (.if_icmp .ne 16, 3) := by decide +kernel
theorem d_M_isRightCode_35 : decode m_M_isRightCode.2.1 35 = .ok (.aload_n 0, 1) := by decide +kernel
theorem d_M_isRightCode_36 : decode m_M_isRightCode.2.1 36 = .ok (.iload 4, 2) := by decide +kernel
theorem d_M_isRightCode_38 : decode m_M_isRightCode.2.1 38 = .ok (.iload_n 2, 1) := by decide +kernel
theorem d_M_isRightCode_39 : decode m_M_isRightCode.2.1 39 = .ok (.iload_n 3, 1) := by decide +kernel
theorem d_M_isRightCode_40 : decode m_M_isRightCode.2.1 40 = .ok (.invokevirtual 438, 3) := by decide +kernel
theorem d_M_isRightCode_43 : decode m_M_isRightCode.2.1 43 = .ok (.istore 6, 2) := by decide +kernel
theorem d_M_isRightCode_45 : decode m_M_isRightCode.2.1 45 = .ok (.goto 123, 3) := by decide +kernel
theorem d_M_isRightCode_48 : decode m_M_isRightCode.2.1 48 = .ok (.aload_n 0, 1) := by decide +kernel
theorem d_M_isRightCode_49 : decode m_M_isRightCode.2.1 49 = .ok (.getfield 46, 3) := by decide +kernel
theorem d_M_isRightCode_52 : decode m_M_isRightCode.2.1 52 = .ok (.iload 4, 2) := by decide +kernel
theorem d_M_isRightCode_54 : decode m_M_isRightCode.2.1 54 = .ok (.iaload, 1) := by decide +kernel
theorem d_M_isRightCode_55 : decode m_M_isRightCode.2.1 55 = .ok (.bipush 13, 2) := by decide +kernel
theorem d_M_isRightCode_57 : decode m_M_isRightCode.2.1 57 = .ok (.if_icmp .ne 41, 3) := by decide +kernel
theorem d_M_isRightCode_60 : decode m_M_isRightCode.2.1 60 = .ok (.aload_n 0, 1) := by decide +kernel
theorem d_M_isRightCode_61 : decode m_M_isRightCode.2.1 61 = .ok (.getfield 19, 3) := by decide +kernel
theorem d_M_isRightCode_64 : decode m_M_isRightCode.2.1 64 = .ok (.iload 5, 2) := by decide +kernel
theorem d_M_isRightCode_66 : decode m_M_isRightCode.2.1 66 = .ok (.iaload, 1) := by decide +kernel
theorem d_M_isRightCode_67 : decode m_M_isRightCode.2.1 67 = .ok (.iconst 1, 1) := by decide +kernel
theorem d_M_isRightCode_68 : decode m_M_isRightCode.2.1 68 = .ok (.if_icmp .ne 24, 3) := by decide +kernel
theorem d_M_isRightCode_71 : decode m_M_isRightCode.2.1 71 = .ok (.aload_n 0, 1) := by decide +kernel
theorem d_M_isRightCode_72 : decode m_M_isRightCode.2.1 72 = .ok (.getfield 22, 3) := by decide +kernel
theorem d_M_isRightCode_75 : decode m_M_isRightCode.2.1 75 = .ok (.iload 5, 2) := by decide +kernel
theorem d_M_isRightCode_77 : decode m_M_isRightCode.2.1 77 = .ok (.iaload, 1) := by decide +kernel
theorem d_M_isRightCode_78 : decode m_M_isRightCode.2.1 78 = .ok (.aload_n 0, 1) := by decide +kernel
theorem d_M_isRightCode_79 : decode m_M_isRightCode.2.1 79 = .ok (.getfield 52, 3) := by decide +kernel
theorem d_M_isRightCode_82 : decode m_M_isRightCode.2.1 82 = .ok (.iload 4, 2) := by decide +kernel
theorem d_M_isRightCode_84 : decode m_M_isRightCode.2.1 84 = .ok (.iaload, 1) := by decide +kernel
theorem d_M_isRightCode_85 : decode m_M_isRightCode.2.1 85 = .ok (.if_icmp .ne 7, 3) := by decide +kernel
theorem d_M_isRightCode_88 : decode m_M_isRightCode.2.1 88 = .ok (.iconst 1, 1) := by decide +kernel
theorem d_M_isRightCode_89 : decode m_M_isRightCode.2.1 89 = .ok (.goto 4, 3) := by decide +kernel
theorem d_M_isRightCode_92 : decode m_M_isRightCode.2.1 92 = .ok (.iconst 0, 1) := by decide +kernel
theorem d_M_isRightCode_93 : decode m_M_isRightCode.2.1 93 = .ok (.istore 6, 2) := by decide +kernel
theorem d_M_isRightCode_95 : decode m_M_isRightCode.2.1 95 = .ok (.goto 73, 3) := by decide +kernel
theorem d_M_isRightCode_98 : decode m_M_isRightCode.2.1 98 = .ok (.aload_n 0, 1) := by decide +kernel
theorem d_M_isRightCode_99 : decode m_M_isRightCode.2.1 99 = .ok (.getfield 46, 3) := by decide +kernel
theorem d_M_isRightCode_102 : decode m_M_isRightCode.2.1 102 = .ok (.iload 4, 2) := by decide +kernel
theorem d_M_isRightCode_104 : decode m_M_isRightCode.2.1 104 = .ok (.iaload, 1) := by decide +kernel
theorem d_M_isRightCode_105 : decode m_M_isRightCode.2.1 105 = .ok (.iconst 5, 1) := by decide +kernel
theorem d_M_isRightCode_106 : decode m_M_isRightCode.2.1 106 = .ok (.if_icmp .ne 62, 3) := by decide +kernel
theorem d_M_isRightCode_109 : decode m_M_isRightCode.2.1 109 = .ok (.iload 5, 2) := by decide +kernel
theorem d_M_isRightCode_111 : decode m_M_isRightCode.2.1 111 = .ok (.iload_n 1, 1) := by decide +kernel
theorem d_M_isRightCode_112 : decode m_M_isRightCode.2.1 112 = .ok (.if_icmp .ne 22, 3) := by decide +kernel
theorem d_M_isRightCode_115 : decode m_M_isRightCode.2.1 115 = .ok (.aload_n 0, 1) := by decide +kernel
theorem d_M_isRightCode_116 : decode m_M_isRightCode.2.1 116 = .ok (.getfield 52, 3) := by decide +kernel
theorem d_M_isRightCode_119 : decode m_M_isRightCode.2.1 119 = .ok (.iload 4, 2) := by decide +kernel
theorem d_M_isRightCode_121 : decode m_M_isRightCode.2.1 121 = .ok (.iaload, 1) := by decide +kernel
theorem d_M_isRightCode_122 : decode m_M_isRightCode.2.1 122 = .ok (.iload_n 3, 1) := by decide +kernel
theorem d_M_isRightCode_123 : decode m_M_isRightCode.2.1 123 = .ok (.if_icmp .ne 7, 3) := by decide +kernel
theorem d_M_isRightCode_126 : decode m_M_isRightCode.2.1 126 = .ok (.iconst 1, 1) := by decide +kernel
theorem d_M_isRightCode_127 : decode m_M_isRightCode.2.1 127 = .ok (.goto 39, 3) := by decide +kernel
theorem d_M_isRightCode_130 : decode m_M_isRightCode.2.1 130 = .ok (.iconst 0, 1) := by decide +kernel
theorem d_M_isRightCode_131 : decode m_M_isRightCode.2.1 131 = .ok (.goto 35, 3) := by decide +kernel
theorem d_M_isRightCode_134 : decode m_M_isRightCode.2.1 134 = .ok (.aload_n 0, 1) := by decide +kernel
theorem d_M_isRightCode_135 : decode m_M_isRightCode.2.1 135 = .ok (.getfield 19, 3) := by decide +kernel
theorem d_M_isRightCode_138 : decode m_M_isRightCode.2.1 138 = .ok (.iload 5, 2) := by decide +kernel
theorem d_M_isRightCode_140 : decode m_M_isRightCode.2.1 140 = .ok (.iaload, 1) := by decide +kernel
theorem d_M_isRightCode_141 : decode m_M_isRightCode.2.1 141 = .ok (.ifCond .eq 24, 3) := by decide +kernel
theorem d_M_isRightCode_144 : decode m_M_isRightCode.2.1 144 = .ok (.aload_n 0, 1) := by decide +kernel
theorem d_M_isRightCode_145 : decode m_M_isRightCode.2.1 145 = .ok (.getfield 22, 3) := by decide +kernel
theorem d_M_isRightCode_148 : decode m_M_isRightCode.2.1 148 = .ok (.iload 5, 2) := by decide +kernel
theorem d_M_isRightCode_150 : decode m_M_isRightCode.2.1 150 = .ok (.iaload, 1) := by decide +kernel
theorem d_M_isRightCode_151 : decode m_M_isRightCode.2.1 151 = .ok (.aload_n 0, 1) := by decide +kernel
theorem d_M_isRightCode_152 : decode m_M_isRightCode.2.1 152 = .ok (.getfield 52, 3) := by decide +kernel
theorem d_M_isRightCode_155 : decode m_M_isRightCode.2.1 155 = .ok (.iload 4, 2) := by decide +kernel
theorem d_M_isRightCode_157 : decode m_M_isRightCode.2.1 157 = .ok (.iaload, 1) := by decide +kernel
theorem d_M_isRightCode_158 : decode m_M_isRightCode.2.1 158 = .ok (.if_icmp .ne 7, 3) := by decide +kernel
theorem d_M_isRightCode_161 : decode m_M_isRightCode.2.1 161 = .ok (.iconst 1, 1) := by decide +kernel
theorem d_M_isRightCode_162 : decode m_M_isRightCode.2.1 162 = .ok (.goto 4, 3) := by decide +kernel
theorem d_M_isRightCode_165 : decode m_M_isRightCode.2.1 165 = .ok (.iconst 0, 1) := by decide +kernel
theorem d_M_isRightCode_166 : decode m_M_isRightCode.2.1 166 = .ok (.istore 6, 2) := by decide +kernel
theorem d_M_isRightCode_168 : decode m_M_isRightCode.2.1 168 = .ok (.iload 6, 2) := by decide +kernel
theorem d_M_isRightCode_170 : decode m_M_isRightCode.2.1 170 = .ok (.ifCond .ne 21, 3) := by decide +kernel
theorem d_M_isRightCode_173 : decode m_M_isRightCode.2.1 173 = .ok (.aload_n 0, 1) := by decide +kernel
theorem d_M_isRightCode_174 : decode m_M_isRightCode.2.1 174 = .ok (.aload_n 0, 1) := by decide +kernel
theorem d_M_isRightCode_175 : decode m_M_isRightCode.2.1 175 = .ok (.getfield 55, 3) := by decide +kernel
theorem d_M_isRightCode_178 : decode m_M_isRightCode.2.1 178 = .ok (.iload 4, 2) := by decide +kernel
theorem d_M_isRightCode_180 : decode m_M_isRightCode.2.1 180 = .ok (.aload_n 0, 1) := by decide +kernel
theorem d_M_isRightCode_181 : decode m_M_isRightCode.2.1 181 = .ok (.getfield 197, 3) := by decide +kernel
theorem d_M_isRightCode_184 : decode m_M_isRightCode.2.1 184 = .ok (.isub, 1) := by decide +kernel
theorem d_M_isRightCode_185 : decode m_M_isRightCode.2.1 185 = .ok (.iaload, 1) := by decide +kernel
theorem d_M_isRightCode_186 : decode m_M_isRightCode.2.1 186 = .ok (.putfield 367, 3) := by decide +kernel
theorem d_M_isRightCode_189 : decode m_M_isRightCode.2.1 189 = .ok (.iconst 0, 1) := by decide +kernel
theorem d_M_isRightCode_190 : decode m_M_isRightCode.2.1 190 = .ok (.ireturn, 1) := by decide +kernel
theorem d_M_isRightCode_191 : decode m_M_isRightCode.2.1 191 = .ok (.iinc 4 1, 3) := by decide +kernel
theorem d_M_isRightCode_194 : decode m_M_isRightCode.2.1 194 = .ok (.goto (-191), 3) := by decide +kernel
theorem d_M_isRightCode_197 : decode m_M_isRightCode.2.1 197 = .ok (.iconst 1, 1) := by decide +kernel
theorem d_M_isRightCode_198 : decode m_M_isRightCode.2.1 198 = .ok (.ireturn, 1) := by decide +kernel
theorem d_M_program_0 : decode m_M_program.2.1 0 = .ok (.aload_n 0, 1) := by decide +kernel
theorem d_M_program_1 : decode m_M_program.2.1 1 = .ok (.iload_n 1, 1) := by decide +kernel
theorem d_M_program_2 : decode m_M_program.2.1 2 = .ok (.invokevirtual 425, 3) := by decide +kernel
theorem d_M_program_5 : decode m_M_program.2.1 5 = .ok (.ifCond .ne 5, 3) := by decide +kernel
theorem d_M_program_8 : decode m_M_program.2.1 8 = .ok (.iconst 0, 1) := by decide +kernel
theorem d_M_program_9 : decode m_M_program.2.1 9 = .ok (.ireturn, 1) := by decide +kernel
theorem d_M_program_10 : decode m_M_program.2.1 10 = .ok (.iload_n 1, 1) := by decide +kernel
theorem d_M_program_11 : decode m_M_program.2.1 11 = .ok (.bipush 65, 2) := by decide +kernel
theorem d_M_program_13 : decode m_M_program.2.1 13 = .ok (.isub, 1) := by decide +kernel
theorem d_M_program_14 : decode m_M_program.2.1 14 = .ok (.istore_n 2, 1) := by decide +kernel
theorem d_M_program_15 : decode m_M_program.2.1 15 = .ok (.aload_n 0, 1) := by decide +kernel
theorem d_M_program_16 : decode m_M_program.2.1 16 = .ok (.getfield 194, 3) := by decide +kernel
theorem d_M_program_19 : decode m_M_program.2.1 19 = .ok (.istore_n 3, 1) := by decide +kernel
theorem d_M_program_20 : decode m_M_program.2.1 20 = .ok (.aload_n 0, 1) := by decide +kernel
theorem d_M_program_21 : decode m_M_program.2.1 21 = .ok (.sipush 209, 3) := by decide +kernel
theorem d_M_program_24 : decode m_M_program.2.1 24 = .ok (.iconst 0, 1) := by decide +kernel
theorem d_M_program_25 : decode m_M_program.2.1 25 = .ok (.iconst 0, 1) := by decide +kernel
theorem d_M_program_26 : decode m_M_program.2.1 26 = .ok (.invokevirtual 429, 3) := by decide +kernel
theorem d_M_program_29 : decode m_M_program.2.1 29 = .ok (.istore 4, 2) := by decide +kernel
theorem d_M_program_31 : decode m_M_program.2.1 31 = .ok (.aload_n 0, 1) := by decide +kernel
theorem d_M_program_32 : decode m_M_program.2.1 32 = .ok (.getfield 243, 3) := by decide +kernel
theorem d_M_program_35 : decode m_M_program.2.1 35 = .ok (.istore 5, 2) := by decide +kernel
theorem d_M_program_37 : decode m_M_program.2.1 37 = .ok (.iload 4, 2) := by decide +kernel
theorem d_M_program_39 : decode m_M_program.2.1 39 = .ok (.ifCond .ge 14, 3) := by decide +kernel
theorem d_M_program_42 : decode m_M_program.2.1 42 = .ok (.aload_n 0, 1) := by decide +kernel
theorem d_M_program_43 : decode m_M_program.2.1 43 = .ok (.iload_n 2, 1) := by decide +kernel
theorem d_M_program_44 : decode m_M_program.2.1 44 = .ok (.iload_n 3, 1) := by decide +kernel
theorem d_M_program_45 : decode m_M_program.2.1 45 = .ok (.iload 5, 2) := by decide +kernel
theorem d_M_program_47 : decode m_M_program.2.1 47 = .ok (.invokevirtual 441, 3) := by decide +kernel
theorem d_M_program_50 : decode m_M_program.2.1 50 = .ok (.ifCond .ne 28, 3) := by decide +kernel
theorem d_M_program_53 : decode m_M_program.2.1 53 = .ok (.aload_n 0, 1) := by decide +kernel
theorem d_M_program_54 : decode m_M_program.2.1 54 = .ok (.iload_n 3, 1) := by decide +kernel
theorem d_M_program_55 : decode m_M_program.2.1 55 = .ok (.putfield 194, 3) := by decide +kernel
theorem d_M_program_58 : decode m_M_program.2.1 58 = .ok (.iload 4, 2) := by decide +kernel
theorem d_M_program_60 : decode m_M_program.2.1 60 = .ok (.ifCond .lt 10, 3) := by decide +kernel
theorem d_M_program_63 : decode m_M_program.2.1 63 = .ok (.iconst (-1), 1) := by decide +kernel
theorem d_M_program_64 : decode m_M_program.2.1 64 = .ok (.iload 4, 2) := by decide +kernel
theorem d_M_program_66 : decode m_M_program.2.1 66 = .ok (.isub, 1) := by decide +kernel
theorem d_M_program_67 : decode m_M_program.2.1 67 = .ok (.goto 10, 3) := by decide +kernel
theorem d_M_program_70 : decode m_M_program.2.1 70 = .ok (.bipush (-100), 2) := by decide +kernel
theorem d_M_program_72 : decode m_M_program.2.1 72 = .ok (.aload_n 0, 1) := by decide +kernel
theorem d_M_program_73 : decode m_M_program.2.1 73 = .ok (.getfield 367, 3) := by decide +kernel
theorem d_M_program_76 : decode m_M_program.2.1 76 = .ok (.isub, 1) := by decide +kernel
theorem d_M_program_77 : decode m_M_program.2.1 77 = .ok (.ireturn, 1) := by decide +kernel
theorem d_M_program_78 : decode m_M_program.2.1 78 = .ok (.aload_n 0, 1) := by decide +kernel
theorem d_M_program_79 : decode m_M_program.2.1 79 = .ok (.getfield 25, 3) := by decide +kernel
theorem d_M_program_82 : decode m_M_program.2.1 82 = .ok (.iload_n 2, 1) := by decide +kernel
theorem d_M_program_83 : decode m_M_program.2.1 83 = .ok (.iload_n 3, 1) := by decide +kernel
theorem d_M_program_84 : decode m_M_program.2.1 84 = .ok (.iastore, 1) := by decide +kernel
theorem d_M_program_85 : decode m_M_program.2.1 85 = .ok (.aload_n 0, 1) := by decide +kernel
theorem d_M_program_86 : decode m_M_program.2.1 86 = .ok (.getfield 28, 3) := by decide +kernel
theorem d_M_program_89 : decode m_M_program.2.1 89 = .ok (.iload_n 2, 1) := by decide +kernel
theorem d_M_program_90 : decode m_M_program.2.1 90 = .ok (.aload_n 0, 1) := by decide +kernel
theorem d_M_program_91 : decode m_M_program.2.1 91 = .ok (.getfield 253, 3) := by decide +kernel
theorem d_M_program_94 : decode m_M_program.2.1 94 = .ok (.iastore, 1) := by decide +kernel
theorem d_M_program_95 : decode m_M_program.2.1 95 = .ok (.aload_n 0, 1) := by decide +kernel
theorem d_M_program_96 : decode m_M_program.2.1 96 = .ok (.getfield 31, 3) := by decide +kernel
theorem d_M_program_99 : decode m_M_program.2.1 99 = .ok (.iload_n 2, 1) := by decide +kernel
theorem d_M_program_100 : decode m_M_program.2.1 100 = .ok (.iconst 0, 1) := by decide +kernel
theorem d_M_program_101 : decode m_M_program.2.1 101 = .ok (.iastore, 1) := by decide +kernel
theorem d_M_program_102 : decode m_M_program.2.1 102 = .ok (.aload_n 0, 1) := by decide +kernel
theorem d_M_program_103 : decode m_M_program.2.1 103 = .ok (.getfield 37, 3) := by decide +kernel
theorem d_M_program_106 : decode m_M_program.2.1 106 = .ok (.iload_n 2, 1) := by decide +kernel
theorem d_M_program_107 : decode m_M_program.2.1 107 = .ok (.iload_n 3, 1) := by decide +kernel
theorem d_M_program_108 : decode m_M_program.2.1 108 = .ok (.iastore, 1) := by decide +kernel
theorem d_M_program_109 : decode m_M_program.2.1 109 = .ok (.iconst 0, 1) := by decide +kernel
theorem d_M_program_110 : decode m_M_program.2.1 110 = .ok (.istore 6, 2) := by decide +kernel
theorem d_M_program_112 : decode m_M_program.2.1 112 = .ok (.iload 6, 2) := by decide +kernel
theorem d_M_program_114 : decode m_M_program.2.1 114 = .ok (.iload 5, 2) := by decide +kernel
theorem d_M_program_116 : decode m_M_program.2.1 116 = .ok (.if_icmp .ge 27, 3) := by decide +kernel
theorem d_M_program_119 : decode m_M_program.2.1 119 = .ok (.aload_n 0, 1) := by decide +kernel
theorem d_M_program_120 : decode m_M_program.2.1 120 = .ok (.getfield 40, 3) := by decide +kernel
theorem d_M_program_123 : decode m_M_program.2.1 123 = .ok (.iconst 4, 1) := by decide +kernel
theorem d_M_program_124 : decode m_M_program.2.1 124 = .ok (.iload_n 2, 1) := by decide +kernel
theorem d_M_program_125 : decode m_M_program.2.1 125 = .ok (.imul, 1) := by decide +kernel
theorem d_M_program_126 : decode m_M_program.2.1 126 = .ok (.iload 6, 2) := by decide +kernel
theorem d_M_program_128 : decode m_M_program.2.1 128 = .ok (.iadd, 1) := by decide +kernel
theorem d_M_program_129 : decode m_M_program.2.1 129 = .ok (.aload_n 0, 1) := by decide +kernel
theorem d_M_program_130 : decode m_M_program.2.1 130 = .ok (.getfield 142, 3) := by decide +kernel
theorem d_M_program_133 : decode m_M_program.2.1 133 = .ok (.iload 6, 2) := by decide +kernel
theorem d_M_program_135 : decode m_M_program.2.1 135 = .ok (.iaload, 1) := by decide +kernel
theorem d_M_program_136 : decode m_M_program.2.1 136 = .ok (.iastore, 1) := by decide +kernel
theorem d_M_program_137 : decode m_M_program.2.1 137 = .ok (.iinc 6 1, 3) := by decide +kernel
theorem d_M_program_140 : decode m_M_program.2.1 140 = .ok (.goto (-28), 3) := by decide +kernel
theorem d_M_program_143 : decode m_M_program.2.1 143 = .ok (.aload_n 0, 1) := by decide +kernel
theorem d_M_program_144 : decode m_M_program.2.1 144 = .ok (.iload_n 2, 1) := by decide +kernel
theorem d_M_program_145 : decode m_M_program.2.1 145 = .ok (.iconst 2, 1) := by decide +kernel
theorem d_M_program_146 : decode m_M_program.2.1 146 = .ok (.iload 5, 2) := by decide +kernel
theorem d_M_program_148 : decode m_M_program.2.1 148 = .ok (.invokevirtual 435, 3) := by decide +kernel
theorem d_M_program_151 : decode m_M_program.2.1 151 = .ok (.iload 5, 2) := by decide +kernel
theorem d_M_program_153 : decode m_M_program.2.1 153 = .ok (.ireturn, 1) := by decide +kernel
theorem d_M_check_0 : decode m_M_check.2.1 0 = .ok (.aload_n 0, 1) := by decide +kernel
theorem d_M_check_1 : decode m_M_check.2.1 1 = .ok (.iconst 0, 1) := by decide +kernel
theorem d_M_check_2 : decode m_M_check.2.1 2 = .ok (.putfield 184, 3) := by decide +kernel
theorem d_M_check_5 : decode m_M_check.2.1 5 = .ok (.aload_n 0, 1) := by decide +kernel
theorem d_M_check_6 : decode m_M_check.2.1 6 = .ok (.iconst 0, 1) := by decide +kernel
theorem d_M_check_7 : decode m_M_check.2.1 7 = .ok (.putfield 329, 3) := by decide +kernel
theorem d_M_check_10 : decode m_M_check.2.1 10 = .ok (.aload_n 0, 1) := by decide +kernel
theorem d_M_check_11 : decode m_M_check.2.1 11 = .ok (.iconst 0, 1) := by decide +kernel
theorem d_M_check_12 : decode m_M_check.2.1 12 = .ok (.putfield 444, 3) := by decide +kernel
theorem d_M_check_15 : decode m_M_check.2.1 15 = .ok (.aload_n 0, 1) := by decide +kernel
theorem d_M_check_16 : decode m_M_check.2.1 16 = .ok (.getfield 194, 3) := by decide +kernel
theorem d_M_check_19 : decode m_M_check.2.1 19 = .ok (.istore_n 1, 1) := by decide +kernel
theorem d_M_check_20 : decode m_M_check.2.1 20 = .ok (.aload_n 0, 1) := by decide +kernel
theorem d_M_check_21 : decode m_M_check.2.1 21 = .ok (.sipush 200, 3) := by decide +kernel
theorem d_M_check_24 : decode m_M_check.2.1 24 = .ok (.iconst 2, 1) := by decide +kernel
theorem d_M_check_25 : decode m_M_check.2.1 25 = .ok (.iconst 1, 1) := by decide +kernel
theorem d_M_check_26 : decode m_M_check.2.1 26 = .ok (.invokevirtual 429, 3) := by decide +kernel
theorem d_M_check_29 : decode m_M_check.2.1 29 = .ok (.istore_n 2, 1) := by decide +kernel
theorem d_M_check_30 : decode m_M_check.2.1 30 = .ok (.aload_n 0, 1) := by decide +kernel
theorem d_M_check_31 : decode m_M_check.2.1 31 = .ok (.invokevirtual 410, 3) := by decide +kernel
theorem d_M_check_34 : decode m_M_check.2.1 34 = .ok (.aload_n 0, 1) := by decide +kernel
theorem d_M_check_35 : decode m_M_check.2.1 35 = .ok (.invokevirtual 413, 3) := by decide +kernel
theorem d_M_check_38 : decode m_M_check.2.1 38 = .ok (.iload_n 2, 1) := by decide +kernel
theorem d_M_check_39 : decode m_M_check.2.1 39 = .ok (.ifCond .lt 7, 3) := by decide +kernel
theorem d_M_check_42 : decode m_M_check.2.1 42 = .ok (.iconst (-1), 1) := by decide +kernel
theorem d_M_check_43 : decode m_M_check.2.1 43 = .ok (.goto 8, 3) := by decide +kernel
theorem d_M_check_46 : decode m_M_check.2.1 46 = .ok (.aload_n 0, 1) := by decide +kernel
theorem d_M_check_47 : decode m_M_check.2.1 47 = .ok (.iload_n 1, 1) := by decide +kernel
theorem d_M_check_48 : decode m_M_check.2.1 48 = .ok (.invokevirtual 407, 3) := by decide +kernel
theorem d_M_check_51 : decode m_M_check.2.1 51 = .ok (.istore_n 3, 1) := by decide +kernel
theorem d_M_check_52 : decode m_M_check.2.1 52 = .ok (.aload_n 0, 1) := by decide +kernel
theorem d_M_check_53 : decode m_M_check.2.1 53 = .ok (.iload_n 1, 1) := by decide +kernel
theorem d_M_check_54 : decode m_M_check.2.1 54 = .ok (.putfield 194, 3) := by decide +kernel
theorem d_M_check_57 : decode m_M_check.2.1 57 = .ok (.iload_n 3, 1) := by decide +kernel
theorem d_M_check_58 : decode m_M_check.2.1 58 = .ok (.iconst (-1), 1) := by decide +kernel
theorem d_M_check_59 : decode m_M_check.2.1 59 = .ok (.if_icmp .ne 21, 3) := by decide +kernel
theorem d_M_check_62 : decode m_M_check.2.1 62 = .ok (.iload_n 2, 1) := by decide +kernel
theorem d_M_check_63 : decode m_M_check.2.1 63 = .ok (.ifCond .lt 9, 3) := by decide +kernel
theorem d_M_check_66 : decode m_M_check.2.1 66 = .ok (.iconst (-1), 1) := by decide +kernel
theorem d_M_check_67 : decode m_M_check.2.1 67 = .ok (.iload_n 2, 1) := by decide +kernel
theorem d_M_check_68 : decode m_M_check.2.1 68 = .ok (.isub, 1) := by decide +kernel
theorem d_M_check_69 : decode m_M_check.2.1 69 = .ok (.goto 10, 3) := by decide +kernel
theorem d_M_check_72 : decode m_M_check.2.1 72 = .ok (.bipush (-100), 2) := by decide +kernel
theorem d_M_check_74 : decode m_M_check.2.1 74 = .ok (.aload_n 0, 1) := by decide +kernel
theorem d_M_check_75 : decode m_M_check.2.1 75 = .ok (.getfield 367, 3) := by decide +kernel
theorem d_M_check_78 : decode m_M_check.2.1 78 = .ok (.isub, 1) := by decide +kernel
theorem d_M_check_79 : decode m_M_check.2.1 79 = .ok (.ireturn, 1) := by decide +kernel
theorem d_M_check_80 : decode m_M_check.2.1 80 = .ok (.aload_n 0, 1) := by decide +kernel
theorem d_M_check_81 : decode m_M_check.2.1 81 = .ok (.iload_n 3, 1) := by decide +kernel
theorem d_M_check_82 : decode m_M_check.2.1 82 = .ok (.bipush (-2), 2) := by decide +kernel
theorem d_M_check_84 : decode m_M_check.2.1 84 = .ok (.if_icmp .ne 7, 3) := by decide +kernel
theorem d_M_check_87 : decode m_M_check.2.1 87 = .ok (.iconst 1, 1) := by decide +kernel
theorem d_M_check_88 : decode m_M_check.2.1 88 = .ok (.goto 4, 3) := by decide +kernel
theorem d_M_check_91 : decode m_M_check.2.1 91 = .ok (.iconst 0, 1) := by decide +kernel
theorem d_M_check_92 : decode m_M_check.2.1 92 = .ok (.putfield 447, 3) := by decide +kernel
theorem d_M_check_95 : decode m_M_check.2.1 95 = .ok (.aload_n 0, 1) := by decide +kernel
theorem d_M_check_96 : decode m_M_check.2.1 96 = .ok (.iconst 0, 1) := by decide +kernel
theorem d_M_check_97 : decode m_M_check.2.1 97 = .ok (.putfield 302, 3) := by decide +kernel
theorem d_M_check_100 : decode m_M_check.2.1 100 = .ok (.aload_n 0, 1) := by decide +kernel
theorem d_M_check_101 : decode m_M_check.2.1 101 = .ok (.iconst 0, 1) := by decide +kernel
theorem d_M_check_102 : decode m_M_check.2.1 102 = .ok (.putfield 305, 3) := by decide +kernel
theorem d_M_check_105 : decode m_M_check.2.1 105 = .ok (.aload_n 0, 1) := by decide +kernel
theorem d_M_check_106 : decode m_M_check.2.1 106 = .ok (.getfield 16, 3) := by decide +kernel
theorem d_M_check_109 : decode m_M_check.2.1 109 = .ok (.iconst 0, 1) := by decide +kernel
theorem d_M_check_110 : decode m_M_check.2.1 110 = .ok (.bipush 42, 2) := by decide +kernel
theorem d_M_check_112 : decode m_M_check.2.1 112 = .ok (.iastore, 1) := by decide +kernel
theorem d_M_check_113 : decode m_M_check.2.1 113 = .ok (.aload_n 0, 1) := by decide +kernel
theorem d_M_check_114 : decode m_M_check.2.1 114 = .ok (.getfield 447, 3) := by decide +kernel
theorem d_M_check_117 : decode m_M_check.2.1 117 = .ok (.ifCond .eq 7, 3) := by decide +kernel
theorem d_M_check_120 : decode m_M_check.2.1 120 = .ok (.iconst 1, 1) := by decide +kernel
theorem d_M_check_121 : decode m_M_check.2.1 121 = .ok (.goto 8, 3) := by decide +kernel
theorem d_M_check_124 : decode m_M_check.2.1 124 = .ok (.aload_n 0, 1) := by decide +kernel
theorem d_M_check_125 : decode m_M_check.2.1 125 = .ok (.iload_n 3, 1) := by decide +kernel
theorem d_M_check_126 : decode m_M_check.2.1 126 = .ok (.invokevirtual 450, 3) := by decide +kernel
theorem d_M_check_129 : decode m_M_check.2.1 129 = .ok (.istore 4, 2) := by decide +kernel
theorem d_M_check_131 : decode m_M_check.2.1 131 = .ok (.iload 4, 2) := by decide +kernel
theorem d_M_check_133 : decode m_M_check.2.1 133 = .ok (.sipush (-200), 3) := by decide +kernel
theorem d_M_check_136 : decode m_M_check.2.1 136 = .ok (.if_icmp .ne 7, 3) := by decide +kernel
theorem d_M_check_139 : decode m_M_check.2.1 139 = .ok (.sipush (-200), 3) := by decide +kernel
theorem d_M_check_142 : decode m_M_check.2.1 142 = .ok (.ireturn, 1) := by decide +kernel
theorem d_M_check_143 : decode m_M_check.2.1 143 = .ok (.aload_n 0, 1) := by decide +kernel
theorem d_M_check_144 : decode m_M_check.2.1 144 = .ok (.iconst 1, 1) := by decide +kernel
theorem d_M_check_145 : decode m_M_check.2.1 145 = .ok (.putfield 444, 3) := by decide +kernel
theorem d_M_check_148 : decode m_M_check.2.1 148 = .ok (.aload_n 0, 1) := by decide +kernel
theorem d_M_check_149 : decode m_M_check.2.1 149 = .ok (.aload_n 0, 1) := by decide +kernel
theorem d_M_check_150 : decode m_M_check.2.1 150 = .ok (.getfield 305, 3) := by decide +kernel
theorem d_M_check_153 : decode m_M_check.2.1 153 = .ok (.putfield 453, 3) := by decide +kernel
theorem d_M_check_156 : decode m_M_check.2.1 156 = .ok (.aload_n 0, 1) := by decide +kernel
theorem d_M_check_157 : decode m_M_check.2.1 157 = .ok (.aload_n 0, 1) := by decide +kernel
theorem d_M_check_158 : decode m_M_check.2.1 158 = .ok (.getfield 302, 3) := by decide +kernel
theorem d_M_check_161 : decode m_M_check.2.1 161 = .ok (.putfield 456, 3) := by decide +kernel
theorem d_M_check_164 : decode m_M_check.2.1 164 = .ok (.iconst 0, 1) := by decide +kernel
theorem d_M_check_165 : decode m_M_check.2.1 165 = .ok (.istore 5, 2) := by decide +kernel
theorem d_M_check_167 : decode m_M_check.2.1 167 = .ok (.iload 5, 2) := by decide +kernel
theorem d_M_check_169 : decode m_M_check.2.1 169 = .ok (.aload_n 0, 1) := by decide +kernel
theorem d_M_check_170 : decode m_M_check.2.1 170 = .ok (.getfield 302, 3) := by decide +kernel
theorem d_M_check_173 : decode m_M_check.2.1 173 = .ok (.if_icmp .ge 51, 3) := by decide +kernel
theorem d_M_check_176 : decode m_M_check.2.1 176 = .ok (.aload_n 0, 1) := by decide +kernel
theorem d_M_check_177 : decode m_M_check.2.1 177 = .ok (.getfield 175, 3) := by decide +kernel
theorem d_M_check_180 : decode m_M_check.2.1 180 = .ok (.iload 5, 2) := by decide +kernel
theorem d_M_check_182 : decode m_M_check.2.1 182 = .ok (.aload_n 0, 1) := by decide +kernel
theorem d_M_check_183 : decode m_M_check.2.1 183 = .ok (.getfield 166, 3) := by decide +kernel
theorem d_M_check_186 : decode m_M_check.2.1 186 = .ok (.iload 5, 2) := by decide +kernel
theorem d_M_check_188 : decode m_M_check.2.1 188 = .ok (.iaload, 1) := by decide +kernel
theorem d_M_check_189 : decode m_M_check.2.1 189 = .ok (.iastore, 1) := by decide +kernel
theorem d_M_check_190 : decode m_M_check.2.1 190 = .ok (.aload_n 0, 1) := by decide +kernel
theorem d_M_check_191 : decode m_M_check.2.1 191 = .ok (.getfield 178, 3) := by decide +kernel
theorem d_M_check_194 : decode m_M_check.2.1 194 = .ok (.iload 5, 2) := by decide +kernel
theorem d_M_check_196 : decode m_M_check.2.1 196 = .ok (.aload_n 0, 1) := by decide +kernel
theorem d_M_check_197 : decode m_M_check.2.1 197 = .ok (.getfield 169, 3) := by decide +kernel
theorem d_M_check_200 : decode m_M_check.2.1 200 = .ok (.iload 5, 2) := by decide +kernel
theorem d_M_check_202 : decode m_M_check.2.1 202 = .ok (.iaload, 1) := by decide +kernel
theorem d_M_check_203 : decode m_M_check.2.1 203 = .ok (.iastore, 1) := by decide +kernel
theorem d_M_check_204 : decode m_M_check.2.1 204 = .ok (.aload_n 0, 1) := by decide +kernel
theorem d_M_check_205 : decode m_M_check.2.1 205 = .ok (.getfield 181, 3) := by decide +kernel
theorem d_M_check_208 : decode m_M_check.2.1 208 = .ok (.iload 5, 2) := by decide +kernel
theorem d_M_check_210 : decode m_M_check.2.1 210 = .ok (.aload_n 0, 1) := by decide +kernel
theorem d_M_check_211 : decode m_M_check.2.1 211 = .ok (.getfield 172, 3) := by decide +kernel
theorem d_M_check_214 : decode m_M_check.2.1 214 = .ok (.iload 5, 2) := by decide +kernel
theorem d_M_check_216 : decode m_M_check.2.1 216 = .ok (.iaload, 1) := by decide +kernel
theorem d_M_check_217 : decode m_M_check.2.1 217 = .ok (.iastore, 1) := by decide +kernel
theorem d_M_check_218 : decode m_M_check.2.1 218 = .ok (.iinc 5 1, 3) := by decide +kernel
theorem d_M_check_221 : decode m_M_check.2.1 221 = .ok (.goto (-54), 3) := by decide +kernel
theorem d_M_check_224 : decode m_M_check.2.1 224 = .ok (.aload_n 0, 1) := by decide +kernel
theorem d_M_check_225 : decode m_M_check.2.1 225 = .ok (.iload 4, 2) := by decide +kernel
theorem d_M_check_227 : decode m_M_check.2.1 227 = .ok (.invokevirtual 459, 3) := by decide +kernel
theorem d_M_check_230 : decode m_M_check.2.1 230 = .ok (.ireturn, 1) := by decide +kernel
theorem d_M_lemma_0 : decode m_M_lemma.2.1 0 = .ok (.aload_n 0, 1) := by decide +kernel
theorem d_M_lemma_1 : decode m_M_lemma.2.1 1 = .ok (.iload_n 1, 1) := by decide +kernel
theorem d_M_lemma_2 : decode m_M_lemma.2.1 2 = .ok (.invokevirtual 425, 3) := by decide +kernel
theorem d_M_lemma_5 : decode m_M_lemma.2.1 5 = .ok (.istore_n 2, 1) := by decide +kernel
theorem d_M_lemma_6 : decode m_M_lemma.2.1 6 = .ok (.aload_n 0, 1) := by decide +kernel
theorem d_M_lemma_7 : decode m_M_lemma.2.1 7 = .ok (.aload_n 0, 1) := by decide +kernel
theorem d_M_lemma_8 : decode m_M_lemma.2.1 8 = .ok (.getfield 184, 3) := by decide +kernel
theorem d_M_lemma_11 : decode m_M_lemma.2.1 11 = .ok (.iconst 1, 1) := by decide +kernel
theorem d_M_lemma_12 : decode m_M_lemma.2.1 12 = .ok (.if_icmp .ne 7, 3) := by decide +kernel
theorem d_M_lemma_15 : decode m_M_lemma.2.1 15 = .ok (.iconst 1, 1) := by decide +kernel
theorem d_M_lemma_16 : decode m_M_lemma.2.1 16 = .ok (.goto 26, 3) := by decide +kernel
theorem d_M_lemma_19 : decode m_M_lemma.2.1 19 = .ok (.iload_n 2, 1) := by decide +kernel
theorem d_M_lemma_20 : decode m_M_lemma.2.1 20 = .ok (.ifCond .eq 17, 3) := by decide +kernel
theorem d_M_lemma_23 : decode m_M_lemma.2.1 23 = .ok (.aload_n 0, 1) := by decide +kernel
theorem d_M_lemma_24 : decode m_M_lemma.2.1 24 = .ok (.getfield 444, 3) := by decide +kernel
theorem d_M_lemma_27 : decode m_M_lemma.2.1 27 = .ok (.ifCond .eq 10, 3) := by decide +kernel
theorem d_M_lemma_30 : decode m_M_lemma.2.1 30 = .ok (.aload_n 0, 1) := by decide +kernel
theorem d_M_lemma_31 : decode m_M_lemma.2.1 31 = .ok (.getfield 453, 3) := by decide +kernel
theorem d_M_lemma_34 : decode m_M_lemma.2.1 34 = .ok (.ifCond .eq 7, 3) := by decide +kernel
theorem d_M_lemma_37 : decode m_M_lemma.2.1 37 = .ok (.iconst 2, 1) := by decide +kernel
theorem d_M_lemma_38 : decode m_M_lemma.2.1 38 = .ok (.goto 4, 3) := by decide +kernel
theorem d_M_lemma_41 : decode m_M_lemma.2.1 41 = .ok (.iconst 0, 1) := by decide +kernel
theorem d_M_lemma_42 : decode m_M_lemma.2.1 42 = .ok (.putfield 184, 3) := by decide +kernel
theorem d_M_lemma_45 : decode m_M_lemma.2.1 45 = .ok (.aload_n 0, 1) := by decide +kernel
theorem d_M_lemma_46 : decode m_M_lemma.2.1 46 = .ok (.getfield 184, 3) := by decide +kernel
theorem d_M_lemma_49 : decode m_M_lemma.2.1 49 = .ok (.ifCond .le 4, 3) := by decide +kernel
theorem d_M_lemma_52 : decode m_M_lemma.2.1 52 = .ok (.return_, 1) := by decide +kernel
theorem d_M_lemma_53 : decode m_M_lemma.2.1 53 = .ok (.iload_n 1, 1) := by decide +kernel
theorem d_M_lemma_54 : decode m_M_lemma.2.1 54 = .ok (.bipush 65, 2) := by decide +kernel
theorem d_M_lemma_56 : decode m_M_lemma.2.1 56 = .ok (.isub, 1) := by decide +kernel
theorem d_M_lemma_57 : decode m_M_lemma.2.1 57 = .ok (.istore_n 3, 1) := by decide +kernel
theorem d_M_lemma_58 : decode m_M_lemma.2.1 58 = .ok (.aload_n 0, 1) := by decide +kernel
theorem d_M_lemma_59 : decode m_M_lemma.2.1 59 = .ok (.getfield 25, 3) := by decide +kernel
theorem d_M_lemma_62 : decode m_M_lemma.2.1 62 = .ok (.iload_n 3, 1) := by decide +kernel
theorem d_M_lemma_63 : decode m_M_lemma.2.1 63 = .ok (.aload_n 0, 1) := by decide +kernel
theorem d_M_lemma_64 : decode m_M_lemma.2.1 64 = .ok (.getfield 194, 3) := by decide +kernel
theorem d_M_lemma_67 : decode m_M_lemma.2.1 67 = .ok (.iastore, 1) := by decide +kernel
theorem d_M_lemma_68 : decode m_M_lemma.2.1 68 = .ok (.aload_n 0, 1) := by decide +kernel
theorem d_M_lemma_69 : decode m_M_lemma.2.1 69 = .ok (.getfield 28, 3) := by decide +kernel
theorem d_M_lemma_72 : decode m_M_lemma.2.1 72 = .ok (.iload_n 3, 1) := by decide +kernel
theorem d_M_lemma_73 : decode m_M_lemma.2.1 73 = .ok (.aload_n 0, 1) := by decide +kernel
theorem d_M_lemma_74 : decode m_M_lemma.2.1 74 = .ok (.getfield 253, 3) := by decide +kernel
theorem d_M_lemma_77 : decode m_M_lemma.2.1 77 = .ok (.iastore, 1) := by decide +kernel
theorem d_M_lemma_78 : decode m_M_lemma.2.1 78 = .ok (.aload_n 0, 1) := by decide +kernel
theorem d_M_lemma_79 : decode m_M_lemma.2.1 79 = .ok (.getfield 31, 3) := by decide +kernel
theorem d_M_lemma_82 : decode m_M_lemma.2.1 82 = .ok (.iload_n 3, 1) := by decide +kernel
theorem d_M_lemma_83 : decode m_M_lemma.2.1 83 = .ok (.iconst 0, 1) := by decide +kernel
theorem d_M_lemma_84 : decode m_M_lemma.2.1 84 = .ok (.iastore, 1) := by decide +kernel
theorem d_M_lemma_85 : decode m_M_lemma.2.1 85 = .ok (.aload_n 0, 1) := by decide +kernel
theorem d_M_lemma_86 : decode m_M_lemma.2.1 86 = .ok (.getfield 34, 3) := by decide +kernel
theorem d_M_lemma_89 : decode m_M_lemma.2.1 89 = .ok (.iload_n 3, 1) := by decide +kernel
theorem d_M_lemma_90 : decode m_M_lemma.2.1 90 = .ok (.aload_n 0, 1) := by decide +kernel
theorem d_M_lemma_91 : decode m_M_lemma.2.1 91 = .ok (.getfield 447, 3) := by decide +kernel
theorem d_M_lemma_94 : decode m_M_lemma.2.1 94 = .ok (.ifCond .eq 8, 3) := by decide +kernel
theorem d_M_lemma_97 : decode m_M_lemma.2.1 97 = .ok (.bipush (-2), 2) := by decide +kernel
theorem d_M_lemma_99 : decode m_M_lemma.2.1 99 = .ok (.goto 7, 3) := by decide +kernel
theorem d_M_lemma_102 : decode m_M_lemma.2.1 102 = .ok (.aload_n 0, 1) := by decide +kernel
theorem d_M_lemma_103 : decode m_M_lemma.2.1 103 = .ok (.getfield 194, 3) := by decide +kernel
theorem d_M_lemma_106 : decode m_M_lemma.2.1 106 = .ok (.iastore, 1) := by decide +kernel
theorem d_M_lemma_107 : decode m_M_lemma.2.1 107 = .ok (.iconst 0, 1) := by decide +kernel
theorem d_M_lemma_108 : decode m_M_lemma.2.1 108 = .ok (.istore 4, 2) := by decide +kernel
theorem d_M_lemma_110 : decode m_M_lemma.2.1 110 = .ok (.iload 4, 2) := by decide +kernel
theorem d_M_lemma_112 : decode m_M_lemma.2.1 112 = .ok (.aload_n 0, 1) := by decide +kernel
theorem d_M_lemma_113 : decode m_M_lemma.2.1 113 = .ok (.getfield 456, 3) := by decide +kernel
theorem d_M_lemma_116 : decode m_M_lemma.2.1 116 = .ok (.if_icmp .ge 47, 3) := by decide +kernel
theorem d_M_lemma_119 : decode m_M_lemma.2.1 119 = .ok (.aload_n 0, 1) := by decide +kernel
theorem d_M_lemma_120 : decode m_M_lemma.2.1 120 = .ok (.getfield 447, 3) := by decide +kernel
theorem d_M_lemma_123 : decode m_M_lemma.2.1 123 = .ok (.ifCond .ne 40, 3) := by decide +kernel
theorem d_M_lemma_126 : decode m_M_lemma.2.1 126 = .ok (.aload_n 0, 1) := by decide +kernel
theorem d_M_lemma_127 : decode m_M_lemma.2.1 127 = .ok (.getfield 52, 3) := by decide +kernel
theorem d_M_lemma_130 : decode m_M_lemma.2.1 130 = .ok (.aload_n 0, 1) := by decide +kernel
theorem d_M_lemma_131 : decode m_M_lemma.2.1 131 = .ok (.aload_n 0, 1) := by decide +kernel
theorem d_M_lemma_132 : decode m_M_lemma.2.1 132 = .ok (.getfield 175, 3) := by decide +kernel
theorem d_M_lemma_135 : decode m_M_lemma.2.1 135 = .ok (.iload 4, 2) := by decide +kernel
theorem d_M_lemma_137 : decode m_M_lemma.2.1 137 = .ok (.iaload, 1) := by decide +kernel
theorem d_M_lemma_138 : decode m_M_lemma.2.1 138 = .ok (.aload_n 0, 1) := by decide +kernel
theorem d_M_lemma_139 : decode m_M_lemma.2.1 139 = .ok (.getfield 178, 3) := by decide +kernel
theorem d_M_lemma_142 : decode m_M_lemma.2.1 142 = .ok (.iload 4, 2) := by decide +kernel
theorem d_M_lemma_144 : decode m_M_lemma.2.1 144 = .ok (.iaload, 1) := by decide +kernel
theorem d_M_lemma_145 : decode m_M_lemma.2.1 145 = .ok (.iconst 0, 1) := by decide +kernel
theorem d_M_lemma_146 : decode m_M_lemma.2.1 146 = .ok (.invokevirtual 211, 3) := by decide +kernel
theorem d_M_lemma_149 : decode m_M_lemma.2.1 149 = .ok (.aload_n 0, 1) := by decide +kernel
theorem d_M_lemma_150 : decode m_M_lemma.2.1 150 = .ok (.getfield 181, 3) := by decide +kernel
theorem d_M_lemma_153 : decode m_M_lemma.2.1 153 = .ok (.iload 4, 2) := by decide +kernel
theorem d_M_lemma_155 : decode m_M_lemma.2.1 155 = .ok (.iaload, 1) := by decide +kernel
theorem d_M_lemma_156 : decode m_M_lemma.2.1 156 = .ok (.iastore, 1) := by decide +kernel
theorem d_M_lemma_157 : decode m_M_lemma.2.1 157 = .ok (.iinc 4 1, 3) := by decide +kernel
theorem d_M_lemma_160 : decode m_M_lemma.2.1 160 = .ok (.goto (-50), 3) := by decide +kernel
theorem d_M_lemma_163 : decode m_M_lemma.2.1 163 = .ok (.aload_n 0, 1) := by decide +kernel
theorem d_M_lemma_164 : decode m_M_lemma.2.1 164 = .ok (.iload_n 3, 1) := by decide +kernel
theorem d_M_lemma_165 : decode m_M_lemma.2.1 165 = .ok (.iconst 1, 1) := by decide +kernel
theorem d_M_lemma_166 : decode m_M_lemma.2.1 166 = .ok (.iconst 0, 1) := by decide +kernel
theorem d_M_lemma_167 : decode m_M_lemma.2.1 167 = .ok (.invokevirtual 435, 3) := by decide +kernel
theorem d_M_lemma_170 : decode m_M_lemma.2.1 170 = .ok (.return_, 1) := by decide +kernel
theorem d_M_retract_0 : decode m_M_retract.2.1 0 = .ok (.aload_n 0, 1) := by decide +kernel
theorem d_M_retract_1 : decode m_M_retract.2.1 1 = .ok (.aload_n 0, 1) := by decide +kernel
theorem d_M_retract_2 : decode m_M_retract.2.1 2 = .ok (.getfield 422, 3) := by decide +kernel
theorem d_M_retract_5 : decode m_M_retract.2.1 5 = .ok (.ifCond .ne 7, 3) := by decide +kernel
theorem d_M_retract_8 : decode m_M_retract.2.1 8 = .ok (.iconst 1, 1) := by decide +kernel
theorem d_M_retract_9 : decode m_M_retract.2.1 9 = .ok (.goto 4, 3) := by decide +kernel
theorem d_M_retract_12 : decode m_M_retract.2.1 12 = .ok (.iconst 0, 1) := by decide +kernel
theorem d_M_retract_13 : decode m_M_retract.2.1 13 = .ok (.putfield 184, 3) := by decide +kernel
theorem d_M_retract_16 : decode m_M_retract.2.1 16 = .ok (.aload_n 0, 1) := by decide +kernel
theorem d_M_retract_17 : decode m_M_retract.2.1 17 = .ok (.getfield 184, 3) := by decide +kernel
theorem d_M_retract_20 : decode m_M_retract.2.1 20 = .ok (.ifCond .le 5, 3) := by decide +kernel
theorem d_M_retract_23 : decode m_M_retract.2.1 23 = .ok (.iconst 0, 1) := by decide +kernel
theorem d_M_retract_24 : decode m_M_retract.2.1 24 = .ok (.ireturn, 1) := by decide +kernel
theorem d_M_retract_25 : decode m_M_retract.2.1 25 = .ok (.aload_n 0, 1) := by decide +kernel
theorem d_M_retract_26 : decode m_M_retract.2.1 26 = .ok (.dup, 1) := by decide +kernel
theorem d_M_retract_27 : decode m_M_retract.2.1 27 = .ok (.getfield 422, 3) := by decide +kernel
theorem d_M_retract_30 : decode m_M_retract.2.1 30 = .ok (.iconst 1, 1) := by decide +kernel
theorem d_M_retract_31 : decode m_M_retract.2.1 31 = .ok (.isub, 1) := by decide +kernel
theorem d_M_retract_32 : decode m_M_retract.2.1 32 = .ok (.putfield 422, 3) := by decide +kernel
theorem d_M_retract_35 : decode m_M_retract.2.1 35 = .ok (.aload_n 0, 1) := by decide +kernel
theorem d_M_retract_36 : decode m_M_retract.2.1 36 = .ok (.getfield 43, 3) := by decide +kernel
theorem d_M_retract_39 : decode m_M_retract.2.1 39 = .ok (.aload_n 0, 1) := by decide +kernel
theorem d_M_retract_40 : decode m_M_retract.2.1 40 = .ok (.getfield 422, 3) := by decide +kernel
theorem d_M_retract_43 : decode m_M_retract.2.1 43 = .ok (.iaload, 1) := by decide +kernel
theorem d_M_retract_44 : decode m_M_retract.2.1 44 = .ok (.istore_n 1, 1) := by decide +kernel
theorem d_M_retract_45 : decode m_M_retract.2.1 45 = .ok (.aload_n 0, 1) := by decide +kernel
theorem d_M_retract_46 : decode m_M_retract.2.1 46 = .ok (.getfield 19, 3) := by decide +kernel
theorem d_M_retract_49 : decode m_M_retract.2.1 49 = .ok (.iload_n 1, 1) := by decide +kernel
theorem d_M_retract_50 : decode m_M_retract.2.1 50 = .ok (.iconst 0, 1) := by decide +kernel
theorem d_M_retract_51 : decode m_M_retract.2.1 51 = .ok (.iastore, 1) := by decide +kernel
theorem d_M_retract_52 : decode m_M_retract.2.1 52 = .ok (.aload_n 0, 1) := by decide +kernel
theorem d_M_retract_53 : decode m_M_retract.2.1 53 = .ok (.aload_n 0, 1) := by decide +kernel
theorem d_M_retract_54 : decode m_M_retract.2.1 54 = .ok (.getfield 25, 3) := by decide +kernel
theorem d_M_retract_57 : decode m_M_retract.2.1 57 = .ok (.iload_n 1, 1) := by decide +kernel
theorem d_M_retract_58 : decode m_M_retract.2.1 58 = .ok (.iaload, 1) := by decide +kernel
theorem d_M_retract_59 : decode m_M_retract.2.1 59 = .ok (.putfield 194, 3) := by decide +kernel
theorem d_M_retract_62 : decode m_M_retract.2.1 62 = .ok (.aload_n 0, 1) := by decide +kernel
theorem d_M_retract_63 : decode m_M_retract.2.1 63 = .ok (.aload_n 0, 1) := by decide +kernel
theorem d_M_retract_64 : decode m_M_retract.2.1 64 = .ok (.getfield 28, 3) := by decide +kernel
theorem d_M_retract_67 : decode m_M_retract.2.1 67 = .ok (.iload_n 1, 1) := by decide +kernel
theorem d_M_retract_68 : decode m_M_retract.2.1 68 = .ok (.iaload, 1) := by decide +kernel
theorem d_M_retract_69 : decode m_M_retract.2.1 69 = .ok (.putfield 253, 3) := by decide +kernel
theorem d_M_retract_72 : decode m_M_retract.2.1 72 = .ok (.aload_n 0, 1) := by decide +kernel
theorem d_M_retract_73 : decode m_M_retract.2.1 73 = .ok (.iconst 0, 1) := by decide +kernel
theorem d_M_retract_74 : decode m_M_retract.2.1 74 = .ok (.putfield 444, 3) := by decide +kernel
theorem d_M_retract_77 : decode m_M_retract.2.1 77 = .ok (.bipush 65, 2) := by decide +kernel
theorem d_M_retract_79 : decode m_M_retract.2.1 79 = .ok (.iload_n 1, 1) := by decide +kernel
theorem d_M_retract_80 : decode m_M_retract.2.1 80 = .ok (.iadd, 1) := by decide +kernel
theorem d_M_retract_81 : decode m_M_retract.2.1 81 = .ok (.i2c, 1) := by decide +kernel
theorem d_M_retract_82 : decode m_M_retract.2.1 82 = .ok (.ireturn, 1) := by decide +kernel
theorem d_M_run_0 : decode m_M_run.2.1 0 = .ok (.aload_n 0, 1) := by decide +kernel
theorem d_M_run_1 : decode m_M_run.2.1 1 = .ok (.iload_n 1, 1) := by decide +kernel
theorem d_M_run_2 : decode m_M_run.2.1 2 = .ok (.invokestatic 215, 3) := by decide +kernel
theorem d_M_run_5 : decode m_M_run.2.1 5 = .ok (.ifCond .eq 16, 3) := by decide +kernel
theorem d_M_run_8 : decode m_M_run.2.1 8 = .ok (.aload_n 0, 1) := by decide +kernel
theorem d_M_run_9 : decode m_M_run.2.1 9 = .ok (.getfield 19, 3) := by decide +kernel
theorem d_M_run_12 : decode m_M_run.2.1 12 = .ok (.iload_n 1, 1) := by decide +kernel
theorem d_M_run_13 : decode m_M_run.2.1 13 = .ok (.bipush 65, 2) := by decide +kernel
theorem d_M_run_15 : decode m_M_run.2.1 15 = .ok (.isub, 1) := by decide +kernel
theorem d_M_run_16 : decode m_M_run.2.1 16 = .ok (.iaload, 1) := by decide +kernel
theorem d_M_run_17 : decode m_M_run.2.1 17 = .ok (.iconst 2, 1) := by decide +kernel
theorem d_M_run_18 : decode m_M_run.2.1 18 = .ok (.if_icmp .eq 7, 3) := by decide +kernel
theorem d_M_run_21 : decode m_M_run.2.1 21 = .ok (.iconst 1, 1) := by decide +kernel
theorem d_M_run_22 : decode m_M_run.2.1 22 = .ok (.goto 4, 3) := by decide +kernel
theorem d_M_run_25 : decode m_M_run.2.1 25 = .ok (.iconst 0, 1) := by decide +kernel
theorem d_M_run_26 : decode m_M_run.2.1 26 = .ok (.putfield 184, 3) := by decide +kernel
theorem d_M_run_29 : decode m_M_run.2.1 29 = .ok (.aload_n 0, 1) := by decide +kernel
theorem d_M_run_30 : decode m_M_run.2.1 30 = .ok (.getfield 184, 3) := by decide +kernel
theorem d_M_run_33 : decode m_M_run.2.1 33 = .ok (.ifCond .le 5, 3) := by decide +kernel
theorem d_M_run_36 : decode m_M_run.2.1 36 = .ok (.iconst 0, 1) := by decide +kernel
theorem d_M_run_37 : decode m_M_run.2.1 37 = .ok (.ireturn, 1) := by decide +kernel
theorem d_M_run_38 : decode m_M_run.2.1 38 = .ok (.iload_n 1, 1) := by decide +kernel
theorem d_M_run_39 : decode m_M_run.2.1 39 = .ok (.bipush 65, 2) := by decide +kernel
theorem d_M_run_41 : decode m_M_run.2.1 41 = .ok (.isub, 1) := by decide +kernel
theorem d_M_run_42 : decode m_M_run.2.1 42 = .ok (.istore_n 2, 1) := by decide +kernel
theorem d_M_run_43 : decode m_M_run.2.1 43 = .ok (.aload_n 0, 1) := by decide +kernel
theorem d_M_run_44 : decode m_M_run.2.1 44 = .ok (.iconst 0, 1) := by decide +kernel
theorem d_M_run_45 : decode m_M_run.2.1 45 = .ok (.putfield 329, 3) := by decide +kernel
theorem d_M_run_48 : decode m_M_run.2.1 48 = .ok (.aload_n 0, 1) := by decide +kernel
theorem d_M_run_49 : decode m_M_run.2.1 49 = .ok (.getfield 194, 3) := by decide +kernel
theorem d_M_run_52 : decode m_M_run.2.1 52 = .ok (.istore_n 3, 1) := by decide +kernel
theorem d_M_run_53 : decode m_M_run.2.1 53 = .ok (.aload_n 0, 1) := by decide +kernel
theorem d_M_run_54 : decode m_M_run.2.1 54 = .ok (.sipush 218, 3) := by decide +kernel
theorem d_M_run_57 : decode m_M_run.2.1 57 = .ok (.iconst 0, 1) := by decide +kernel
theorem d_M_run_58 : decode m_M_run.2.1 58 = .ok (.iconst 0, 1) := by decide +kernel
theorem d_M_run_59 : decode m_M_run.2.1 59 = .ok (.invokevirtual 429, 3) := by decide +kernel
theorem d_M_run_62 : decode m_M_run.2.1 62 = .ok (.istore 4, 2) := by decide +kernel
theorem d_M_run_64 : decode m_M_run.2.1 64 = .ok (.aload_n 0, 1) := by decide +kernel
theorem d_M_run_65 : decode m_M_run.2.1 65 = .ok (.getfield 243, 3) := by decide +kernel
theorem d_M_run_68 : decode m_M_run.2.1 68 = .ok (.istore 5, 2) := by decide +kernel
theorem d_M_run_70 : decode m_M_run.2.1 70 = .ok (.aload_n 0, 1) := by decide +kernel
theorem d_M_run_71 : decode m_M_run.2.1 71 = .ok (.invokevirtual 410, 3) := by decide +kernel
theorem d_M_run_74 : decode m_M_run.2.1 74 = .ok (.aload_n 0, 1) := by decide +kernel
theorem d_M_run_75 : decode m_M_run.2.1 75 = .ok (.invokevirtual 413, 3) := by decide +kernel
theorem d_M_run_78 : decode m_M_run.2.1 78 = .ok (.aload_n 0, 1) := by decide +kernel
theorem d_M_run_79 : decode m_M_run.2.1 79 = .ok (.iconst 0, 1) := by decide +kernel
theorem d_M_run_80 : decode m_M_run.2.1 80 = .ok (.putfield 367, 3) := by decide +kernel
theorem d_M_run_83 : decode m_M_run.2.1 83 = .ok (.iload 4, 2) := by decide +kernel
theorem d_M_run_85 : decode m_M_run.2.1 85 = .ok (.ifCond .ge 18, 3) := by decide +kernel
theorem d_M_run_88 : decode m_M_run.2.1 88 = .ok (.iload 5, 2) := by decide +kernel
theorem d_M_run_90 : decode m_M_run.2.1 90 = .ok (.aload_n 0, 1) := by decide +kernel
theorem d_M_run_91 : decode m_M_run.2.1 91 = .ok (.getfield 22, 3) := by decide +kernel
theorem d_M_run_94 : decode m_M_run.2.1 94 = .ok (.iload_n 2, 1) := by decide +kernel
theorem d_M_run_95 : decode m_M_run.2.1 95 = .ok (.iaload, 1) := by decide +kernel
theorem d_M_run_96 : decode m_M_run.2.1 96 = .ok (.if_icmp .ne 7, 3) := by decide +kernel
theorem d_M_run_99 : decode m_M_run.2.1 99 = .ok (.iconst 1, 1) := by decide +kernel
theorem d_M_run_100 : decode m_M_run.2.1 100 = .ok (.goto 4, 3) := by decide +kernel
theorem d_M_run_103 : decode m_M_run.2.1 103 = .ok (.iconst 0, 1) := by decide +kernel
theorem d_M_run_104 : decode m_M_run.2.1 104 = .ok (.istore 6, 2) := by decide +kernel
theorem d_M_run_106 : decode m_M_run.2.1 106 = .ok (.iload_n 3, 1) := by decide +kernel
theorem d_M_run_107 : decode m_M_run.2.1 107 = .ok (.istore 7, 2) := by decide +kernel
theorem d_M_run_109 : decode m_M_run.2.1 109 = .ok (.iconst 0, 1) := by decide +kernel
theorem d_M_run_110 : decode m_M_run.2.1 110 = .ok (.istore 8, 2) := by decide +kernel
theorem d_M_run_112 : decode m_M_run.2.1 112 = .ok (.iload 8, 2) := by decide +kernel
theorem d_M_run_114 : decode m_M_run.2.1 114 = .ok (.iload 5, 2) := by decide +kernel
theorem d_M_run_116 : decode m_M_run.2.1 116 = .ok (.if_icmp .ge 49, 3) := by decide +kernel
theorem d_M_run_119 : decode m_M_run.2.1 119 = .ok (.iload 6, 2) := by decide +kernel
theorem d_M_run_121 : decode m_M_run.2.1 121 = .ok (.ifCond .eq 44, 3) := by decide +kernel
theorem d_M_run_124 : decode m_M_run.2.1 124 = .ok (.aload_n 0, 1) := by decide +kernel
theorem d_M_run_125 : decode m_M_run.2.1 125 = .ok (.iload 7, 2) := by decide +kernel
theorem d_M_run_127 : decode m_M_run.2.1 127 = .ok (.invokevirtual 407, 3) := by decide +kernel
theorem d_M_run_130 : decode m_M_run.2.1 130 = .ok (.iconst (-1), 1) := by decide +kernel
theorem d_M_run_131 : decode m_M_run.2.1 131 = .ok (.if_icmp .eq 7, 3) := by decide +kernel
theorem d_M_run_134 : decode m_M_run.2.1 134 = .ok (.iconst 1, 1) := by decide +kernel
theorem d_M_run_135 : decode m_M_run.2.1 135 = .ok (.goto 4, 3) := by decide +kernel
theorem d_M_run_138 : decode m_M_run.2.1 138 = .ok (.iconst 0, 1) := by decide +kernel
theorem d_M_run_139 : decode m_M_run.2.1 139 = .ok (.istore 6, 2) := by decide +kernel
theorem d_M_run_141 : decode m_M_run.2.1 141 = .ok (.iload 6, 2) := by decide +kernel
theorem d_M_run_143 : decode m_M_run.2.1 143 = .ok (.ifCond .eq 12, 3) := by decide +kernel
theorem d_M_run_146 : decode m_M_run.2.1 146 = .ok (.aload_n 0, 1) := by decide +kernel
theorem d_M_run_147 : decode m_M_run.2.1 147 = .ok (.iload 7, 2) := by decide +kernel
theorem d_M_run_149 : decode m_M_run.2.1 149 = .ok (.invokevirtual 268, 3) := by decide +kernel
theorem d_M_run_152 : decode m_M_run.2.1 152 = .ok (.goto 5, 3) := by decide +kernel
theorem d_M_run_155 : decode m_M_run.2.1 155 = .ok (.iload 7, 2) := by decide +kernel
theorem d_M_run_157 : decode m_M_run.2.1 157 = .ok (.istore 7, 2) := by decide +kernel
theorem d_M_run_159 : decode m_M_run.2.1 159 = .ok (.iinc 8 1, 3) := by decide +kernel
theorem d_M_run_162 : decode m_M_run.2.1 162 = .ok (.goto (-50), 3) := by decide +kernel
theorem d_M_run_165 : decode m_M_run.2.1 165 = .ok (.iload_n 3, 1) := by decide +kernel
theorem d_M_run_166 : decode m_M_run.2.1 166 = .ok (.istore 7, 2) := by decide +kernel
theorem d_M_run_168 : decode m_M_run.2.1 168 = .ok (.iconst 0, 1) := by decide +kernel
theorem d_M_run_169 : decode m_M_run.2.1 169 = .ok (.istore 8, 2) := by decide +kernel
theorem d_M_run_171 : decode m_M_run.2.1 171 = .ok (.iload 8, 2) := by decide +kernel
theorem d_M_run_173 : decode m_M_run.2.1 173 = .ok (.iload 5, 2) := by decide +kernel
theorem d_M_run_175 : decode m_M_run.2.1 175 = .ok (.if_icmp .ge 36, 3) := by decide +kernel
theorem d_M_run_178 : decode m_M_run.2.1 178 = .ok (.iload 6, 2) := by decide +kernel
theorem d_M_run_180 : decode m_M_run.2.1 180 = .ok (.ifCond .eq 31, 3) := by decide +kernel
theorem d_M_run_183 : decode m_M_run.2.1 183 = .ok (.aload_n 0, 1) := by decide +kernel
theorem d_M_run_184 : decode m_M_run.2.1 184 = .ok (.getfield 142, 3) := by decide +kernel
theorem d_M_run_187 : decode m_M_run.2.1 187 = .ok (.iload 8, 2) := by decide +kernel
theorem d_M_run_189 : decode m_M_run.2.1 189 = .ok (.aload_n 0, 1) := by decide +kernel
theorem d_M_run_190 : decode m_M_run.2.1 190 = .ok (.iload 7, 2) := by decide +kernel
theorem d_M_run_192 : decode m_M_run.2.1 192 = .ok (.iconst 0, 1) := by decide +kernel
theorem d_M_run_193 : decode m_M_run.2.1 193 = .ok (.invokevirtual 379, 3) := by decide +kernel
theorem d_M_run_196 : decode m_M_run.2.1 196 = .ok (.iastore, 1) := by decide +kernel
theorem d_M_run_197 : decode m_M_run.2.1 197 = .ok (.aload_n 0, 1) := by decide +kernel
theorem d_M_run_198 : decode m_M_run.2.1 198 = .ok (.iload 7, 2) := by decide +kernel
theorem d_M_run_200 : decode m_M_run.2.1 200 = .ok (.invokevirtual 268, 3) := by decide +kernel
theorem d_M_run_203 : decode m_M_run.2.1 203 = .ok (.istore 7, 2) := by decide +kernel
theorem d_M_run_205 : decode m_M_run.2.1 205 = .ok (.iinc 8 1, 3) := by decide +kernel
theorem d_M_run_208 : decode m_M_run.2.1 208 = .ok (.goto (-37), 3) := by decide +kernel
theorem d_M_run_211 : decode m_M_run.2.1 211 = .ok (.aload_n 0, 1) := by decide +kernel
theorem d_M_run_212 : decode m_M_run.2.1 212 = .ok (.iload_n 3, 1) := by decide +kernel
theorem d_M_run_213 : decode m_M_run.2.1 213 = .ok (.putfield 194, 3) := by decide +kernel
theorem d_M_run_216 : decode m_M_run.2.1 216 = .ok (.iload 6, 2) := by decide +kernel
theorem d_M_run_218 : decode m_M_run.2.1 218 = .ok (.ifCond .ne 23, 3) := by decide +kernel
theorem d_M_run_221 : decode m_M_run.2.1 221 = .ok (.iload 4, 2) := by decide +kernel
theorem d_M_run_223 : decode m_M_run.2.1 223 = .ok (.ifCond .lt 10, 3) := by decide +kernel
theorem d_M_run_226 : decode m_M_run.2.1 226 = .ok (.iconst (-1), 1) := by decide +kernel
theorem d_M_run_227 : decode m_M_run.2.1 227 = .ok (.iload 4, 2) := by decide +kernel
theorem d_M_run_229 : decode m_M_run.2.1 229 = .ok (.isub, 1) := by decide +kernel
theorem d_M_run_230 : decode m_M_run.2.1 230 = .ok (.goto 10, 3) := by decide +kernel
theorem d_M_run_233 : decode m_M_run.2.1 233 = .ok (.bipush (-100), 2) := by decide +kernel
theorem d_M_run_235 : decode m_M_run.2.1 235 = .ok (.aload_n 0, 1) := by decide +kernel
theorem d_M_run_236 : decode m_M_run.2.1 236 = .ok (.getfield 367, 3) := by decide +kernel
theorem d_M_run_239 : decode m_M_run.2.1 239 = .ok (.isub, 1) := by decide +kernel
theorem d_M_run_240 : decode m_M_run.2.1 240 = .ok (.ireturn, 1) := by decide +kernel
theorem d_M_run_241 : decode m_M_run.2.1 241 = .ok (.aload_n 0, 1) := by decide +kernel
theorem d_M_run_242 : decode m_M_run.2.1 242 = .ok (.iload_n 2, 1) := by decide +kernel
theorem d_M_run_243 : decode m_M_run.2.1 243 = .ok (.invokevirtual 382, 3) := by decide +kernel
theorem d_M_run_246 : decode m_M_run.2.1 246 = .ok (.istore 8, 2) := by decide +kernel
theorem d_M_run_248 : decode m_M_run.2.1 248 = .ok (.iload 8, 2) := by decide +kernel
theorem d_M_run_250 : decode m_M_run.2.1 250 = .ok (.iconst (-1), 1) := by decide +kernel
theorem d_M_run_251 : decode m_M_run.2.1 251 = .ok (.if_icmp .ne 9, 3) := by decide +kernel
theorem d_M_run_254 : decode m_M_run.2.1 254 = .ok (.sipush (-300), 3) := by decide +kernel
theorem d_M_run_257 : decode m_M_run.2.1 257 = .ok (.goto 9, 3) := by decide +kernel
theorem d_M_run_260 : decode m_M_run.2.1 260 = .ok (.aload_n 0, 1) := by decide +kernel
theorem d_M_run_261 : decode m_M_run.2.1 261 = .ok (.iload 8, 2) := by decide +kernel
theorem d_M_run_263 : decode m_M_run.2.1 263 = .ok (.invokevirtual 450, 3) := by decide +kernel
theorem d_M_run_266 : decode m_M_run.2.1 266 = .ok (.istore 9, 2) := by decide +kernel
theorem d_M_run_268 : decode m_M_run.2.1 268 = .ok (.iload 9, 2) := by decide +kernel
theorem d_M_run_270 : decode m_M_run.2.1 270 = .ok (.ifCond .ge 8, 3) := by decide +kernel
theorem d_M_run_273 : decode m_M_run.2.1 273 = .ok (.iload 9, 2) := by decide +kernel
theorem d_M_run_275 : decode m_M_run.2.1 275 = .ok (.goto 9, 3) := by decide +kernel
theorem d_M_run_278 : decode m_M_run.2.1 278 = .ok (.aload_n 0, 1) := by decide +kernel
theorem d_M_run_279 : decode m_M_run.2.1 279 = .ok (.iload 9, 2) := by decide +kernel
theorem d_M_run_281 : decode m_M_run.2.1 281 = .ok (.invokevirtual 459, 3) := by decide +kernel
theorem d_M_run_284 : decode m_M_run.2.1 284 = .ok (.ireturn, 1) := by decide +kernel
theorem d_M_steps_0 : decode m_M_steps.2.1 0 = .ok (.aload_n 0, 1) := by decide +kernel
theorem d_M_steps_1 : decode m_M_steps.2.1 1 = .ok (.iconst 0, 1) := by decide +kernel
theorem d_M_steps_2 : decode m_M_steps.2.1 2 = .ok (.putfield 184, 3) := by decide +kernel
theorem d_M_steps_5 : decode m_M_steps.2.1 5 = .ok (.aload_n 0, 1) := by decide +kernel
theorem d_M_steps_6 : decode m_M_steps.2.1 6 = .ok (.getfield 329, 3) := by decide +kernel
theorem d_M_steps_9 : decode m_M_steps.2.1 9 = .ok (.ireturn, 1) := by decide +kernel
theorem d_M_kind_0 : decode m_M_kind.2.1 0 = .ok (.aload_n 0, 1) := by decide +kernel
theorem d_M_kind_1 : decode m_M_kind.2.1 1 = .ok (.iconst 0, 1) := by decide +kernel
theorem d_M_kind_2 : decode m_M_kind.2.1 2 = .ok (.putfield 184, 3) := by decide +kernel
theorem d_M_kind_5 : decode m_M_kind.2.1 5 = .ok (.iload_n 1, 1) := by decide +kernel
theorem d_M_kind_6 : decode m_M_kind.2.1 6 = .ok (.invokestatic 215, 3) := by decide +kernel
theorem d_M_kind_9 : decode m_M_kind.2.1 9 = .ok (.ifCond .eq 15, 3) := by decide +kernel
theorem d_M_kind_12 : decode m_M_kind.2.1 12 = .ok (.aload_n 0, 1) := by decide +kernel
theorem d_M_kind_13 : decode m_M_kind.2.1 13 = .ok (.getfield 19, 3) := by decide +kernel
theorem d_M_kind_16 : decode m_M_kind.2.1 16 = .ok (.iload_n 1, 1) := by decide +kernel
theorem d_M_kind_17 : decode m_M_kind.2.1 17 = .ok (.bipush 65, 2) := by decide +kernel
theorem d_M_kind_19 : decode m_M_kind.2.1 19 = .ok (.isub, 1) := by decide +kernel
theorem d_M_kind_20 : decode m_M_kind.2.1 20 = .ok (.iaload, 1) := by decide +kernel
theorem d_M_kind_21 : decode m_M_kind.2.1 21 = .ok (.goto 4, 3) := by decide +kernel
theorem d_M_kind_24 : decode m_M_kind.2.1 24 = .ok (.iconst 0, 1) := by decide +kernel
theorem d_M_kind_25 : decode m_M_kind.2.1 25 = .ok (.ireturn, 1) := by decide +kernel
theorem d_M_parameters_0 : decode m_M_parameters.2.1 0 = .ok (.aload_n 0, 1) := by decide +kernel
theorem d_M_parameters_1 : decode m_M_parameters.2.1 1 = .ok (.iconst 0, 1) := by decide +kernel
theorem d_M_parameters_2 : decode m_M_parameters.2.1 2 = .ok (.putfield 184, 3) := by decide +kernel
theorem d_M_parameters_5 : decode m_M_parameters.2.1 5 = .ok (.iload_n 1, 1) := by decide +kernel
theorem d_M_parameters_6 : decode m_M_parameters.2.1 6 = .ok (.invokestatic 215, 3) := by decide +kernel
theorem d_M_parameters_9 : decode m_M_parameters.2.1 9 = .ok (.ifCond .eq 15, 3) := by decide +kernel
theorem d_M_parameters_12 : decode m_M_parameters.2.1 12 = .ok (.aload_n 0, 1) := by decide +kernel
theorem d_M_parameters_13 : decode m_M_parameters.2.1 13 = .ok (.getfield 19, 3) := by decide +kernel
theorem d_M_parameters_16 : decode m_M_parameters.2.1 16 = .ok (.iload_n 1, 1) := by decide +kernel
theorem d_M_parameters_17 : decode m_M_parameters.2.1 17 = .ok (.bipush 65, 2) := by decide +kernel
theorem d_M_parameters_19 : decode m_M_parameters.2.1 19 = .ok (.isub, 1) := by decide +kernel
theorem d_M_parameters_20 : decode m_M_parameters.2.1 20 = .ok (.iaload, 1) := by decide +kernel
theorem d_M_parameters_21 : decode m_M_parameters.2.1 21 = .ok (.ifCond .ne 7, 3) := by decide +kernel
theorem d_M_parameters_24 : decode m_M_parameters.2.1 24 = .ok (.iconst (-1), 1) := by decide +kernel
theorem d_M_parameters_25 : decode m_M_parameters.2.1 25 = .ok (.goto 12, 3) := by decide +kernel
theorem d_M_parameters_28 : decode m_M_parameters.2.1 28 = .ok (.aload_n 0, 1) := by decide +kernel
theorem d_M_parameters_29 : decode m_M_parameters.2.1 29 = .ok (.getfield 22, 3) := by decide +kernel
theorem d_M_parameters_32 : decode m_M_parameters.2.1 32 = .ok (.iload_n 1, 1) := by decide +kernel
theorem d_M_parameters_33 : decode m_M_parameters.2.1 33 = .ok (.bipush 65, 2) := by decide +kernel
theorem d_M_parameters_35 : decode m_M_parameters.2.1 35 = .ok (.isub, 1) := by decide +kernel
theorem d_M_parameters_36 : decode m_M_parameters.2.1 36 = .ok (.iaload, 1) := by decide +kernel
theorem d_M_parameters_37 : decode m_M_parameters.2.1 37 = .ok (.ireturn, 1) := by decide +kernel
theorem d_M_length_0 : decode m_M_length.2.1 0 = .ok (.aload_n 0, 1) := by decide +kernel
theorem d_M_length_1 : decode m_M_length.2.1 1 = .ok (.iconst 0, 1) := by decide +kernel
theorem d_M_length_2 : decode m_M_length.2.1 2 = .ok (.putfield 184, 3) := by decide +kernel
theorem d_M_length_5 : decode m_M_length.2.1 5 = .ok (.aload_n 0, 1) := by decide +kernel
theorem d_M_length_6 : decode m_M_length.2.1 6 = .ok (.getfield 314, 3) := by decide +kernel
theorem d_M_length_9 : decode m_M_length.2.1 9 = .ok (.ireturn, 1) := by decide +kernel
theorem d_M_charAt_0 : decode m_M_charAt.2.1 0 = .ok (.aload_n 0, 1) := by decide +kernel
theorem d_M_charAt_1 : decode m_M_charAt.2.1 1 = .ok (.iconst 0, 1) := by decide +kernel
theorem d_M_charAt_2 : decode m_M_charAt.2.1 2 = .ok (.putfield 184, 3) := by decide +kernel
theorem d_M_charAt_5 : decode m_M_charAt.2.1 5 = .ok (.iload_n 1, 1) := by decide +kernel
theorem d_M_charAt_6 : decode m_M_charAt.2.1 6 = .ok (.ifCond .lt 11, 3) := by decide +kernel
theorem d_M_charAt_9 : decode m_M_charAt.2.1 9 = .ok (.iload_n 1, 1) := by decide +kernel
theorem d_M_charAt_10 : decode m_M_charAt.2.1 10 = .ok (.aload_n 0, 1) := by decide +kernel
theorem d_M_charAt_11 : decode m_M_charAt.2.1 11 = .ok (.getfield 314, 3) := by decide +kernel
theorem d_M_charAt_14 : decode m_M_charAt.2.1 14 = .ok (.if_icmp .lt 8, 3) := by decide +kernel
theorem d_M_charAt_17 : decode m_M_charAt.2.1 17 = .ok (.bipush 32, 2) := by decide +kernel
theorem d_M_charAt_19 : decode m_M_charAt.2.1 19 = .ok (.goto 10, 3) := by decide +kernel
theorem d_M_charAt_22 : decode m_M_charAt.2.1 22 = .ok (.aload_n 0, 1) := by decide +kernel
theorem d_M_charAt_23 : decode m_M_charAt.2.1 23 = .ok (.getfield 13, 3) := by decide +kernel
theorem d_M_charAt_26 : decode m_M_charAt.2.1 26 = .ok (.iload_n 1, 1) := by decide +kernel
theorem d_M_charAt_27 : decode m_M_charAt.2.1 27 = .ok (.iaload, 1) := by decide +kernel
theorem d_M_charAt_28 : decode m_M_charAt.2.1 28 = .ok (.i2c, 1) := by decide +kernel
theorem d_M_charAt_29 : decode m_M_charAt.2.1 29 = .ok (.ireturn, 1) := by decide +kernel
